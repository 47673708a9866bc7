/-! floats: magnitudes in units of the least number -/
def fu (x : UInt32) : Nat := Jvm.FP.Core.unitsOf Jvm.FP.Core.b32 (x.toNat % 2 ^ 31)
/-- a magnitude that a float can have -/
def frep (N : Nat) : Prop := ∃ m, m ≤ 2139095040 ∧ Jvm.FP.Core.unitsOf Jvm.FP.Core.b32 m = N
/-- the sign is plus -/
def fpos (x : UInt32) : Prop := x.toNat < 2 ^ 31
theorem fu_le_iff {x : UInt32} {m : Nat} : fu x ≤ Jvm.FP.Core.unitsOf Jvm.FP.Core.b32 m ↔ x.toNat % 2 ^ 31 ≤ m := Jvm.FP.Core.unitsOf_le_iff
theorem fu_zmag {x : UInt32} (h : Jvm.FP.Core.FFin x) : Jvm.FP.Core.zmag Jvm.FP.Core.b32 (Jvm.FP.Core.val32 x) = fu x := Jvm.FP.Core.zmag_toNat32 h.ne_nan
theorem funits_pow {K : Nat} (h : 1 ≤ K) : Jvm.FP.Core.unitsOf Jvm.FP.Core.b32 (K * 2 ^ 23) = 2 ^ (K + 22) := by
  have := Jvm.FP.Core.unitsOf_start (f := Jvm.FP.Core.b32) h
  rw [Jvm.FP.Core.tails_b32] at this
  rw [this, ← Nat.pow_add]
  congr 1
  omega
theorem frep_pow {j : Nat} (h1 : 23 ≤ j) (h2 : j ≤ 277) : frep (2 ^ j) := ⟨(j - 22) * 2 ^ 23, by omega, by rw [funits_pow (by omega)]; congr 1; omega⟩
theorem frep_fu {x : UInt32} (h : x.toNat % 2 ^ 31 ≤ 2139095040) : frep (fu x) := ⟨_, h, rfl⟩
theorem frep_fin {x : UInt32} (h : Jvm.FP.Core.FFin x) : frep (fu x) := frep_fu (Nat.le_of_lt ((Jvm.FP.Core.fin_bits32 x).mp h))
theorem frep_mid {j t : Nat} (h1 : 19 ≤ j) (h2 : j ≤ 272) (ht : t < 16) : frep ((16 + t) * 2 ^ j) := by
  refine ⟨(j - 18) * 2 ^ 23 + t * 2 ^ 19, by omega, ?_⟩
  unfold Jvm.FP.Core.unitsOf
  rw [Jvm.FP.Core.tails_b32, if_neg (by omega), show ((j - 18) * 2 ^ 23 + t * 2 ^ 19) % 2 ^ 23 = t * 2 ^ 19 by omega, show ((j - 18) * 2 ^ 23 + t * 2 ^ 19) / 2 ^ 23 = j - 18 by omega]
  have e : 2 ^ 23 + t * 2 ^ 19 = (16 + t) * 2 ^ 19 := by omega
  rw [e, Nat.mul_assoc, ← Nat.pow_add]
  congr 2
  omega
theorem frep_i {i j : Nat} (h0 : 1 ≤ i) (hi : i ≤ 16) (h1 : 23 ≤ j) (h2 : j ≤ 272) : frep (i * 2 ^ j) := by
  have go : ∀ s t, s ≤ 4 → t < 16 → 2 ^ s * i = 16 + t → frep (i * 2 ^ j) := by
    intro s t hs ht e
    have : i * 2 ^ j = (16 + t) * 2 ^ (j - s) := by
      rw [← e, Nat.mul_comm (2 ^ s), Nat.mul_assoc, ← Nat.pow_add]
      congr 2
      omega
    rw [this]
    exact frep_mid (by omega) (by omega) ht
  match i, h0, hi with
  | 1, _, _ => exact go 4 0 (by decide) (by decide) rfl
  | 2, _, _ => exact go 3 0 (by decide) (by decide) rfl
  | 3, _, _ => exact go 3 8 (by decide) (by decide) rfl
  | 4, _, _ => exact go 2 0 (by decide) (by decide) rfl
  | 5, _, _ => exact go 2 4 (by decide) (by decide) rfl
  | 6, _, _ => exact go 2 8 (by decide) (by decide) rfl
  | 7, _, _ => exact go 2 12 (by decide) (by decide) rfl
  | 8, _, _ => exact go 1 0 (by decide) (by decide) rfl
  | 9, _, _ => exact go 1 2 (by decide) (by decide) rfl
  | 10, _, _ => exact go 1 4 (by decide) (by decide) rfl
  | 11, _, _ => exact go 1 6 (by decide) (by decide) rfl
  | 12, _, _ => exact go 1 8 (by decide) (by decide) rfl
  | 13, _, _ => exact go 1 10 (by decide) (by decide) rfl
  | 14, _, _ => exact go 1 12 (by decide) (by decide) rfl
  | 15, _, _ => exact go 1 14 (by decide) (by decide) rfl
  | 16, _, _ => exact go 0 0 (by decide) (by decide) rfl
  | i + 17, _, h => exact absurd h (by omega)
theorem ffin_of {x : UInt32} {j : Nat} (h : fu x ≤ 2 ^ j) (hj : j ≤ 276) : Jvm.FP.Core.FFin x := by
  rw [Jvm.FP.Core.fin_bits32]
  have h2 : (2 : Nat) ^ j ≤ 2 ^ 276 := Nat.pow_le_pow_right (by decide) hj
  have h3 : fu x ≤ Jvm.FP.Core.unitsOf Jvm.FP.Core.b32 (254 * 2 ^ 23) := by rw [funits_pow (by decide)]; exact Nat.le_trans h h2
  have := fu_le_iff.mp h3
  omega
/-- the sum's magnitude before it is rounded -/
theorem fadd_ex {a b : UInt32} (ha : Jvm.FP.Core.FFin a) (hb : Jvm.FP.Core.FFin b) : ∃ sg v e, Jvm.FP.Core.decode Jvm.FP.Core.b32 (FP.fadd a b).toNat = Jvm.FP.Core.roundRatio Jvm.FP.Core.b32 sg v 1 e ∧ Jvm.FP.Core.b32.qmin ≤ e ∧ Jvm.FP.Core.inUnits v e Jvm.FP.Core.b32.qmin ≤ fu a + fu b ∧ (fpos a → fpos b → Jvm.FP.Core.inUnits v e Jvm.FP.Core.b32.qmin = fu a + fu b ∧ sg = false) := by
  have za := fu_zmag ha
  have zb := fu_zmag hb
  have na := ha.ne_nan
  have nb := hb.ne_nan
  obtain ⟨s, c, q, ea⟩ := id ha
  obtain ⟨t, d, r, eb⟩ := id hb
  have fa := Jvm.FP.Core.val32_fits a
  have fb := Jvm.FP.Core.val32_fits b
  have sa : fpos a → s = false := fun h => by
    cases s with
    | false => rfl
    | true => exact absurd ((Jvm.FP.Core.sign_bits32 (a := a) (Or.inl ⟨c, q, ea⟩)).mp rfl) (by unfold fpos at h; omega)
  have sb : fpos b → t = false := fun h => by
    cases t with
    | false => rfl
    | true => exact absurd ((Jvm.FP.Core.sign_bits32 (a := b) (Or.inl ⟨d, r, eb⟩)).mp rfl) (by unfold fpos at h; omega)
  have hv : Jvm.FP.Core.val32 (FP.fadd a b) = _ := Jvm.FP.Core.val32_fadd a b
  rw [ea] at fa za hv
  rw [eb] at fb zb hv
  obtain ⟨sg, v, e, p1, p2, p3⟩ := Jvm.FP.Core.sum_units fa fb
  rw [p1] at hv
  have h1 := congrArg Int.natAbs p3
  rw [Jvm.FP.Core.natAbs_signed] at h1
  refine ⟨sg, v, e, hv, p2, ?_, fun pa pb => ?_⟩
  · rw [h1]
    refine Nat.le_trans (Int.natAbs_add_le _ _) ?_
    unfold Jvm.FP.Core.zval
    rw [Jvm.FP.Core.natAbs_signed, Jvm.FP.Core.natAbs_signed, za, zb]
    exact Nat.le_refl _
  · have e1 := sa pa
    have e2 := sb pb
    subst e1
    subst e2
    have e3 : Jvm.FP.Core.zval Jvm.FP.Core.b32 (.fin false c q) = (fu a : Int) := by rw [← za]; rfl
    have e4 : Jvm.FP.Core.zval Jvm.FP.Core.b32 (.fin false d r) = (fu b : Int) := by rw [← zb]; rfl
    rw [e3, e4] at h1 p3
    refine ⟨by rw [h1]; omega, ?_⟩
    cases sg with
    | false => rfl
    | true =>
      have p1 : Jvm.FP.Core.Datum.fin (Jvm.FP.Core.sumSign false false _) _ _ = Jvm.FP.Core.Datum.fin true v e := p1
      injection p1 with q1 q2 q3
      unfold Jvm.FP.Core.sumSign at q1
      split at q1
      · cases q1
      · have q1 := of_decide_eq_true q1
        unfold Jvm.FP.Core.sumUnits Jvm.FP.Core.signed at q1
        rw [if_neg (by decide), if_neg (by decide)] at q1
        omega
theorem fadd_le {a b : UInt32} (ha : Jvm.FP.Core.FFin a) (hb : Jvm.FP.Core.FFin b) {N : Nat} (hN : frep N) (h : fu a + fu b ≤ N) : fu (FP.fadd a b) ≤ N := by
  obtain ⟨sg, v, e, p1, p2, p3, -⟩ := fadd_ex ha hb
  obtain ⟨m, hm, rfl⟩ := hN
  refine fu_le_iff.mpr ?_
  rw [← Jvm.FP.Core.mag_toNat32]
  refine Jvm.FP.Core.mag_le Jvm.FP.Core.good_b32 p1 (by decide) (e0 := Jvm.FP.Core.b32.qmin) (by omega) p2 ?_
  rw [Int.sub_self, Int.toNat_zero, Nat.pow_zero, Nat.mul_one, Nat.mul_one]
  omega
theorem fadd_ge {a b : UInt32} (ha : Jvm.FP.Core.FFin a) (hb : Jvm.FP.Core.FFin b) (pa : fpos a) (pb : fpos b) {N : Nat} (hN : frep N) (h : N ≤ fu a + fu b) : N ≤ fu (FP.fadd a b) := by
  obtain ⟨sg, v, e, p1, p2, -, p4⟩ := fadd_ex ha hb
  obtain ⟨m, hm, rfl⟩ := hN
  refine Jvm.FP.Core.unitsOf_le_iff.mpr ?_
  rw [← Jvm.FP.Core.mag_toNat32]
  refine Jvm.FP.Core.mag_ge Jvm.FP.Core.good_b32 p1 (by decide) (e0 := Jvm.FP.Core.b32.qmin) (by omega) p2 (by rw [Jvm.FP.Core.infBits_b32]; exact hm) ?_
  rw [Int.sub_self, Int.toNat_zero, Nat.pow_zero, Nat.mul_one, Nat.mul_one, (p4 pa pb).1]
  exact h
theorem fpos_of {x : UInt32} {v w : Nat} {e : Int} (h : Jvm.FP.Core.val32 x = Jvm.FP.Core.roundRatio Jvm.FP.Core.b32 false v w e) : fpos x := by
  have hn : Jvm.FP.Core.val32 x ≠ .nan := by rw [h]; exact Jvm.FP.Core.roundRatio_ne_nan _ _ _ _ _
  have hs := Jvm.FP.Core.sgn_bits32 hn
  rw [h, Jvm.FP.Core.sgn_roundRatio] at hs
  have := of_decide_eq_false hs.symm
  unfold fpos
  omega
theorem fadd_pos {a b : UInt32} (ha : Jvm.FP.Core.FFin a) (hb : Jvm.FP.Core.FFin b) (pa : fpos a) (pb : fpos b) : fpos (FP.fadd a b) := by
  obtain ⟨sg, v, e, p1, p2, -, p4⟩ := fadd_ex ha hb
  rw [(p4 pa pb).2] at p1
  exact fpos_of p1
theorem fmul_ex {a b : UInt32} (ha : Jvm.FP.Core.FFin a) (hb : Jvm.FP.Core.FFin b) : ∃ sg v e, Jvm.FP.Core.decode Jvm.FP.Core.b32 (FP.fmul a b).toNat = Jvm.FP.Core.roundRatio Jvm.FP.Core.b32 sg v 1 e ∧ 2 * Jvm.FP.Core.b32.qmin ≤ e ∧ Jvm.FP.Core.inUnits v e (2 * Jvm.FP.Core.b32.qmin) = fu a * fu b ∧ ((fpos a ↔ fpos b) → sg = false) := by
  have za := fu_zmag ha
  have zb := fu_zmag hb
  obtain ⟨s, c, q, ea⟩ := id ha
  obtain ⟨t, d, r, eb⟩ := id hb
  have fa := Jvm.FP.Core.val32_fits a
  have fb := Jvm.FP.Core.val32_fits b
  have sa := Jvm.FP.Core.sign_bits32 (a := a) (Or.inl ⟨c, q, ea⟩)
  have sb := Jvm.FP.Core.sign_bits32 (a := b) (Or.inl ⟨d, r, eb⟩)
  have hv : Jvm.FP.Core.val32 (FP.fmul a b) = _ := Jvm.FP.Core.val32_fmul a b
  rw [ea] at fa za hv
  rw [eb] at fb zb hv
  obtain ⟨p1, p2, p3⟩ := Jvm.FP.Core.product_units fa fb
  rw [p1] at hv
  rw [za, zb] at p3
  refine ⟨_, _, _, hv, p2, p3, fun h => ?_⟩
  unfold fpos at h
  cases s <;> cases t
  · rfl
  · have := sb.mp rfl; have : ¬ 2 ^ 31 ≤ a.toNat := fun w => by have := sa.mpr w; cases this
    omega
  · have := sa.mp rfl; have : ¬ 2 ^ 31 ≤ b.toNat := fun w => by have := sb.mpr w; cases this
    omega
  · rfl
theorem fqm : (Jvm.FP.Core.b32.qmin - 2 * Jvm.FP.Core.b32.qmin).toNat = 149 := by decide
theorem fmul_le {a b : UInt32} (ha : Jvm.FP.Core.FFin a) (hb : Jvm.FP.Core.FFin b) {N : Nat} (hN : frep N) (h : fu a * fu b ≤ N * 2 ^ 149) : fu (FP.fmul a b) ≤ N := by
  obtain ⟨sg, v, e, p1, p2, p3, -⟩ := fmul_ex ha hb
  obtain ⟨m, hm, rfl⟩ := hN
  refine fu_le_iff.mpr ?_
  rw [← Jvm.FP.Core.mag_toNat32]
  refine Jvm.FP.Core.mag_le Jvm.FP.Core.good_b32 p1 (by decide) (e0 := 2 * Jvm.FP.Core.b32.qmin) (by decide) p2 ?_
  rw [fqm, Nat.mul_one, p3]
  exact h
theorem fmul_ge {a b : UInt32} (ha : Jvm.FP.Core.FFin a) (hb : Jvm.FP.Core.FFin b) {N : Nat} (hN : frep N) (h : N * 2 ^ 149 ≤ fu a * fu b) : N ≤ fu (FP.fmul a b) := by
  obtain ⟨sg, v, e, p1, p2, p3, -⟩ := fmul_ex ha hb
  obtain ⟨m, hm, rfl⟩ := hN
  refine Jvm.FP.Core.unitsOf_le_iff.mpr ?_
  rw [← Jvm.FP.Core.mag_toNat32]
  refine Jvm.FP.Core.mag_ge Jvm.FP.Core.good_b32 p1 (by decide) (e0 := 2 * Jvm.FP.Core.b32.qmin) (by decide) p2 (by rw [Jvm.FP.Core.infBits_b32]; exact hm) ?_
  rw [fqm, Nat.mul_one, p3]
  exact h
theorem fmul_pos {a b : UInt32} (ha : Jvm.FP.Core.FFin a) (hb : Jvm.FP.Core.FFin b) (h : fpos a ↔ fpos b) : fpos (FP.fmul a b) := by
  obtain ⟨sg, v, e, p1, p2, -, p4⟩ := fmul_ex ha hb
  rw [p4 h] at p1
  exact fpos_of p1
theorem fdiv_ex {a b : UInt32} (ha : Jvm.FP.Core.FFin a) (hb : Jvm.FP.Core.FFin b) (h0 : fu b ≠ 0) : ∃ sg v w e e0, Jvm.FP.Core.decode Jvm.FP.Core.b32 (FP.fdiv a b).toNat = Jvm.FP.Core.roundRatio Jvm.FP.Core.b32 sg v w e ∧ 0 < w ∧ e0 ≤ Jvm.FP.Core.b32.qmin ∧ e0 ≤ e ∧ Jvm.FP.Core.inUnits v e e0 = fu a * 2 ^ 149 ∧ 2 ^ (Jvm.FP.Core.b32.qmin - e0).toNat * w = fu b ∧ ((fpos a ↔ fpos b) → sg = false) := by
  have za := fu_zmag ha
  have zb := fu_zmag hb
  obtain ⟨s, c, q, ea⟩ := id ha
  obtain ⟨t, d, r, eb⟩ := id hb
  have fa := Jvm.FP.Core.val32_fits a
  have fb := Jvm.FP.Core.val32_fits b
  have sa := Jvm.FP.Core.sign_bits32 (a := a) (Or.inl ⟨c, q, ea⟩)
  have sb := Jvm.FP.Core.sign_bits32 (a := b) (Or.inl ⟨d, r, eb⟩)
  have hv : Jvm.FP.Core.val32 (FP.fdiv a b) = _ := Jvm.FP.Core.val32_fdiv a b
  rw [ea] at fa za hv
  rw [eb] at fb zb hv
  have hd0 : d ≠ 0 := by
    rintro rfl
    have h1 : Jvm.FP.Core.zmag Jvm.FP.Core.b32 (.fin t 0 r) = 0 := Nat.zero_mul _
    omega
  simp only [Jvm.FP.Core.quotient, if_neg hd0] at hv
  have hx1 := fa.2.1
  have hy1 := fb.2.1
  have hq : Jvm.FP.Core.b32.qmin = -149 := Jvm.FP.Core.qmin_b32
  refine ⟨_, _, _, _, 2 * Jvm.FP.Core.b32.qmin - r, hv, by omega, by omega, by omega, ?_, ?_, fun h => ?_⟩
  · rw [← za]
    show c * _ = c * _ * _
    rw [Nat.mul_assoc, ← Nat.pow_add]; congr 2; omega
  · rw [← zb]
    show _ = d * _
    rw [Nat.mul_comm]; congr 2; omega
  · unfold fpos at h
    cases s <;> cases t
    · rfl
    · have := sb.mp rfl; have : ¬ 2 ^ 31 ≤ a.toNat := fun w => by have := sa.mpr w; cases this
      omega
    · have := sa.mp rfl; have : ¬ 2 ^ 31 ≤ b.toNat := fun w => by have := sb.mpr w; cases this
      omega
    · rfl
theorem fdiv_le {a b : UInt32} (ha : Jvm.FP.Core.FFin a) (hb : Jvm.FP.Core.FFin b) (h0 : fu b ≠ 0) {N : Nat} (hN : frep N) (h : fu a * 2 ^ 149 ≤ N * fu b) : fu (FP.fdiv a b) ≤ N := by
  obtain ⟨sg, v, w, e, e0, p1, p2, p3, p4, p5, p6, -⟩ := fdiv_ex ha hb h0
  obtain ⟨m, hm, rfl⟩ := hN
  refine fu_le_iff.mpr ?_
  rw [← Jvm.FP.Core.mag_toNat32]
  refine Jvm.FP.Core.mag_le Jvm.FP.Core.good_b32 p1 p2 p3 p4 ?_
  rw [p5, Nat.mul_assoc, p6]
  exact h
theorem fdiv_ge {a b : UInt32} (ha : Jvm.FP.Core.FFin a) (hb : Jvm.FP.Core.FFin b) (h0 : fu b ≠ 0) {N : Nat} (hN : frep N) (h : N * fu b ≤ fu a * 2 ^ 149) : N ≤ fu (FP.fdiv a b) := by
  obtain ⟨sg, v, w, e, e0, p1, p2, p3, p4, p5, p6, -⟩ := fdiv_ex ha hb h0
  obtain ⟨m, hm, rfl⟩ := hN
  refine Jvm.FP.Core.unitsOf_le_iff.mpr ?_
  rw [← Jvm.FP.Core.mag_toNat32]
  refine Jvm.FP.Core.mag_ge Jvm.FP.Core.good_b32 p1 p2 p3 p4 (by rw [Jvm.FP.Core.infBits_b32]; exact hm) ?_
  rw [p5, Nat.mul_assoc, p6]
  exact h
theorem fdiv_pos {a b : UInt32} (ha : Jvm.FP.Core.FFin a) (hb : Jvm.FP.Core.FFin b) (h0 : fu b ≠ 0) (h : fpos a ↔ fpos b) : fpos (FP.fdiv a b) := by
  obtain ⟨sg, v, w, e, e0, p1, p2, p3, p4, p5, p6, p7⟩ := fdiv_ex ha hb h0
  rw [p7 h] at p1
  exact fpos_of p1
