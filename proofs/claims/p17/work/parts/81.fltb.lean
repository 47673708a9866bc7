/-! floats: powers of two as bounds; comparisons -/
abbrev fF (x : UInt32) : Prop := Jvm.FP.Core.FFin x
theorem fF.n32 {x : UInt32} (h : fF x) : vf_n32 x := rf_n32 h.notNaN
/-- the magnitude is at most 2 ^ j units; one is 2 ^ 149 -/
def fB (j : Nat) (x : UInt32) : Prop := fu x ≤ 2 ^ j
theorem fB.fin {j : Nat} {x : UInt32} (h : fB j x) (hj : j ≤ 276) : fF x := ffin_of h hj
theorem fB.n32 {j : Nat} {x : UInt32} (h : fB j x) (hj : j ≤ 276) : vf_n32 x := (h.fin hj).n32
theorem fB.mono {i j : Nat} {x : UInt32} (h : fB i x) (hij : i ≤ j) : fB j x := Nat.le_trans h (Nat.pow_le_pow_right (by decide) hij)
theorem fB.mul {i j k : Nat} {a b : UInt32} (ha : fB i a) (hb : fB j b) (hi : i ≤ 276) (hj : j ≤ 276) (hk : i + j ≤ k + 149) (h1 : 23 ≤ k) (h2 : k ≤ 277) : fB k (FP.fmul a b) := by
  refine fmul_le (ha.fin hi) (hb.fin hj) (frep_pow h1 h2) (Nat.le_trans (Nat.mul_le_mul ha hb) ?_)
  rw [← Nat.pow_add, ← Nat.pow_add]
  exact Nat.pow_le_pow_right (by decide) hk
theorem fB.add {i j k : Nat} {a b : UInt32} (ha : fB i a) (hb : fB j b) (hi : i < k) (hj : j < k) (h1 : 23 ≤ k) (h2 : k ≤ 277) : fB k (FP.fadd a b) := by
  refine fadd_le (ha.fin (by omega)) (hb.fin (by omega)) (frep_pow h1 h2) ?_
  have e1 : (2 : Nat) ^ i ≤ 2 ^ (k - 1) := Nat.pow_le_pow_right (by decide) (by omega)
  have e2 : (2 : Nat) ^ j ≤ 2 ^ (k - 1) := Nat.pow_le_pow_right (by decide) (by omega)
  have e3 : (2 : Nat) ^ k = 2 ^ (k - 1) + 2 ^ (k - 1) := by
    obtain ⟨m, rfl⟩ : ∃ m, k = m + 1 := ⟨k - 1, by omega⟩
    rw [Nat.add_sub_cancel, Nat.pow_succ]; omega
  have ha : fu a ≤ 2 ^ i := ha
  have hb : fu b ≤ 2 ^ j := hb
  omega
theorem fB.div {i j k : Nat} {a b : UInt32} (ha : fB i a) (hb : fF b) (hbl : 2 ^ j ≤ fu b) (hi : i ≤ 276) (hk : i + 149 ≤ k + j) (h1 : 23 ≤ k) (h2 : k ≤ 277) : fB k (FP.fdiv a b) := by
  have h0 : fu b ≠ 0 := by have := Nat.two_pow_pos j; omega
  refine fdiv_le (ha.fin hi) hb h0 (frep_pow h1 h2) (Nat.le_trans (Nat.mul_le_mul_right _ ha) (Nat.le_trans ?_ (Nat.mul_le_mul_left _ hbl)))
  rw [← Nat.pow_add, ← Nat.pow_add]
  exact Nat.pow_le_pow_right (by decide) hk
theorem fneg_fu {x : UInt32} : fu (FP.fneg x) = fu x := by unfold fu; rw [fneg_mod]
theorem fu_val {a b : UInt32} (h : Jvm.FP.Core.val32 a = Jvm.FP.Core.val32 b) (hb : fF b) : fu a = fu b ∧ fF a := by
  obtain ⟨s, c, q, e⟩ := id hb
  have ha : fF a := ⟨s, c, q, h.trans e⟩
  refine ⟨?_, ha⟩
  rw [← fu_zmag ha, ← fu_zmag hb, h]
theorem fB.neg {i : Nat} {a : UInt32} (h : fB i a) : fB i (FP.fneg a) := by unfold fB; rw [fneg_fu]; exact h
theorem fsub_eq {a b : UInt32} : Jvm.FP.Core.val32 (FP.fsub a b) = Jvm.FP.Core.val32 (FP.fadd a (FP.fneg b)) := by
  have h1 : Jvm.FP.Core.val32 (FP.fsub a b) = _ := Jvm.FP.Core.val32_fsub a b
  have h2 : Jvm.FP.Core.val32 (FP.fadd a (FP.fneg b)) = _ := Jvm.FP.Core.val32_fadd a (FP.fneg b)
  rw [h1, h2, Jvm.FP.val32_fneg]
theorem fB.sub {i j k : Nat} {a b : UInt32} (ha : fB i a) (hb : fB j b) (hi : i < k) (hj : j < k) (h1 : 23 ≤ k) (h2 : k ≤ 276) : fB k (FP.fsub a b) := by
  have h := ha.add hb.neg hi hj h1 (by omega)
  have e := fsub_eq (a := a) (b := b)
  have := (fu_val e (h.fin h2)).1
  unfold fB
  rw [this]; exact h
/-- a sum of i things, each at most 2 ^ j -/
theorem fsum_le {a b : UInt32} {i j : Nat} (ha : fu a ≤ i * 2 ^ j) (hb : fB j b) (hi : i < 16) (h1 : 23 ≤ j) (h2 : j ≤ 272) : fu (FP.fadd a b) ≤ (i + 1) * 2 ^ j := by
  have h16 : i * 2 ^ j ≤ 2 ^ 276 := by
    have e : (2 : Nat) ^ j ≤ 2 ^ 272 := Nat.pow_le_pow_right (by decide) h2
    have : i * 2 ^ j ≤ 16 * 2 ^ 272 := Nat.mul_le_mul (by omega) e
    exact this
  refine fadd_le (ffin_of (Nat.le_trans ha h16) (by decide)) (hb.fin (by omega)) (frep_i (by omega) (by omega) h1 h2) ?_
  have hb : fu b ≤ 2 ^ j := hb
  rw [Nat.add_mul, Nat.one_mul]
  omega
theorem fsum_B {a : UInt32} {i j : Nat} (ha : fu a ≤ i * 2 ^ j) (hi : i ≤ 16) : fB (j + 4) a := by
  refine Nat.le_trans ha (Nat.le_trans (Nat.mul_le_mul_right _ hi) ?_)
  rw [Nat.pow_add, Nat.mul_comm]
  exact Nat.le_refl _
theorem fadd_lo {a b : UInt32} (ha : fF a) (hb : fF b) (pa : fpos a) (pb : fpos b) : fu a ≤ fu (FP.fadd a b) ∧ fu b ≤ fu (FP.fadd a b) := ⟨fadd_ge ha hb pa pb (frep_fin ha) (Nat.le_add_right _ _), fadd_ge ha hb pa pb (frep_fin hb) (Nat.le_add_left _ _)⟩
/-- a plus something smaller -/
theorem fadd_ge2 {a b : UInt32} (ha : fF a) (hb : fF b) (pa : fpos a) {N : Nat} (hN : frep N) (h0 : 0 < N) (h : N + fu b ≤ fu a) : N ≤ fu (FP.fadd a b) ∧ fpos (FP.fadd a b) := by
  have za := fu_zmag ha
  have zb := fu_zmag hb
  obtain ⟨s, c, q, ea⟩ := id ha
  obtain ⟨t, d, r, eb⟩ := id hb
  have fa := Jvm.FP.Core.val32_fits a
  have fb := Jvm.FP.Core.val32_fits b
  have sa : s = false := by
    cases s with
    | false => rfl
    | true => exact absurd ((Jvm.FP.Core.sign_bits32 (a := a) (Or.inl ⟨c, q, ea⟩)).mp rfl) (by unfold fpos at pa; omega)
  subst sa
  have hv : Jvm.FP.Core.val32 (FP.fadd a b) = _ := Jvm.FP.Core.val32_fadd a b
  rw [ea] at fa za hv
  rw [eb] at fb zb hv
  obtain ⟨sg, v, e, p1, p2, p3⟩ := Jvm.FP.Core.sum_units fa fb
  rw [p1] at hv
  have e3 : Jvm.FP.Core.zval Jvm.FP.Core.b32 (.fin false c q) = (fu a : Int) := by rw [← za]; rfl
  have e4 : -(fu b : Int) ≤ Jvm.FP.Core.zval Jvm.FP.Core.b32 (.fin t d r) := by
    unfold Jvm.FP.Core.zval
    rw [zb]
    unfold Jvm.FP.Core.signed
    split <;> omega
  rw [e3] at p3
  generalize Jvm.FP.Core.zval Jvm.FP.Core.b32 (.fin t d r) = zz at p3 e4
  have sg0 : sg = false ∧ N ≤ Jvm.FP.Core.inUnits v e Jvm.FP.Core.b32.qmin := by
    unfold Jvm.FP.Core.signed at p3
    cases sg with
    | false =>
      rw [if_neg (by decide)] at p3
      exact ⟨rfl, by omega⟩
    | true =>
      rw [if_pos rfl] at p3
      omega
  obtain ⟨rfl, hn⟩ := sg0
  refine ⟨?_, fpos_of hv⟩
  obtain ⟨m, hm, rfl⟩ := hN
  refine Jvm.FP.Core.unitsOf_le_iff.mpr ?_
  rw [← Jvm.FP.Core.mag_toNat32]
  have hv' : Jvm.FP.Core.decode Jvm.FP.Core.b32 (FP.fadd a b).toNat = Jvm.FP.Core.roundRatio Jvm.FP.Core.b32 false v 1 e := hv
  refine Jvm.FP.Core.mag_ge Jvm.FP.Core.good_b32 hv' (by decide) (e0 := Jvm.FP.Core.b32.qmin) (by omega) p2 (by rw [Jvm.FP.Core.infBits_b32]; exact hm) ?_
  rw [Int.sub_self, Int.toNat_zero, Nat.pow_zero, Nat.mul_one, Nat.mul_one]
  exact hn
theorem fcmp_v {a b : UInt32} (ha : fF a) (hb : fF b) (g : CmpOp) : Op.cmpValue (FP.fcmp a b) g = (match compare (Jvm.FP.Core.fkey a) (Jvm.FP.Core.fkey b) with | .lt => -1 | .eq => 0 | .gt => 1) := by
  have h : FP.fcmp a b = _ := Jvm.FP.Core.fcmp_key ha.ne_nan hb.ne_nan
  rw [h]
  cases compare (Jvm.FP.Core.fkey a) (Jvm.FP.Core.fkey b) <;> rfl
theorem fcmp_lt0 {a b : UInt32} (ha : fF a) (hb : fF b) (g : CmpOp) : Op.cmpValue (FP.fcmp a b) g < 0 ↔ Jvm.FP.Core.fkey a < Jvm.FP.Core.fkey b := by
  rw [fcmp_v ha hb, ← Int.compare_eq_lt]
  cases compare (Jvm.FP.Core.fkey a) (Jvm.FP.Core.fkey b) <;> decide
theorem fcmp_gt0 {a b : UInt32} (ha : fF a) (hb : fF b) (g : CmpOp) : 0 < Op.cmpValue (FP.fcmp a b) g ↔ Jvm.FP.Core.fkey b < Jvm.FP.Core.fkey a := by
  rw [fcmp_v ha hb, ← Int.compare_eq_gt]
  cases compare (Jvm.FP.Core.fkey a) (Jvm.FP.Core.fkey b) <;> decide
