/-! floats up to the sign of zero -/
def fz (a b : UInt32) : Prop := a = b ∨ (fu a = 0 ∧ fu b = 0)
theorem fz.rf {a : UInt32} : fz a a := Or.inl rfl
theorem fz.sy {a b : UInt32} (h : fz a b) : fz b a := h.elim (fun e => Or.inl e.symm) (fun e => Or.inr ⟨e.2, e.1⟩)
theorem fz.ue {a b : UInt32} (h : fz a b) : fu a = fu b := h.elim (fun e => by rw [e]) (fun e => e.1.trans e.2.symm)
theorem fz.bd {a b : UInt32} {j : Nat} (h : fz a b) (hb : fB j b) : fB j a := by
  show fu a ≤ 2 ^ j
  rw [h.ue]; exact hb
theorem fu_z {a : UInt32} (h : fu a = 0) : a = 0 ∨ a = 2147483648 := by
  have h1 : a.toNat % 2 ^ 31 ≤ 0 := fu_le_iff.mp (show fu a ≤ Jvm.FP.Core.unitsOf Jvm.FP.Core.b32 0 by rw [h]; exact Nat.zero_le _)
  have h2 := a.toNat_lt
  have : a.toNat = 0 ∨ a.toNat = 2147483648 := by omega
  rcases this with y | y
  · exact Or.inl (UInt32.toNat_inj.mp y)
  · exact Or.inr (UInt32.toNat_inj.mp y)
theorem frep_0 : frep 0 := ⟨0, by decide, by decide⟩
theorem frep_1 : frep 1 := ⟨1, by decide, by decide⟩
theorem fz.mul {a b a' b' : UInt32} (ha : fz a a') (hb : fz b b') (fa : fF a) (fb : fF b) (fa' : fF a') (fb' : fF b') : fz (FP.fmul a b) (FP.fmul a' b') := by
  have z : ∀ {x y : UInt32}, fF x → fF y → (fu x = 0 ∨ fu y = 0) → fu (FP.fmul x y) = 0 := fun {x y} hx hy h => by
    have := fmul_le hx hy frep_0 (by rcases h with e | e <;> rw [e] <;> omega)
    omega
  rcases ha with rfl | ⟨e1, e2⟩
  · rcases hb with rfl | ⟨e3, e4⟩
    · exact Or.inl rfl
    · exact Or.inr ⟨z fa fb (Or.inr e3), z fa fb' (Or.inr e4)⟩
  · exact Or.inr ⟨z fa fb (Or.inl e1), z fa' fb' (Or.inl e2)⟩
/-- no sum is the negative zero -/
def fnn (a : UInt32) : Prop := a ≠ 2147483648
theorem fadd_z0 {a : UInt32} (ha : fF a) (hn : fnn a) : FP.fadd a 0 = a := Jvm.FP.Core.fadd_zero ha.ne_nan hn
theorem fadd_z1 {a : UInt32} (ha : fF a) : FP.fadd a 2147483648 = a := Jvm.FP.Core.fadd_zeroNeg ha.ne_nan
theorem fadd_fz {a y y' : UInt32} (ha : fF a) (hn : fnn a) (h : fz y y') : FP.fadd a y = FP.fadd a y' := by
  rcases h with rfl | ⟨e1, e2⟩
  · rfl
  · have k : ∀ {x : UInt32}, fu x = 0 → FP.fadd a x = a := fun {x} e => by
      rcases fu_z e with rfl | rfl
      · exact fadd_z0 ha hn
      · exact fadd_z1 ha
    rw [k e1, k e2]
theorem fadd_nn {a b : UInt32} (ha : fF a) (hb : fF b) (hn : fnn a) : fnn (FP.fadd a b) := by
  rcases Nat.eq_zero_or_pos (fu a) with a0 | a0
  · rcases fu_z a0 with rfl | rfl
    · rcases Classical.em (b = 2147483648) with rfl | y
      · rw [fadd_z1 ha]; exact hn
      · have e : FP.fadd 0 b = FP.fadd b 0 := Jvm.FP.Core.fadd_comm 0 b
        rw [e, fadd_z0 hb y]; exact y
    · exact absurd rfl hn
  · intro hz
    have za := fu_zmag ha
    have zb := fu_zmag hb
    obtain ⟨s, c, q, ea⟩ := id ha
    obtain ⟨t, d, r, eb⟩ := id hb
    have fa := Jvm.FP.Core.val32_fits a
    have fb := Jvm.FP.Core.val32_fits b
    have hv : Jvm.FP.Core.val32 (FP.fadd a b) = _ := Jvm.FP.Core.val32_fadd a b
    rw [ea] at fa za hv
    rw [eb] at fb zb hv
    obtain ⟨sg, v, e, p1, p2, p3⟩ := Jvm.FP.Core.sum_units fa fb
    rw [p1] at hv
    have hv' : Jvm.FP.Core.decode Jvm.FP.Core.b32 (FP.fadd a b).toNat = Jvm.FP.Core.roundRatio Jvm.FP.Core.b32 sg v 1 e := hv
    have f0 : fu (FP.fadd a b) = 0 := by rw [hz]; decide +kernel
    have v0 : Jvm.FP.Core.inUnits v e Jvm.FP.Core.b32.qmin = 0 := by
      rcases Nat.eq_zero_or_pos (Jvm.FP.Core.inUnits v e Jvm.FP.Core.b32.qmin) with y | y
      · exact y
      · obtain ⟨m, hm, em⟩ := frep_1
        have k : Jvm.FP.Core.unitsOf Jvm.FP.Core.b32 m ≤ fu (FP.fadd a b) := by
          refine Jvm.FP.Core.unitsOf_le_iff.mpr ?_
          rw [← Jvm.FP.Core.mag_toNat32]
          refine Jvm.FP.Core.mag_ge Jvm.FP.Core.good_b32 hv' (by decide) (e0 := Jvm.FP.Core.b32.qmin) (by omega) p2 (by rw [Jvm.FP.Core.infBits_b32]; exact hm) ?_
          rw [Int.sub_self, Int.toNat_zero, Nat.pow_zero, Nat.mul_one, Nat.mul_one, em]
          exact y
        rw [em, f0] at k
        omega
    have vz : v = 0 := by
      unfold Jvm.FP.Core.inUnits at v0
      rcases Nat.mul_eq_zero.mp v0 with y | y
      · exact y
      · exact absurd y (Nat.ne_of_gt (Nat.two_pow_pos _))
    rw [v0] at p3
    have p3 : Jvm.FP.Core.zval Jvm.FP.Core.b32 (.fin s c q) + Jvm.FP.Core.zval Jvm.FP.Core.b32 (.fin t d r) = 0 := by
      rw [← p3]; cases sg <;> rfl
    have sf : sg = false := by
      have p1 : Jvm.FP.Core.Datum.fin (Jvm.FP.Core.sumSign s t _) (Int.natAbs _) _ = Jvm.FP.Core.Datum.fin sg v e := p1
      injection p1 with q1 q2 q3
      rw [vz, Int.natAbs_eq_zero] at q2
      unfold Jvm.FP.Core.sumSign at q1
      rw [if_pos q2] at q1
      have ia : Jvm.FP.Core.zval Jvm.FP.Core.b32 (.fin s c q) = Jvm.FP.Core.signed s (fu a) := by rw [← za]; rfl
      have ib : Jvm.FP.Core.zval Jvm.FP.Core.b32 (.fin t d r) = Jvm.FP.Core.signed t (fu b) := by rw [← zb]; rfl
      rw [ia, ib] at p3
      rw [← q1]
      cases s with
      | false => rfl
      | true =>
        cases t with
        | false => rfl
        | true =>
          unfold Jvm.FP.Core.signed at p3
          rw [if_pos rfl, if_pos rfl] at p3
          omega
    rw [sf] at hv
    have pp := fpos_of hv
    unfold fpos at pp
    rw [hz] at pp
    exact absurd pp (by decide)
theorem pS_z {f g : Nat → UInt32} {k : Nat} (h1 : 23 ≤ k) (h2 : k ≤ 272) : ∀ n, n ≤ 16 → (∀ j, j < n → fB k (f j) ∧ fz (f j) (g j)) → pS f n = pS g n ∧ fnn (pS f n)
  | 0, _, _ => ⟨rfl, show FP.fconst0 ≠ 2147483648 by decide⟩
  | n + 1, hn, h => by
    obtain ⟨e, nn⟩ := pS_z (f := f) (g := g) h1 h2 n (by omega) (fun j hj => h j (by omega))
    have fn : fF (pS f n) := pS_F h1 h2 (by omega) (fun j hj => (h j (by omega)).1)
    have fy : fF (f n) := (h n (by omega)).1.fin (by omega)
    refine ⟨?_, fadd_nn fn fy nn⟩
    show FP.fadd (pS f n) (f n) = FP.fadd (pS g n) (g n)
    rw [← e]
    exact fadd_fz fn nn (h n (by omega)).2
theorem pDt_z {A B A' B' : Nat → UInt32} {i j k n : Nat} (hA : ∀ t, t < n → fB i (A t) ∧ fz (A t) (A' t)) (hB : ∀ t, t < n → fB j (B t) ∧ fz (B t) (B' t)) (hi : i ≤ 276) (hj : j ≤ 276) (hk : i + j ≤ k + 149) (h1 : 23 ≤ k) (h2 : k ≤ 272) (hn : n ≤ 16) : pDt A B n = pDt A' B' n ∧ fnn (pDt A B n) := by
  refine pS_z h1 h2 n hn (fun t ht => ⟨(hA t ht).1.mul (hB t ht).1 hi hj hk h1 (by omega), ?_⟩)
  exact (hA t ht).2.mul (hB t ht).2 ((hA t ht).1.fin hi) ((hB t ht).1.fin hj) (((hA t ht).2.sy.bd (hA t ht).1).fin hi) (((hB t ht).2.sy.bd (hB t ht).1).fin hj)
theorem fsq_z {a b : UInt32} (h : fz a b) : FP.fmul a a = FP.fmul b b := by
  have k : ∀ {x : UInt32}, fu x = 0 → FP.fmul x x = 0 := fun {x} e => by
    rcases fu_z e with rfl | rfl <;> decide +kernel
  rcases h with rfl | ⟨e1, e2⟩
  · rfl
  · rw [k e1, k e2]
/-- times a number, cut -/
theorem f2i_z {a b : UInt32} (h : fz a b) {c : UInt32} (hc : c = 1199570944) : FP.f2i (FP.fmul a c) = FP.f2i (FP.fmul b c) := by
  subst hc
  have k : ∀ {x : UInt32}, fu x = 0 → FP.f2i (FP.fmul x 1199570944) = 0 := fun {x} e => by
    rcases fu_z e with rfl | rfl <;> decide +kernel
  rcases h with rfl | ⟨e1, e2⟩
  · rfl
  · rw [k e1, k e2]
