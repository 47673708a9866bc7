/-! floats: sums, ROOT, EXP, NORM, TURN, shares as functions, and that none of them leaves the numbers -/
theorem fu_0 : fu FP.fconst0 = 0 := by decide +kernel
theorem fu_1 : fu FP.fconst1 = 2 ^ 149 := by decide +kernel
theorem fu_2 : fu FP.fconst2 = 2 ^ 150 := by decide +kernel
theorem fp_0 : fpos FP.fconst0 := by show FP.fconst0.toNat < 2 ^ 31; decide
theorem fp_1 : fpos FP.fconst1 := by show FP.fconst1.toNat < 2 ^ 31; decide
theorem fp_2 : fpos FP.fconst2 := by show FP.fconst2.toNat < 2 ^ 31; decide
theorem fF_1 : fF FP.fconst1 := ffin_of (j := 149) (by rw [fu_1]; exact Nat.le_refl _) (by decide)
theorem fF_2 : fF FP.fconst2 := ffin_of (j := 150) (by rw [fu_2]; exact Nat.le_refl _) (by decide)
theorem fF_0 : fF FP.fconst0 := ffin_of (j := 0) (by rw [fu_0]; exact Nat.zero_le _) (by decide)
theorem fB_1 : fB 149 FP.fconst1 := Nat.le_of_eq fu_1
theorem fB_2 : fB 150 FP.fconst2 := Nat.le_of_eq fu_2
theorem fB_0 : fB 23 FP.fconst0 := by unfold fB; rw [fu_0]; exact Nat.zero_le _
theorem p2_lt {a b : Nat} (h : (2 : Nat) ^ a < 2 ^ b) : a < b := (Nat.pow_lt_pow_iff_right (by decide)).mp h
theorem p2_le {a b : Nat} (h : a ≤ b) : (2 : Nat) ^ a ≤ 2 ^ b := Nat.pow_le_pow_right (by decide) h
/-- at least 2 ^ j units, and plus -/
def fL (j : Nat) (x : UInt32) : Prop := 2 ^ j ≤ fu x ∧ fpos x
theorem fL.mono {i j : Nat} {x : UInt32} (h : fL j x) (hij : i ≤ j) : fL i x := ⟨Nat.le_trans (p2_le hij) h.1, h.2⟩
theorem fL.nz {j : Nat} {x : UInt32} (h : fL j x) : fu x ≠ 0 := by have := Nat.two_pow_pos j; have := h.1; omega
theorem fL_1 : fL 149 FP.fconst1 := ⟨Nat.le_of_eq fu_1.symm, fp_1⟩
theorem fL.addl {j : Nat} {a b : UInt32} (h : fL j a) (ha : fF a) (hb : fF b) (pb : fpos b) : fL j (FP.fadd a b) := ⟨Nat.le_trans h.1 (fadd_lo ha hb h.2 pb).1, fadd_pos ha hb h.2 pb⟩
theorem fL.addr {j : Nat} {a b : UInt32} (h : fL j b) (ha : fF a) (hb : fF b) (pa : fpos a) : fL j (FP.fadd a b) := ⟨Nat.le_trans h.1 (fadd_lo ha hb pa h.2).2, fadd_pos ha hb pa h.2⟩
theorem fL.div {i j k : Nat} {a b : UInt32} (h : fL i a) (ha : fF a) (hb : fB j b) (hbz : fu b ≠ 0) (pb : fpos b) (hj : j ≤ 276) (hk : k + j ≤ i + 149) (h1 : 23 ≤ k) (h2 : k ≤ 277) : fL k (FP.fdiv a b) := by
  refine ⟨fdiv_ge ha (hb.fin hj) hbz (frep_pow h1 h2) ?_, fdiv_pos ha (hb.fin hj) hbz (iff_of_true h.2 pb)⟩
  refine Nat.le_trans (Nat.mul_le_mul_left _ hb) (Nat.le_trans ?_ (Nat.mul_le_mul_right _ h.1))
  rw [← Nat.pow_add, ← Nat.pow_add]
  exact p2_le hk
/-- halving -/
theorem fL.half {k : Nat} {a : UInt32} (h : fL (k + 1) a) (ha : fF a) (h1 : 23 ≤ k) (h2 : k ≤ 277) : fL k (FP.fdiv a FP.fconst2) := h.div ha fB_2 (by rw [fu_2]; decide) fp_2 (by decide) (by omega) h1 h2
theorem fB.half {k : Nat} {a : UInt32} (h : fB (k + 1) a) (hk : k ≤ 275) (h1 : 23 ≤ k) : fB k (FP.fdiv a FP.fconst2) := h.div fF_2 (j := 150) (Nat.le_of_eq fu_2.symm) (by omega) (by omega) h1 (by omega)
/-! sums -/
def pS (f : Nat → UInt32) : Nat → UInt32
  | 0 => FP.fconst0
  | n + 1 => FP.fadd (pS f n) (f n)
theorem pS_le {f : Nat → UInt32} {k : Nat} (h1 : 23 ≤ k) (h2 : k ≤ 272) : ∀ n, n ≤ 16 → (∀ j, j < n → fB k (f j)) → fu (pS f n) ≤ n * 2 ^ k
  | 0, _, _ => by show fu FP.fconst0 ≤ _; rw [fu_0]; exact Nat.zero_le _
  | n + 1, hn, h => fsum_le (pS_le h1 h2 n (by omega) (fun j hj => h j (by omega))) (h n (by omega)) (by omega) h1 h2
theorem pS_B {f : Nat → UInt32} {k n : Nat} (h1 : 23 ≤ k) (h2 : k ≤ 272) (hn : n ≤ 16) (h : ∀ j, j < n → fB k (f j)) : fB (k + 4) (pS f n) := fsum_B (pS_le h1 h2 n hn h) hn
theorem pS_F {f : Nat → UInt32} {k n : Nat} (h1 : 23 ≤ k) (h2 : k ≤ 272) (hn : n ≤ 16) (h : ∀ j, j < n → fB k (f j)) : fF (pS f n) := (pS_B h1 h2 hn h).fin (by omega)
theorem pS_pos {f : Nat → UInt32} {k : Nat} (h1 : 23 ≤ k) (h2 : k ≤ 272) : ∀ n, n ≤ 16 → (∀ j, j < n → fB k (f j)) → (∀ j, j < n → fpos (f j)) → fpos (pS f n)
  | 0, _, _, _ => fp_0
  | n + 1, hn, h, p => fadd_pos (pS_F h1 h2 (by omega) (fun j hj => h j (by omega))) ((h n (by omega)).fin (by omega)) (pS_pos h1 h2 n (by omega) (fun j hj => h j (by omega)) (fun j hj => p j (by omega))) (p n (by omega))
theorem pS_mem {f : Nat → UInt32} {k : Nat} (h1 : 23 ≤ k) (h2 : k ≤ 272) : ∀ n, n ≤ 16 → (∀ j, j < n → fB k (f j)) → (∀ j, j < n → fpos (f j)) → ∀ j, j < n → fu (f j) ≤ fu (pS f n)
  | 0, _, _, _, j, hj => absurd hj (Nat.not_lt_zero _)
  | n + 1, hn, h, p, j, hj => by
    have l := fadd_lo (pS_F h1 h2 (by omega : n ≤ 16) (fun j hj => h j (by omega))) ((h n (by omega)).fin (by omega)) (pS_pos h1 h2 n (by omega) (fun j hj => h j (by omega)) (fun j hj => p j (by omega))) (p n (by omega))
    rcases Nat.lt_or_ge j n with y | y
    · exact Nat.le_trans (pS_mem h1 h2 n (by omega) (fun j hj => h j (by omega)) (fun j hj => p j (by omega)) j y) l.1
    · have : j = n := by omega
      subst this
      exact l.2
theorem pS_ext {f g : Nat → UInt32} : ∀ n, (∀ j, j < n → f j = g j) → pS f n = pS g n
  | 0, _ => rfl
  | n + 1, h => by
    show FP.fadd (pS f n) (f n) = FP.fadd (pS g n) (g n)
    rw [pS_ext n (fun j hj => h j (by omega)), h n (by omega)]
/-! ROOT -/
def pRt (v : UInt32) : Nat → UInt32
  | 0 => FP.fdiv (FP.fadd v FP.fconst1) FP.fconst2
  | n + 1 => FP.fdiv (FP.fadd (pRt v n) (FP.fdiv v (pRt v n))) FP.fconst2
def pRoot (v : UInt32) : UInt32 := pRt v 40
/-- what ROOT is asked of -/
def fRv (v : UInt32) : Prop := fB 273 v ∧ fL 139 v
theorem fRv.ex {v : UInt32} (h : fRv v) : ∃ a, 69 ≤ a ∧ a ≤ 136 ∧ 2 ^ (2 * a + 1) ≤ fu v ∧ fu v < 2 ^ (2 * a + 3) := by
  have n0 : fu v ≠ 0 := h.2.nz
  have l1 := Nat.log2_self_le n0
  have l2 := (Nat.log2_lt (k := (fu v).log2 + 1) n0).mp (by omega)
  have b1 : (fu v).log2 < 274 := p2_lt (Nat.lt_of_le_of_lt l1 (Nat.lt_of_le_of_lt h.1 ((Nat.pow_lt_pow_iff_right (by decide)).mpr (by decide))))
  have b2 : 139 < (fu v).log2 + 1 := p2_lt (Nat.lt_of_le_of_lt h.2.1 l2)
  refine ⟨((fu v).log2 - 1) / 2, by omega, by omega, Nat.le_trans (p2_le (by omega)) l1, Nat.lt_of_lt_of_le l2 (p2_le (by omega))⟩
theorem pRt_ok {v : UInt32} (h : fRv v) {a : Nat} (ha : 69 ≤ a) (ha' : a ≤ 136) (hl : 2 ^ (2 * a + 1) ≤ fu v) (hu : fu v < 2 ^ (2 * a + 3)) : ∀ n, fB 273 (pRt v n) ∧ fL (a + 74) (pRt v n)
  | 0 => by
    have fv : fF v := h.1.fin (by decide)
    have fa : fB 274 (FP.fadd v FP.fconst1) := h.1.add fB_1 (by decide) (by decide) (by decide) (by decide)
    have l1 : fL (2 * a + 1) (FP.fadd v FP.fconst1) := fL.addl ⟨hl, h.2.2⟩ fv fF_1 fp_1
    have l2 : fL 149 (FP.fadd v FP.fconst1) := fL_1.addr fv fF_1 h.2.2
    refine ⟨fa.half (by decide) (by decide), ?_⟩
    rcases Nat.lt_or_ge a 74 with y | y
    · exact (l2.mono (by omega)).half (fa.fin (by decide)) (by omega) (by omega)
    · exact (l1.mono (by omega)).half (fa.fin (by decide)) (by omega) (by omega)
  | n + 1 => by
    obtain ⟨b, l⟩ := pRt_ok h ha ha' hl hu n
    have fv : fF v := h.1.fin (by decide)
    have fy : fF (pRt v n) := b.fin (by decide)
    have lv : fL (2 * a + 1) v := ⟨hl, h.2.2⟩
    have vb : fB (2 * a + 3) v := Nat.le_of_lt hu
    have q1 : fB 273 (FP.fdiv v (pRt v n)) := vb.div fy l.1 (by omega) (by omega) (by decide) (by decide)
    have q2 : fpos (FP.fdiv v (pRt v n)) := fdiv_pos fv fy l.nz (iff_of_true h.2.2 l.2)
    have s1 : fB 274 (FP.fadd (pRt v n) (FP.fdiv v (pRt v n))) := b.add q1 (by decide) (by decide) (by decide) (by decide)
    refine ⟨s1.half (by decide) (by decide), ?_⟩
    refine fL.half ?_ (s1.fin (by decide)) (by omega) (by omega)
    rcases Nat.lt_or_ge (fu (pRt v n)) (2 ^ (a + 75)) with y | y
    · have yb : fB (a + 75) (pRt v n) := Nat.le_of_lt y
      exact fL.addr (lv.div fv yb l.nz l.2 (by omega) (by omega) (by omega) (by omega)) fy (q1.fin (by decide)) l.2
    · exact fL.addl ⟨y, l.2⟩ fy (q1.fin (by decide)) q2
theorem pRoot_g {v : UInt32} (h : fRv v) : fF (FP.fadd v FP.fconst1) ∧ ∀ n, fF (pRt v n) ∧ fF (FP.fdiv v (pRt v n)) ∧ fF (FP.fadd (pRt v n) (FP.fdiv v (pRt v n))) := by
  obtain ⟨a, a1, a2, a3, a4⟩ := h.ex
  refine ⟨(h.1.add fB_1 (k := 274) (by decide) (by decide) (by decide) (by decide)).fin (by decide), fun n => ?_⟩
  obtain ⟨b, l⟩ := pRt_ok h a1 a2 a3 a4 n
  have vb : fB (2 * a + 3) v := Nat.le_of_lt a4
  have q1 : fB 273 (FP.fdiv v (pRt v n)) := vb.div (b.fin (by decide)) l.1 (by omega) (by omega) (by decide) (by decide)
  exact ⟨b.fin (by decide), q1.fin (by decide), (b.add q1 (k := 274) (by decide) (by decide) (by decide) (by decide)).fin (by decide)⟩
theorem pRoot_ok {v : UInt32} (h : fRv v) : ∃ a, 69 ≤ a ∧ a ≤ 136 ∧ 2 ^ (2 * a + 1) ≤ fu v ∧ fu v < 2 ^ (2 * a + 3) ∧ fB 273 (pRoot v) ∧ fL (a + 74) (pRoot v) := by
  obtain ⟨a, a1, a2, a3, a4⟩ := h.ex
  obtain ⟨b, l⟩ := pRt_ok h a1 a2 a3 a4 40
  exact ⟨a, a1, a2, a3, a4, b, l⟩
/-! EXP -/
def pCl (v : UInt32) : UInt32 := if Op.cmpValue (FP.fcmp v 3246391296) .g < 0 then 3246391296 else if 0 < Op.cmpValue (FP.fcmp v 1098907648) .l then 1098907648 else v
def pEx (b : UInt32) : Nat → UInt32
  | 0 => b
  | n + 1 => FP.fmul (pEx b n) (pEx b n)
def pE0 (v : UInt32) : UInt32 := FP.fadd FP.fconst1 (FP.fdiv (pCl v) 1132462080)
def pExp (v : UInt32) : UInt32 := pEx (pE0 v) 8
theorem pCl_B {v : UInt32} (h : fF v) : fB 153 (pCl v) := by
  have k16 : fB 153 1098907648 := by show fu 1098907648 ≤ 2 ^ 153; decide +kernel
  have km : fB 153 3246391296 := by show fu 3246391296 ≤ 2 ^ 153; decide +kernel
  unfold pCl
  split
  · exact km
  · rename_i c1
    split
    · exact k16
    · rename_i c2
      rw [fcmp_lt0 h (km.fin (by decide))] at c1
      rw [fcmp_gt0 h (k16.fin (by decide))] at c2
      have e1 : Jvm.FP.Core.fkey 3246391296 = -1098907648 := by decide +kernel
      have e2 : Jvm.FP.Core.fkey 1098907648 = 1098907648 := by decide +kernel
      rw [e1] at c1
      rw [e2] at c2
      refine Nat.le_trans (fu_le_iff (m := 131 * 2 ^ 23).mpr ?_) (by rw [funits_pow (by decide)]; exact Nat.le_refl _)
      have := v.toNat_lt
      unfold Jvm.FP.Core.fkey at c1 c2
      split at c1 <;> omega
def eU (n : Nat) : Nat := [17 * 2 ^ 145, 19 * 2 ^ 145, 23 * 2 ^ 145, 17 * 2 ^ 146, 19 * 2 ^ 147, 23 * 2 ^ 149, 17 * 2 ^ 154, 19 * 2 ^ 163, 2 ^ 186].getD n 0
def eL (n : Nat) : Nat := [30 * 2 ^ 144, 28 * 2 ^ 144, 24 * 2 ^ 144, 18 * 2 ^ 144, 20 * 2 ^ 143, 24 * 2 ^ 141, 2 ^ 142, 2 ^ 135, 2 ^ 121].getD n 0
theorem eU_rep : ∀ n, n ≤ 8 → frep (eU n) ∧ frep (eL n) ∧ eU n ≤ 2 ^ 186 ∧ 2 ^ 121 ≤ eL n
  | 0, _ => ⟨frep_mid (t := 1) (j := 145) (by decide) (by decide) (by decide), frep_mid (t := 14) (j := 144) (by decide) (by decide) (by decide), by decide, by decide⟩
  | 1, _ => ⟨frep_mid (t := 3) (j := 145) (by decide) (by decide) (by decide), frep_mid (t := 12) (j := 144) (by decide) (by decide) (by decide), by decide, by decide⟩
  | 2, _ => ⟨frep_mid (t := 7) (j := 145) (by decide) (by decide) (by decide), frep_mid (t := 8) (j := 144) (by decide) (by decide) (by decide), by decide, by decide⟩
  | 3, _ => ⟨frep_mid (t := 1) (j := 146) (by decide) (by decide) (by decide), frep_mid (t := 2) (j := 144) (by decide) (by decide) (by decide), by decide, by decide⟩
  | 4, _ => ⟨frep_mid (t := 3) (j := 147) (by decide) (by decide) (by decide), frep_mid (t := 4) (j := 143) (by decide) (by decide) (by decide), by decide, by decide⟩
  | 5, _ => ⟨frep_mid (t := 7) (j := 149) (by decide) (by decide) (by decide), frep_mid (t := 8) (j := 141) (by decide) (by decide) (by decide), by decide, by decide⟩
  | 6, _ => ⟨frep_mid (t := 1) (j := 154) (by decide) (by decide) (by decide), frep_pow (j := 142) (by decide) (by decide), by decide, by decide⟩
  | 7, _ => ⟨frep_mid (t := 3) (j := 163) (by decide) (by decide) (by decide), frep_pow (j := 135) (by decide) (by decide), by decide, by decide⟩
  | 8, _ => ⟨frep_pow (j := 186) (by decide) (by decide), frep_pow (j := 121) (by decide) (by decide), by decide, by decide⟩
  | n + 9, h => absurd h (by omega)
theorem eU_st : ∀ n, n < 8 → eU n * eU n ≤ eU (n + 1) * 2 ^ 149 ∧ eL (n + 1) * 2 ^ 149 ≤ eL n * eL n := by decide +kernel
theorem pE0_ok {v : UInt32} (h : fF v) : fF (FP.fdiv (pCl v) 1132462080) ∧ fu (pE0 v) ≤ eU 0 ∧ eL 0 ≤ fu (pE0 v) ∧ fpos (pE0 v) := by
  have c := pCl_B h
  have e256 : fu 1132462080 = 2 ^ 157 := by decide +kernel
  have f256 : fF 1132462080 := ffin_of (j := 157) (Nat.le_of_eq e256) (by decide)
  have q : fB 145 (FP.fdiv (pCl v) 1132462080) := c.div f256 (j := 157) (Nat.le_of_eq e256.symm) (by decide) (by decide) (by decide) (by decide)
  have hq : fu (FP.fdiv (pCl v) 1132462080) ≤ 2 ^ 145 := q
  have fq := q.fin (by decide)
  have r := fadd_ge2 fF_1 fq fp_1 (N := eL 0) (eU_rep 0 (by decide)).2.1 (by decide) (by rw [fu_1]; refine Nat.le_trans (Nat.add_le_add_left hq _) (by decide))
  refine ⟨fq, fadd_le fF_1 fq (eU_rep 0 (by decide)).1 (by rw [fu_1]; exact Nat.le_trans (Nat.add_le_add_left hq _) (by decide)), r.1, r.2⟩
theorem pEx_ok {v : UInt32} (h : fF v) : ∀ n, n ≤ 8 → fF (pEx (pE0 v) n) ∧ fu (pEx (pE0 v) n) ≤ eU n ∧ eL n ≤ fu (pEx (pE0 v) n) ∧ fpos (pEx (pE0 v) n)
  | 0, _ => by
    obtain ⟨-, h1, h2, h3⟩ := pE0_ok h
    exact ⟨ffin_of (j := 186) (Nat.le_trans h1 (eU_rep 0 (by decide)).2.2.1) (by decide), h1, h2, h3⟩
  | n + 1, hn => by
    obtain ⟨f, h1, h2, h3⟩ := pEx_ok h n (by omega)
    obtain ⟨s1, s2⟩ := eU_st n (by omega)
    obtain ⟨r1, r2, r3, r4⟩ := eU_rep (n + 1) hn
    have b := fmul_le f f r1 (Nat.le_trans (Nat.mul_le_mul h1 h1) s1)
    exact ⟨ffin_of (j := 186) (Nat.le_trans b r3) (by decide), b, fmul_ge f f r2 (Nat.le_trans s2 (Nat.mul_le_mul h2 h2)), fmul_pos f f Iff.rfl⟩
theorem pExp_ok {v : UInt32} (h : fF v) : fB 186 (pExp v) ∧ fL 121 (pExp v) := by
  obtain ⟨-, h1, h2, h3⟩ := pEx_ok h 8 (by decide)
  exact ⟨Nat.le_trans h1 (eU_rep 8 (by decide)).2.2.1, Nat.le_trans (eU_rep 8 (by decide)).2.2.2 h2, h3⟩
