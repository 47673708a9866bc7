/-! floats: NORM, TURN, shares, the gate -/
theorem fi_le : ∀ s, s < 64 → fu (FP.i2f (nI s)) ≤ 2 ^ 155 ∧ (FP.i2f (nI s)).toNat < 2 ^ 31 := by decide +kernel
theorem fi_8 : fu (FP.i2f (nI 8)) = 2 ^ 152 := by decide +kernel
theorem fi_16 : fu (FP.i2f (nI 16)) = 2 ^ 153 := by decide +kernel
theorem fB.i2f {s : Nat} (h : s < 64) : fB 155 (FP.i2f (nI s)) := (fi_le s h).1
theorem fp_i2f {s : Nat} (h : s < 64) : fpos (FP.i2f (nI s)) := (fi_le s h).2
def pSq (X : Nat → UInt32) (j : Nat) : UInt32 := FP.fmul (X j) (X j)
def pNv (X : Nat → UInt32) (d : Nat) (e : UInt32) : UInt32 := FP.fadd (FP.fdiv (pS (pSq X) d) (FP.i2f (nI d))) e
def pNr (X : Nat → UInt32) (d : Nat) (e : UInt32) : UInt32 := FP.fdiv FP.fconst1 (pRoot (pNv X d e))
def pNm (X : Nat → UInt32) (d : Nat) (e : UInt32) (W : Nat → UInt32) (j : Nat) : UInt32 := FP.fmul (FP.fmul (X j) (pNr X d e)) (W j)
def fEp (e : UInt32) : Prop := fB 149 e ∧ fL 139 e
section FLN
variable {X W : Nat → UInt32} {d : Nat} {e : UInt32}
theorem pSq_ok (hX : ∀ j, j < d → fB 210 (X j)) : ∀ j, j < d → fB 271 (pSq X j) := fun j hj => (hX j hj).mul (hX j hj) (by decide) (by decide) (by decide) (by decide) (by decide)
theorem pSq_pos (hX : ∀ j, j < d → fB 210 (X j)) : ∀ j, j < d → fpos (pSq X j) := fun j hj => fmul_pos ((hX j hj).fin (by decide)) ((hX j hj).fin (by decide)) Iff.rfl
theorem pSq_F (hX : ∀ j, j < d → fB 210 (X j)) (hd : d = 8 ∨ d = 16) : ∀ n, n ≤ d → fF (pS (pSq X) n) := fun n hn => pS_F (k := 271) (by decide) (by decide) (by omega) (fun j hj => pSq_ok hX j (by omega))
theorem fd_u (hd : d = 8 ∨ d = 16) : 2 ^ 152 ≤ fu (FP.i2f (nI d)) ∧ fu (FP.i2f (nI d)) ≤ 2 ^ 153 ∧ fpos (FP.i2f (nI d)) := by
  rcases hd with rfl | rfl
  · rw [fi_8]; exact ⟨by decide, by decide, fp_i2f (by decide)⟩
  · rw [fi_16]; exact ⟨by decide, by decide, fp_i2f (by decide)⟩
theorem pNq_ok (hX : ∀ j, j < d → fB 210 (X j)) (hd : d = 8 ∨ d = 16) : fB 272 (FP.fdiv (pS (pSq X) d) (FP.i2f (nI d))) ∧ fpos (FP.fdiv (pS (pSq X) d) (FP.i2f (nI d))) := by
  obtain ⟨d1, d2, d3⟩ := fd_u hd
  have fd : fF (FP.i2f (nI d)) := ffin_of d2 (by decide)
  have b := pS_B (f := pSq X) (k := 271) (n := d) (by decide) (by decide) (by omega) (pSq_ok hX)
  have p := pS_pos (f := pSq X) (k := 271) (by decide) (by decide) d (by omega) (pSq_ok hX) (pSq_pos hX)
  exact ⟨b.div fd d1 (by decide) (by decide) (by decide) (by decide), fdiv_pos (b.fin (by decide)) fd (by have := Nat.two_pow_pos 152; omega) (iff_of_true p d3)⟩
theorem pNv_ok (hX : ∀ j, j < d → fB 210 (X j)) (hd : d = 8 ∨ d = 16) (he : fEp e) : fRv (pNv X d e) := by
  obtain ⟨q, p⟩ := pNq_ok hX hd
  exact ⟨q.add he.1 (by decide) (by decide) (by decide) (by decide), he.2.addr (q.fin (by decide)) (he.1.fin (by decide)) p⟩
theorem pNr_ok (hX : ∀ j, j < d → fB 210 (X j)) (hd : d = 8 ∨ d = 16) (he : fEp e) : ∃ a, 69 ≤ a ∧ a ≤ 136 ∧ fB (224 - a) (pNr X d e) ∧ ∀ j, j < d → fB (a + 79) (X j) := by
  obtain ⟨a, a1, a2, a3, a4, b, l⟩ := pRoot_ok (pNv_ok hX hd he)
  obtain ⟨q, p⟩ := pNq_ok hX hd
  obtain ⟨d1, d2, d3⟩ := fd_u hd
  have fd : fF (FP.i2f (nI d)) := ffin_of d2 (by decide)
  refine ⟨a, a1, a2, fB_1.div (b.fin (by decide)) l.1 (by decide) (by omega) (by omega) (by omega), fun j hj => ?_⟩
  rcases Nat.lt_or_ge a 131 with y | y
  · refine Nat.le_of_not_lt (fun w => ?_)
    have fx := (hX j hj).fin (by decide)
    have s1 : 2 ^ (2 * a + 9) ≤ fu (pSq X j) := by
      refine fmul_ge fx fx (frep_pow (by omega) (by omega)) (Nat.le_trans ?_ (Nat.mul_le_mul (Nat.le_of_lt w) (Nat.le_of_lt w)))
      rw [← Nat.pow_add, ← Nat.pow_add]
      exact p2_le (by omega)
    have s2 := Nat.le_trans s1 (pS_mem (f := pSq X) (k := 271) (by decide) (by decide) d (by omega) (pSq_ok hX) (pSq_pos hX) j hj)
    have s3 : 2 ^ (2 * a + 5) ≤ fu (FP.fdiv (pS (pSq X) d) (FP.i2f (nI d))) := by
      refine fdiv_ge (pSq_F hX hd d (Nat.le_refl _)) fd (by have := Nat.two_pow_pos 152; omega) (frep_pow (by omega) (by omega)) ?_
      refine Nat.le_trans (Nat.mul_le_mul_left _ d2) (Nat.le_trans ?_ (Nat.mul_le_mul_right _ s2))
      rw [← Nat.pow_add, ← Nat.pow_add]
      exact p2_le (by omega)
    have s4 : fu (FP.fdiv (pS (pSq X) d) (FP.i2f (nI d))) ≤ fu (pNv X d e) := (fadd_lo (q.fin (by decide)) (he.1.fin (by decide)) p he.2.2).1
    have s5 : (2 : Nat) ^ (2 * a + 3) ≤ 2 ^ (2 * a + 5) := p2_le (by omega)
    omega
  · exact (hX j hj).mono (by omega)
theorem pNm_ok (hX : ∀ j, j < d → fB 210 (X j)) (hd : d = 8 ∨ d = 16) (he : fEp e) : fF (pNr X d e) ∧ ∀ j, j < d → fB 154 (FP.fmul (X j) (pNr X d e)) ∧ (fB 156 (W j) → fB 161 (pNm X d e W j)) := by
  obtain ⟨a, a1, a2, b, x⟩ := pNr_ok hX hd he
  refine ⟨b.fin (by omega), fun j hj => ?_⟩
  have m : fB 154 (FP.fmul (X j) (pNr X d e)) := (x j hj).mul b (by omega) (by omega) (by omega) (by decide) (by decide)
  exact ⟨m, fun w => m.mul w (by decide) (by decide) (by decide) (by decide) (by decide)⟩
end FLN
/-! TURN -/
def pBy (b : UInt32) : Nat → UInt32
  | 0 => 1082130432
  | i + 1 => FP.fmul (pBy b i) b
def pAn (s : Nat) (b : UInt32) (i : Nat) : UInt32 := FP.fdiv (FP.i2f (nI s)) (pBy b i)
def pCc (a : UInt32) : UInt32 := FP.fdiv (FP.fsub FP.fconst1 (FP.fmul a a)) (FP.fadd FP.fconst1 (FP.fmul a a))
def pSs (a : UInt32) : UInt32 := FP.fdiv (FP.fadd a a) (FP.fadd FP.fconst1 (FP.fmul a a))
def pTa (c s p r : UInt32) : UInt32 := FP.fsub (FP.fmul p c) (FP.fmul r s)
def pTb (c s p r : UInt32) : UInt32 := FP.fadd (FP.fmul p s) (FP.fmul r c)
def fBa (b : UInt32) : Prop := fB 153 b ∧ fL 149 b
theorem pBy_ok {b : UInt32} (h : fBa b) : ∀ i, i ≤ 8 → fB (151 + 4 * i) (pBy b i) ∧ fL 151 (pBy b i)
  | 0, _ => ⟨by show fu 1082130432 ≤ 2 ^ 151; decide +kernel, by show 2 ^ 151 ≤ fu 1082130432; decide +kernel, by show (1082130432 : UInt32).toNat < 2 ^ 31; decide⟩
  | i + 1, hi => by
    obtain ⟨b1, b2⟩ := pBy_ok h i (by omega)
    have f1 := b1.fin (by omega)
    have f2 := h.1.fin (by decide)
    refine ⟨b1.mul h.1 (by omega) (by decide) (by omega) (by omega) (by omega), fmul_ge f1 f2 (frep_pow (by decide) (by decide)) (Nat.mul_le_mul b2.1 h.2.1), fmul_pos f1 f2 (iff_of_true b2.2 h.2.2)⟩
theorem pAn_ok {b : UInt32} (h : fBa b) {s i : Nat} (hs : s < 64) (hi : i ≤ 8) : fB 153 (pAn s b i) := by
  obtain ⟨b1, b2⟩ := pBy_ok h i hi
  exact (fB.i2f hs).div (b1.fin (by omega)) b2.1 (by decide) (by decide) (by decide) (by decide)
theorem pCc_ok {a : UInt32} (h : fB 153 a) : fF (FP.fmul a a) ∧ fF (FP.fsub FP.fconst1 (FP.fmul a a)) ∧ fF (FP.fadd FP.fconst1 (FP.fmul a a)) ∧ fB 158 (pCc a) ∧ fF (FP.fadd a a) ∧ fB 154 (pSs a) := by
  have f := h.fin (by decide)
  have m : fB 157 (FP.fmul a a) := h.mul h (by decide) (by decide) (by decide) (by decide) (by decide)
  have p : fpos (FP.fmul a a) := fmul_pos f f Iff.rfl
  have n : fB 158 (FP.fsub FP.fconst1 (FP.fmul a a)) := fB_1.sub m (by decide) (by decide) (by decide) (by decide)
  have q : fB 158 (FP.fadd FP.fconst1 (FP.fmul a a)) := fB_1.add m (by decide) (by decide) (by decide) (by decide)
  have l := fL_1.addl fF_1 (m.fin (by decide)) p
  have t : fB 154 (FP.fadd a a) := h.add h (by decide) (by decide) (by decide) (by decide)
  have fq := q.fin (by decide)
  exact ⟨m.fin (by decide), n.fin (by decide), fq, n.div fq l.1 (by decide) (by decide) (by decide) (by decide), t.fin (by decide), t.div fq l.1 (by decide) (by decide) (by decide) (by decide)⟩
theorem pTa_ok {c s p r : UInt32} (hc : fB 158 c) (hs : fB 154 s) (hp : fB 172 p) (hr : fB 172 r) : fF (FP.fmul p c) ∧ fF (FP.fmul r s) ∧ fB 182 (pTa c s p r) ∧ fF (FP.fmul p s) ∧ fF (FP.fmul r c) ∧ fB 182 (pTb c s p r) := by
  have pc : fB 181 (FP.fmul p c) := hp.mul hc (by decide) (by decide) (by decide) (by decide) (by decide)
  have rs : fB 177 (FP.fmul r s) := hr.mul hs (by decide) (by decide) (by decide) (by decide) (by decide)
  have ps : fB 177 (FP.fmul p s) := hp.mul hs (by decide) (by decide) (by decide) (by decide) (by decide)
  have rc : fB 181 (FP.fmul r c) := hr.mul hc (by decide) (by decide) (by decide) (by decide) (by decide)
  exact ⟨pc.fin (by decide), rs.fin (by decide), pc.sub rs (by decide) (by decide) (by decide) (by decide), ps.fin (by decide), rc.fin (by decide), ps.add rc (by decide) (by decide) (by decide) (by decide)⟩
/-! DOT -/
def pDt (A B : Nat → UInt32) (n : Nat) : UInt32 := pS (fun j => FP.fmul (A j) (B j)) n
theorem pDt_m {A B : Nat → UInt32} {i j k n : Nat} (hA : ∀ t, t < n → fB i (A t)) (hB : ∀ t, t < n → fB j (B t)) (hi : i ≤ 276) (hj : j ≤ 276) (hk : i + j ≤ k + 149) (h1 : 23 ≤ k) (h2 : k ≤ 272) : ∀ t, t < n → fB k (FP.fmul (A t) (B t)) := fun t ht => (hA t ht).mul (hB t ht) hi hj hk h1 (by omega)
theorem pDt_B {A B : Nat → UInt32} {i j k n : Nat} (hA : ∀ t, t < n → fB i (A t)) (hB : ∀ t, t < n → fB j (B t)) (hi : i ≤ 276) (hj : j ≤ 276) (hk : i + j ≤ k + 149) (h1 : 23 ≤ k) (h2 : k ≤ 272) (hn : n ≤ 16) : fB (k + 4) (pDt A B n) := pS_B h1 h2 hn (pDt_m hA hB hi hj hk h1 h2)
theorem pDt_F {A B : Nat → UInt32} {i j k n : Nat} (hA : ∀ t, t < n → fB i (A t)) (hB : ∀ t, t < n → fB j (B t)) (hi : i ≤ 276) (hj : j ≤ 276) (hk : i + j ≤ k + 149) (h1 : 23 ≤ k) (h2 : k ≤ 272) (hn : n ≤ 16) : ∀ m, m ≤ n → fF (pDt A B m) := fun m hm => (pDt_B (fun t ht => hA t (by omega)) (fun t ht => hB t (by omega)) hi hj hk h1 h2 (by omega)).fin (by omega)
/-! shares -/
theorem fh_u {h : Nat} (hh : h = 2 ∨ h = 4 ∨ h = 8 ∨ h = 16) : 2 ^ 150 ≤ fu (FP.i2f (nI h)) ∧ fu (FP.i2f (nI h)) ≤ 2 ^ 153 ∧ fpos (FP.i2f (nI h)) := by
  rcases hh with rfl | rfl | rfl | rfl
  · exact ⟨by decide +kernel, by decide +kernel, fp_i2f (by decide)⟩
  · exact ⟨by decide +kernel, by decide +kernel, fp_i2f (by decide)⟩
  · exact ⟨by decide +kernel, by decide +kernel, fp_i2f (by decide)⟩
  · exact ⟨by decide +kernel, by decide +kernel, fp_i2f (by decide)⟩
def pHr (h : Nat) : UInt32 := pRoot (FP.i2f (nI h))
theorem fh_rv {h : Nat} (hh : h = 2 ∨ h = 4 ∨ h = 8 ∨ h = 16) : fRv (FP.i2f (nI h)) := by
  obtain ⟨a, b, c⟩ := fh_u hh
  exact ⟨Nat.le_trans b (p2_le (by decide)), Nat.le_trans (p2_le (by decide)) a, c⟩
theorem pHr_ok {h : Nat} (hh : h = 2 ∨ h = 4 ∨ h = 8 ∨ h = 16) : fF (pHr h) ∧ fL 148 (pHr h) := by
  obtain ⟨a, a1, a2, a3, a4, b, l⟩ := pRoot_ok (fh_rv hh)
  have := p2_lt (Nat.lt_of_le_of_lt (fh_u hh).1 a4)
  exact ⟨b.fin (by decide), l.mono (by omega)⟩
def pZ (K Q : Nat → UInt32) (h : Nat) : UInt32 := FP.fdiv (pDt K Q h) (pHr h)
theorem pZ_ok {K Q : Nat → UInt32} {h : Nat} (hh : h = 2 ∨ h = 4 ∨ h = 8 ∨ h = 16) (hK : ∀ t, t < h → fB 182 (K t)) (hQ : ∀ t, t < h → fB 182 (Q t)) : fB 220 (pZ K Q h) := by
  have b : fB 219 (pDt K Q h) := pDt_B (k := 215) hK hQ (by decide) (by decide) (by decide) (by decide) (by decide) (by omega)
  obtain ⟨f, l⟩ := pHr_ok hh
  exact b.div f l.1 (by decide) (by decide) (by decide) (by decide)
def pMx (z : Nat → UInt32) : Nat → UInt32
  | 0 => FP.fconst0
  | n + 1 => if n = 0 ∨ 0 < Op.cmpValue (FP.fcmp (z n) (pMx z n)) .l then z n else pMx z n
theorem pMx_B {z : Nat → UInt32} : ∀ n, (∀ t, t < n → fB 220 (z t)) → fB 220 (pMx z n)
  | 0, _ => fB_0.mono (by decide)
  | n + 1, h => by
    show fB 220 (if n = 0 ∨ 0 < Op.cmpValue (FP.fcmp (z n) (pMx z n)) .l then z n else pMx z n)
    split
    · exact h n (by omega)
    · exact pMx_B n (fun t ht => h t (by omega))
theorem pMx_ext {y z : Nat → UInt32} : ∀ n, (∀ t, t < n → y t = z t) → pMx y n = pMx z n
  | 0, _ => rfl
  | n + 1, h => by
    show (if n = 0 ∨ 0 < Op.cmpValue (FP.fcmp (y n) (pMx y n)) .l then y n else pMx y n) = (if n = 0 ∨ 0 < Op.cmpValue (FP.fcmp (z n) (pMx z n)) .l then z n else pMx z n)
    rw [pMx_ext n (fun t ht => h t (by omega)), h n (by omega)]
def pEz (z : Nat → UInt32) (n t : Nat) : UInt32 := pExp (FP.fsub (z t) (pMx z n))
def pSh (z : Nat → UInt32) (n t : Nat) : UInt32 := FP.fdiv (pEz z n t) (pS (pEz z n) n)
def pMi (z : Nat → UInt32) (n : Nat) (V : Nat → UInt32) : UInt32 := pS (fun t => FP.fmul (pSh z n t) (V t)) n
theorem pEz_ok {z : Nat → UInt32} {n t : Nat} (h : ∀ t, t < n → fB 220 (z t)) (ht : t < n) : fF (FP.fsub (z t) (pMx z n)) ∧ fB 186 (pEz z n t) ∧ fL 121 (pEz z n t) := by
  have f := ((h t ht).sub (pMx_B n h) (k := 221) (by decide) (by decide) (by decide) (by decide)).fin (by decide)
  exact ⟨f, pExp_ok f⟩
theorem pSh_ok {z : Nat → UInt32} {n : Nat} (h : ∀ t, t < n → fB 220 (z t)) (hn : n ≤ 16) : (∀ m, m ≤ n → fF (pS (pEz z n) m)) ∧ ∀ t, t < n → fB 149 (pSh z n t) := by
  have e1 : ∀ t, t < n → fB 186 (pEz z n t) := fun t ht => (pEz_ok h ht).2.1
  have e2 : ∀ t, t < n → fpos (pEz z n t) := fun t ht => (pEz_ok h ht).2.2.2
  have f : ∀ m, m ≤ n → fF (pS (pEz z n) m) := fun m hm => pS_F (k := 186) (by decide) (by decide) (by omega) (fun j hj => e1 j (by omega))
  refine ⟨f, fun t ht => ?_⟩
  have m := pS_mem (f := pEz z n) (k := 186) (by decide) (by decide) n hn e1 e2 t ht
  have l := (pEz_ok h ht).2.2
  have nz : fu (pS (pEz z n) n) ≠ 0 := by have := l.nz; omega
  refine fdiv_le ((e1 t ht).fin (by decide)) (f n (Nat.le_refl _)) nz (frep_pow (by decide) (by decide)) ?_
  rw [Nat.mul_comm]
  exact Nat.mul_le_mul_left _ m
theorem pMi_ok {z V : Nat → UInt32} {n : Nat} (h : ∀ t, t < n → fB 220 (z t)) (hn : n ≤ 16) (hV : ∀ t, t < n → fB 172 (V t)) : (∀ t, t < n → fB 172 (FP.fmul (pSh z n t) (V t))) ∧ (∀ m, m ≤ n → fF (pS (fun t => FP.fmul (pSh z n t) (V t)) m)) ∧ fB 176 (pMi z n V) := by
  have s := (pSh_ok h hn).2
  exact ⟨pDt_m s hV (by decide) (by decide) (by decide) (by decide) (by decide), pDt_F s hV (k := 172) (by decide) (by decide) (by decide) (by decide) (by decide) hn, pDt_B s hV (k := 172) (by decide) (by decide) (by decide) (by decide) (by decide) hn⟩
/-! the gate -/
def pGl (g u : UInt32) : UInt32 := FP.fmul (FP.fdiv g (FP.fadd FP.fconst1 (pExp (FP.fsub FP.fconst0 g)))) u
theorem pGl_ok {g u : UInt32} (hg : fB 172 g) (hu : fB 172 u) : fF (FP.fsub FP.fconst0 g) ∧ fF (FP.fadd FP.fconst1 (pExp (FP.fsub FP.fconst0 g))) ∧ fF (FP.fdiv g (FP.fadd FP.fconst1 (pExp (FP.fsub FP.fconst0 g)))) ∧ fB 195 (pGl g u) := by
  have f := (fB_0.sub hg (k := 173) (by decide) (by decide) (by decide) (by decide)).fin (by decide)
  obtain ⟨e1, e2⟩ := pExp_ok f
  have fe := e1.fin (by decide)
  have a : fB 187 (FP.fadd FP.fconst1 (pExp (FP.fsub FP.fconst0 g))) := fB_1.add e1 (by decide) (by decide) (by decide) (by decide)
  have l := fL_1.addl fF_1 fe e2.2
  have q : fB 172 (FP.fdiv g (FP.fadd FP.fconst1 (pExp (FP.fsub FP.fconst0 g)))) := hg.div (a.fin (by decide)) l.1 (by decide) (by decide) (by decide) (by decide)
  exact ⟨f, a.fin (by decide), q.fin (by decide), q.mul hu (by decide) (by decide) (by decide) (by decide) (by decide)⟩
