/-! the relation of class and reference -/
/-- no MODEL; the MODEL at 38; the MODEL at 51 -/
def cSh : Option Bool → List xS
  | none => shG (clXX none (some 38)) (md1 [])
  | some false => shG (clXX (some 38) (some 51)) (md2 [])
  | some true => shG (clXX (some 51) (some 38)) (md2 [])
def cMd : Option Bool → pMd → (Nat → Nat → Int32) → (Nat → Nat → Int64) → (Nat → Nat → UInt32) → Prop
  | none, _, _, _, _ => True
  | some false, M, I, L, F => clMd_a M I L F
  | some true, M, I, L, F => clMd_b M I L F
def rMd : Option Bool → pMd → (Nat → Nat → Int32) → (Nat → Nat → UInt32) → Prop
  | none, _, I, _ => I 0 38 = 0
  | some _, M, I, F => rfMd M I F
/-- FILE, TEXT, TOKENS of encode, SEED, place -/
abbrev aS : Type := (Nat → Nat) × Nat × (Nat → Nat) × Nat × (Nat → Nat) × Nat × Int64 × Int32
def aF (A : aS) : Nat → Nat := A.1
def aN (A : aS) : Nat := A.2.1
def aX (A : aS) : Nat → Nat := A.2.2.1
def aT (A : aS) : Nat := A.2.2.2.1
def aE (A : aS) : Nat → Nat := A.2.2.2.2.1
def aC (A : aS) : Nat := A.2.2.2.2.2.1
def aW (A : aS) : Int64 := A.2.2.2.2.2.2.1
def aP (A : aS) : Int32 := A.2.2.2.2.2.2.2
def rPl (I : Nat → Nat → Int32) (p : Int32) : Prop := (¬ I 0 3 < 1 → I 0 3 ≤ 7 → I 0 4 = p) ∧ ((I 0 3 < 1 ∨ ¬ I 0 3 ≤ 7) → p = -1)
def cB (A : aS) (M : pMd) (S : pNs) (I : Nat → Nat → Int32) (L : Nat → Nat → Int64) (F : Nat → Nat → UInt32) : Prop := clF (aF A) (aN A) I ∧ clTx (aX A) (aT A) I ∧ ((∀ k, k < aC A → I 17 k = nI (aE A k)) ∧ I 16 1 = nI (aC A)) ∧ L 33 2 = aW A ∧ I 5 13 = aP A ∧ clNs M S I F
def rB (A : aS) (M : pMd) (S : pNs) (I : Nat → Nat → Int32) (L : Nat → Nat → Int64) (F : Nat → Nat → UInt32) : Prop := rfF (aF A) (aN A) I ∧ rfTx (aX A) (aT A) I ∧ ((∀ k, k < aC A → I 29 k = nI (aE A k)) ∧ I 0 59 = nI (aC A)) ∧ L 0 62 = aW A ∧ rPl I (aP A) ∧ rfNs M S I F
def gB (t : Nat) (κ : Option Bool) (M1 M2 : pMd) (A : aS) (S : pNs) : Prop := rfG (aF A) (aN A) ∧ (∀ k, aX A k < 256) ∧ aT A ≤ 24 ∧ aC A ≤ 24 ∧ nY S ≤ 16 * t ∧ (κ = none → nS S = 0) ∧ (κ ≠ none → mZ M1 M2 ∧ mGd M2)
def CL (κ : Option Bool) (M : pMd) (A : aS) (S : pNs) (g : xH) : Prop := ∃ I L F, g = (cSh κ, I, L, F) ∧ cB A M S I L F ∧ cMd κ M I L F
def RF (κ : Option Bool) (M : pMd) (A : aS) (S : pNs) (g : xH) : Prop := ∃ I L F, g = (sh2, I, L, F) ∧ rB A M S I L F ∧ rMd κ M I F
def pRel (t : Nat) (h1 h2 : xH) : Prop := ∃ κ M1 M2 A S, gB t κ M1 M2 A S ∧ CL κ M1 A S h1 ∧ RF κ M2 A S h2
theorem gB.up {t : Nat} {κ : Option Bool} {M1 M2 : pMd} {A : aS} {S : pNs} (h : gB t κ M1 M2 A S) : gB (t + 1) κ M1 M2 A S := ⟨h.1, h.2.1, h.2.2.1, h.2.2.2.1, Nat.le_trans h.2.2.2.2.1 (by omega), h.2.2.2.2.2⟩
theorem rel_pair {t yx ym : Nat} {av : List Value} {h1 h2 : xH} {f : Int32} {κ : Option Bool} {M1 M2 : pMd} {A : aS} {S : pNs} (g : gB (t + 1) κ M1 M2 A S) (r1 : XM xE0 100 yx (.ref 0 :: av) h1 (fun v h => v = some (.int f) ∧ CL κ M1 A S h)) (r2 : XM xE0 100 ym (.ref 0 :: av) h2 (fun v h => v = some (.int f) ∧ RF κ M2 A S h)) : lwPair yx ym av false h1 h2 (pRel (t + 1)) := lw_pair r1 r2 (fun _ _ p q => ⟨κ, M1, M2, A, S, g, p, q⟩)
theorem rel_pairv {t yx ym : Nat} {av : List Value} {h1 h2 : xH} {κ : Option Bool} {M1 M2 : pMd} {A : aS} {S : pNs} (g : gB (t + 1) κ M1 M2 A S) (r1 : XM xE0 100 yx (.ref 0 :: av) h1 (fun v h => v = none ∧ CL κ M1 A S h)) (r2 : XM xE0 100 ym (.ref 0 :: av) h2 (fun v h => v = none ∧ RF κ M2 A S h)) : lwPair yx ym av true h1 h2 (pRel (t + 1)) := lw_pairv r1 r2 (fun _ _ p q => ⟨κ, M1, M2, A, S, g, p, q⟩)
theorem cSh_ex (κ : Option Bool) : ∃ m0 s0 T, cSh κ = shG (clXX m0 s0) T := match κ with
  | none => ⟨_, _, _, rfl⟩
  | some false => ⟨_, _, _, rfl⟩
  | some true => ⟨_, _, _, rfl⟩
section CRE
variable {κ : Option Bool} {M : pMd} {A : aS} {S : pNs} {I J : Nat → Nat → Int32} {L L' : Nat → Nat → Int64} {F G : Nat → Nat → UInt32}
theorem clMd_a.ll (h : clMd_a M I L F) (a : ∀ b k, 38 ≤ b → L' b k = L b k) : clMd_a M I L' F := ⟨h.1, h.2.1, h.2.2.1, h.2.2.2.1, fun i hi => (a 41 i (by decide)).trans (h.2.2.2.2.1 i hi), h.2.2.2.2.2⟩
theorem clMd_b.ll (h : clMd_b M I L F) (a : ∀ b k, 38 ≤ b → L' b k = L b k) : clMd_b M I L' F := ⟨h.1, h.2.1, h.2.2.1, h.2.2.2.1, fun i hi => (a 54 i (by decide)).trans (h.2.2.2.2.1 i hi), h.2.2.2.2.2⟩
theorem cMd.ag (h : cMd κ M I L F) (a : ∀ b k, 38 ≤ b → J b k = I b k) (c : ∀ b k, 38 ≤ b → L' b k = L b k) (d : ∀ b k, 38 ≤ b → G b k = F b k) : cMd κ M J L' G := match κ, h with
  | none, _ => trivial
  | some false, h => (((show clMd_a M I L F from h).ag a).ll c).fl d
  | some true, h => (((show clMd_b M I L F from h).ag a).ll c).fl d
theorem rfMd.agg (h : rfMd M I F) (h38 : J 0 38 = I 0 38) (D : ∀ b k, 17 ≤ b → b ≤ 26 → J b k = I b k) (g0 : G 0 39 = F 0 39 ∧ G 0 40 = F 0 40) (g : ∀ k, G 27 k = F 27 k) : rfMd M J G := ⟨h38.trans h.1, fun j hj => (D 17 j (by decide) (by decide)).trans (h.2.1 j hj), fun i hi => ⟨(D 19 i (by decide) (by decide)).trans (h.2.2.1 i hi).1, fun j hj => (D 18 _ (by decide) (by decide)).trans ((h.2.2.1 i hi).2 j hj)⟩, fun i hi => ⟨(D 20 i (by decide) (by decide)).trans (h.2.2.2.1 i hi).1, (D 21 i (by decide) (by decide)).trans (h.2.2.2.1 i hi).2.1, (D 22 i (by decide) (by decide)).trans (h.2.2.2.1 i hi).2.2⟩, fun q hq => (D 23 q (by decide) (by decide)).trans (h.2.2.2.2.1 q hq), fun i hi => ⟨(D 24 i (by decide) (by decide)).trans (h.2.2.2.2.2.1 i hi).1, (D 25 i (by decide) (by decide)).trans (h.2.2.2.2.2.1 i hi).2.1, (D 26 i (by decide) (by decide)).trans (h.2.2.2.2.2.1 i hi).2.2.1, fun s hs => (g _).trans ((h.2.2.2.2.2.1 i hi).2.2.2 s hs)⟩, g0.1.trans h.2.2.2.2.2.2.1, g0.2.trans h.2.2.2.2.2.2.2⟩
theorem rMd.ag (h : rMd κ M I F) (h38 : J 0 38 = I 0 38) (D : ∀ b k, 17 ≤ b → b ≤ 26 → J b k = I b k) (g0 : G 0 39 = F 0 39 ∧ G 0 40 = F 0 40) (g : ∀ k, G 27 k = F 27 k) : rMd κ M J G := match κ, h with
  | none, h => h38.trans h
  | some _, h => (show rfMd M I F from h).agg h38 D g0 g
theorem clNs.ag (h : clNs M S I F) (a1 : J 18 10 = I 18 10) (a2 : ∀ k, J 37 k = I 37 k) (a3 : J 36 1 = I 36 1) : clNs M S J F := ⟨a1.trans h.1, h.2.1, h.2.2.1, h.2.2.2.1, fun k hk => (a2 k).trans (h.2.2.2.2.1 k hk), a3.trans h.2.2.2.2.2⟩
theorem rfNs.ag (h : rfNs M S I F) (a1 : J 0 60 = I 0 60) (a2 : ∀ k, J 30 k = I 30 k) (a3 : J 0 61 = I 0 61) : rfNs M S J F := ⟨a1.trans h.1, h.2.1, h.2.2.1, h.2.2.2.1, fun k hk => (a2 k).trans (h.2.2.2.2.1 k hk), a3.trans h.2.2.2.2.2⟩
theorem clF.agc {f : Nat → Nat} {n : Nat} (h : clF f n I) (a1 : ∀ k, J 2 k = I 2 k) (a2 : J 1 1 = I 1 1) : clF f n J := ⟨fun k hk => by rw [a1]; exact h.1 k hk, a2.trans h.2⟩
theorem clTx.agc {f : Nat → Nat} {n : Nat} (h : clTx f n I) (a1 : ∀ k, J 4 k = I 4 k) (a2 : J 3 1 = I 3 1) : clTx f n J := ⟨fun k hk => by rw [a1]; exact h.1 k hk, a2.trans h.2⟩
theorem rfF.agc {f : Nat → Nat} {n : Nat} (h : rfF f n I) (a1 : ∀ k, J 1 k = I 1 k) (a2 : J 0 1 = I 0 1) : rfF f n J := ⟨fun k hk => by rw [a1]; exact h.1 k hk, a2.trans h.2⟩
theorem rfTx.agc {f : Nat → Nat} {n : Nat} (h : rfTx f n I) (a1 : ∀ k, J 28 k = I 28 k) (a2 : J 0 58 = I 0 58) : rfTx f n J := ⟨fun k hk => by rw [a1]; exact h.1 k hk, a2.trans h.2⟩
theorem rPl.agc {p : Int32} (h : rPl I p) (a1 : J 0 3 = I 0 3) (a2 : J 0 4 = I 0 4) : rPl J p := by
  unfold rPl
  rw [a1, a2]; exact h
end CRE
theorem no8 {a : Int32} {k : Nat} (hr : a < 1 ∨ ¬ a ≤ 8) (k1 : 1 ≤ k) (k2 : k ≤ 8) (e : a = nI k) : False := by
  subst e
  rcases hr with z | z
  · rw [show (1 : Int32) = nI 1 from rfl, nI_ltI (by omega) (by decide)] at z
    omega
  · exact z (by rw [show (8 : Int32) = nI 8 from rfl, nI_leI (by omega) (by decide)]; exact k2)
theorem nIi {a : Int32} {k k' : Nat} (e : a = nI k) (e' : a = nI k') (h : k < 2 ^ 31) (h' : k' < 2 ^ 31) : k' = k := by
  rw [e] at e'
  exact ((nI_eq h h').mp e').symm
section CRA
variable {t : Nat} {κ : Option Bool} {M1 M2 : pMd} {A : aS} {S : pNs} {g1 g2 : xH}
theorem pr_file (hg : gB t κ M1 M2 A S) (h1 : CL κ M1 A S g1) (h2 : RF κ M2 A S g2) (w : Int64) (a : Int32) : lwPair 1 25 [.long w, .int a] false g1 g2 (pRel (t + 1)) := by
  obtain ⟨I, L, F, rfl, ⟨c1, c2, c3, c4, c5, c6⟩, c7⟩ := h1
  obtain ⟨I2, L2, F2, rfl, ⟨r1, r2, r3, r4, r5, r6⟩, r7⟩ := h2
  obtain ⟨m0, s0, T, es⟩ := cSh_ex κ
  rw [es]
  have hn : aN A ≤ 1400 := hg.1.2
  have C0 : CL κ M1 A S (shG (clXX m0 s0) T, I, L, F) := ⟨I, L, F, by rw [es], ⟨c1, c2, c3, c4, c5, c6⟩, c7⟩
  have R0 : RF κ M2 A S (sh2, I2, L2, F2) := ⟨I2, L2, F2, rfl, ⟨r1, r2, r3, r4, r5, r6⟩, r7⟩
  by_cases hr : a < 1 ∨ ¬ a ≤ 8
  · exact rel_pair hg.up (cl_file hn c1 w (fun _ => ⟨rfl, C0⟩) (fun k k1 k2 e _ => (no8 hr k1 k2 e).elim) (fun k k1 k2 e _ => (no8 hr k1 k2 e).elim)) (rf_file hn r1 w (fun _ => ⟨rfl, R0⟩) (fun k k1 k2 e _ => (no8 hr k1 k2 e).elim) (fun k k1 k2 e _ => (no8 hr k1 k2 e).elim))
  · obtain ⟨k, k1, k2, ea⟩ := rg8 (fun z => hr (Or.inl z)) (Decidable.byContradiction (fun z => hr (Or.inr z)))
    by_cases hf : aN A + k ≤ 1400
    · have G : gB (t + 1) κ M1 M2 (oFl (aF A) (aN A) k w, aN A + k, A.2.2) S := ⟨⟨oFl_lt hg.1.1, hf⟩, hg.up.2⟩
      refine rel_pair (f := nI (aN A + k)) G (cl_file hn c1 w (fun z => absurd z hr) (fun k' k1' k2' e' z => ?_) (fun k' k1' k2' e' z J R D => ?_)) (rf_file hn r1 w (fun z => absurd z hr) (fun k' k1' k2' e' z => ?_) (fun k' k1' k2' e' z J R D => ?_))
      · have := nIi ea e' (by omega) (by omega)
        omega
      · have ek := nIi ea e' (by omega) (by omega)
        rw [ek] at R ⊢
        refine ⟨rfl, J, L, F, by rw [es], ⟨R, c2.agc (fun k => D 4 k (by decide) (by omega)) (D 3 1 (by decide) (by omega)), ⟨fun k hk => (D 17 k (by decide) (by omega)).trans (c3.1 k hk), (D 16 1 (by decide) (by omega)).trans c3.2⟩, c4, (D 5 13 (by decide) (by omega)).trans c5, c6.ag (D 18 10 (by decide) (by omega)) (fun k => D 37 k (by decide) (by omega)) (D 36 1 (by decide) (by omega))⟩, c7.ag (fun b k hb => D b k (by omega) (by omega)) (fun _ _ _ => rfl) (fun _ _ _ => rfl)⟩
      · have := nIi ea e' (by omega) (by omega)
        omega
      · have ek := nIi ea e' (by omega) (by omega)
        rw [ek] at R ⊢
        refine ⟨rfl, J, L2, F2, rfl, ⟨R, r2.agc (fun k => D 28 k (by decide) (by omega)) (D 0 58 (by decide) (by omega)), ⟨fun k hk => (D 29 k (by decide) (by omega)).trans (r3.1 k hk), (D 0 59 (by decide) (by omega)).trans r3.2⟩, r4, r5.agc (D 0 3 (by decide) (by omega)) (D 0 4 (by decide) (by omega)), r6.ag (D 0 60 (by decide) (by omega)) (fun k => D 30 k (by decide) (by omega)) (D 0 61 (by decide) (by omega))⟩, r7.ag (D 0 38 (by decide) (by omega)) (fun b k h1 h2 => D b k (by omega) (by omega)) ⟨rfl, rfl⟩ (fun _ => rfl)⟩
    · refine rel_pair (f := -2) hg.up (cl_file hn c1 w (fun z => absurd z hr) (fun k' k1' k2' e' z => ⟨rfl, C0⟩) (fun k' k1' k2' e' z J R D => ?_)) (rf_file hn r1 w (fun z => absurd z hr) (fun k' k1' k2' e' z => ⟨rfl, R0⟩) (fun k' k1' k2' e' z J R D => ?_))
      · have := nIi ea e' (by omega) (by omega)
        omega
      · have := nIi ea e' (by omega) (by omega)
        omega
theorem pr_text (hg : gB t κ M1 M2 A S) (h1 : CL κ M1 A S g1) (h2 : RF κ M2 A S g2) (w : Int64) (a : Int32) : lwPair 10 58 [.long w, .int a] false g1 g2 (pRel (t + 1)) := by
  obtain ⟨I, L, F, rfl, ⟨c1, c2, c3, c4, c5, c6⟩, c7⟩ := h1
  obtain ⟨I2, L2, F2, rfl, ⟨r1, r2, r3, r4, r5, r6⟩, r7⟩ := h2
  obtain ⟨m0, s0, T, es⟩ := cSh_ex κ
  rw [es]
  have hn : aT A ≤ 24 := hg.2.2.1
  have C0 : CL κ M1 A S (shG (clXX m0 s0) T, I, L, F) := ⟨I, L, F, by rw [es], ⟨c1, c2, c3, c4, c5, c6⟩, c7⟩
  have R0 : RF κ M2 A S (sh2, I2, L2, F2) := ⟨I2, L2, F2, rfl, ⟨r1, r2, r3, r4, r5, r6⟩, r7⟩
  by_cases hr : a < 1 ∨ ¬ a ≤ 8
  · exact rel_pair hg.up (cl_text hn c2 w (fun _ => ⟨rfl, C0⟩) (fun k k1 k2 e _ => (no8 hr k1 k2 e).elim) (fun k k1 k2 e _ => (no8 hr k1 k2 e).elim)) (rf_text hn r2 w (fun _ => ⟨rfl, R0⟩) (fun k k1 k2 e _ => (no8 hr k1 k2 e).elim) (fun k k1 k2 e _ => (no8 hr k1 k2 e).elim))
  · obtain ⟨k, k1, k2, ea⟩ := rg8 (fun z => hr (Or.inl z)) (Decidable.byContradiction (fun z => hr (Or.inr z)))
    by_cases hf : aT A + k ≤ 24
    · have G : gB (t + 1) κ M1 M2 (aF A, aN A, oFl (aX A) (aT A) k w, aT A + k, A.2.2.2.2) S := ⟨hg.1, oFl_lt hg.2.1, hf, hg.up.2.2.2⟩
      refine rel_pair (f := nI (aT A + k)) G (cl_text hn c2 w (fun z => absurd z hr) (fun k' k1' k2' e' z => ?_) (fun k' k1' k2' e' z J R D => ?_)) (rf_text hn r2 w (fun z => absurd z hr) (fun k' k1' k2' e' z => ?_) (fun k' k1' k2' e' z J R D => ?_))
      · have := nIi ea e' (by omega) (by omega)
        omega
      · have ek := nIi ea e' (by omega) (by omega)
        rw [ek] at R ⊢
        refine ⟨rfl, J, L, F, by rw [es], ⟨c1.agc (fun k => D 2 k (by decide) (by omega)) (D 1 1 (by decide) (by omega)), R, ⟨fun k hk => (D 17 k (by decide) (by omega)).trans (c3.1 k hk), (D 16 1 (by decide) (by omega)).trans c3.2⟩, c4, (D 5 13 (by decide) (by omega)).trans c5, c6.ag (D 18 10 (by decide) (by omega)) (fun k => D 37 k (by decide) (by omega)) (D 36 1 (by decide) (by omega))⟩, c7.ag (fun b k hb => D b k (by omega) (by omega)) (fun _ _ _ => rfl) (fun _ _ _ => rfl)⟩
      · have := nIi ea e' (by omega) (by omega)
        omega
      · have ek := nIi ea e' (by omega) (by omega)
        rw [ek] at R ⊢
        refine ⟨rfl, J, L2, F2, rfl, ⟨r1.agc (fun k => D 1 k (by decide) (by omega)) (D 0 1 (by decide) (by omega)), R, ⟨fun k hk => (D 29 k (by decide) (by omega)).trans (r3.1 k hk), (D 0 59 (by decide) (by omega)).trans r3.2⟩, r4, r5.agc (D 0 3 (by decide) (by omega)) (D 0 4 (by decide) (by omega)), r6.ag (D 0 60 (by decide) (by omega)) (fun k => D 30 k (by decide) (by omega)) (D 0 61 (by decide) (by omega))⟩, r7.ag (D 0 38 (by decide) (by omega)) (fun b k h1 h2 => D b k (by omega) (by omega)) ⟨rfl, rfl⟩ (fun _ => rfl)⟩
    · refine rel_pair (f := -2) hg.up (cl_text hn c2 w (fun z => absurd z hr) (fun k' k1' k2' e' z => ⟨rfl, C0⟩) (fun k' k1' k2' e' z J R D => ?_)) (rf_text hn r2 w (fun z => absurd z hr) (fun k' k1' k2' e' z => ⟨rfl, R0⟩) (fun k' k1' k2' e' z J R D => ?_))
      · have := nIi ea e' (by omega) (by omega)
        omega
      · have := nIi ea e' (by omega) (by omega)
        omega
theorem pr_flip (hg : gB t κ M1 M2 A S) (h1 : CL κ M1 A S g1) (h2 : RF κ M2 A S g2) (a b : Int32) : lwPair 2 26 [.int a, .int b] false g1 g2 (pRel (t + 1)) := by
  obtain ⟨I, L, F, rfl, ⟨c1, c2, c3, c4, c5, c6⟩, c7⟩ := h1
  obtain ⟨I2, L2, F2, rfl, ⟨r1, r2, r3, r4, r5, r6⟩, r7⟩ := h2
  obtain ⟨m0, s0, T, es⟩ := cSh_ex κ
  rw [es]
  have hn : aN A ≤ 1400 := hg.1.2
  have C0 : CL κ M1 A S (shG (clXX m0 s0) T, I, L, F) := ⟨I, L, F, by rw [es], ⟨c1, c2, c3, c4, c5, c6⟩, c7⟩
  have R0 : RF κ M2 A S (sh2, I2, L2, F2) := ⟨I2, L2, F2, rfl, ⟨r1, r2, r3, r4, r5, r6⟩, r7⟩
  by_cases hr : rgI a (aN A) ∧ ¬ b < 0 ∧ b ≤ 255
  · obtain ⟨k, hk, ea⟩ := rgn (by omega) hr.1.1 hr.1.2
    obtain ⟨x, hx, eb⟩ := rgx (N := 255) (by decide) hr.2.1 hr.2.2
    have G : gB (t + 1) κ M1 M2 (oFx (aF A) k (nI x), A.2) S := ⟨⟨oFx_lt hg.1.1, hn⟩, hg.up.2⟩
    refine rel_pair (f := nI (oFx (aF A) k (nI x) k)) G (cl_flip hn c1 (fun z => absurd hr z) (fun k' x' k1' x1' e' e2' J R D => ?_)) (rf_flip hg.1 r1 (fun z => absurd hr z) (fun k' x' k1' x1' e' e2' J R D => ?_))
    · have ek := nIi ea e' (by omega) (by omega)
      have ex := nIi eb e2' (by omega) (by omega)
      rw [ek, ex] at R ⊢
      refine ⟨rfl, J, L, F, by rw [es], ⟨R, c2.agc (fun k => D 4 k (by decide)) (D 3 1 (by decide)), ⟨fun k hk => (D 17 k (by decide)).trans (c3.1 k hk), (D 16 1 (by decide)).trans c3.2⟩, c4, (D 5 13 (by decide)).trans c5, c6.ag (D 18 10 (by decide)) (fun k => D 37 k (by decide)) (D 36 1 (by decide))⟩, c7.ag (fun b k hb => D b k (by omega)) (fun _ _ _ => rfl) (fun _ _ _ => rfl)⟩
    · have ek := nIi ea e' (by omega) (by omega)
      have ex := nIi eb e2' (by omega) (by omega)
      rw [ek, ex] at R ⊢
      refine ⟨rfl, J, L2, F2, rfl, ⟨R, r2.agc (fun k => D 28 k (by decide)) (D 0 58 (by decide)), ⟨fun k hk => (D 29 k (by decide)).trans (r3.1 k hk), (D 0 59 (by decide)).trans r3.2⟩, r4, r5.agc (D 0 3 (by decide)) (D 0 4 (by decide)), r6.ag (D 0 60 (by decide)) (fun k => D 30 k (by decide)) (D 0 61 (by decide))⟩, r7.ag (D 0 38 (by decide)) (fun b k h1 h2 => D b k (by omega)) ⟨rfl, rfl⟩ (fun _ => rfl)⟩
  · exact rel_pair (f := -1) hg.up (cl_flip hn c1 (fun _ => ⟨rfl, C0⟩) (fun k x hk hx ea eb => absurd (show rgI a (aN A) ∧ ¬ b < 0 ∧ b ≤ 255 from ⟨⟨by rw [ea]; exact nI_pos (by omega), by rw [ea, nI_p1 (by omega)]; exact nI_le (by omega) (by omega)⟩, by rw [eb]; exact nI_pos (by omega), by rw [eb, show (255 : Int32) = nI 255 from rfl]; exact nI_le (by omega) (by omega)⟩) hr)) (rf_flip hg.1 r1 (fun _ => ⟨rfl, R0⟩) (fun k x hk hx ea eb => absurd (show rgI a (aN A) ∧ ¬ b < 0 ∧ b ≤ 255 from ⟨⟨by rw [ea]; exact nI_pos (by omega), by rw [ea, nI_p1 (by omega)]; exact nI_le (by omega) (by omega)⟩, by rw [eb]; exact nI_pos (by omega), by rw [eb, show (255 : Int32) = nI 255 from rfl]; exact nI_le (by omega) (by omega)⟩) hr))
theorem pr_clear (hg : gB t κ M1 M2 A S) (h1 : CL κ M1 A S g1) (h2 : RF κ M2 A S g2) : lwPair 3 27 [] false g1 g2 (pRel (t + 1)) := by
  obtain ⟨I, L, F, rfl, ⟨c1, c2, c3, c4, c5, c6⟩, c7⟩ := h1
  obtain ⟨I2, L2, F2, rfl, ⟨r1, r2, r3, r4, r5, r6⟩, r7⟩ := h2
  obtain ⟨m0, s0, T, es⟩ := cSh_ex κ
  rw [es]
  have G : gB (t + 1) κ M1 M2 (aF A, 0, A.2.2) S := ⟨⟨hg.1.1, Nat.zero_le _⟩, hg.up.2⟩
  have D1 : ∀ b k, ¬ (b = 1 ∧ k = 1) → x2 I 1 1 0 b k = I b k := fun b k h => x2_o _ _ h
  have D2 : ∀ b k, ¬ (b = 0 ∧ k = 1) → x2 I2 0 1 0 b k = I2 b k := fun b k h => x2_o _ _ h
  refine rel_pair (f := nI (aN A)) G (cl_clear ⟨by rw [c1.2], x2 I 1 1 0, L, F, by rw [es], ⟨⟨fun k hk => by rw [D1 2 k (by omega)]; exact c1.1 k hk, x2_same _ _ _ _⟩, c2.agc (fun k => D1 4 k (by omega)) (D1 3 1 (by omega)), ⟨fun k hk => (D1 17 k (by omega)).trans (c3.1 k hk), (D1 16 1 (by omega)).trans c3.2⟩, c4, (D1 5 13 (by omega)).trans c5, c6.ag (D1 18 10 (by omega)) (fun k => D1 37 k (by omega)) (D1 36 1 (by omega))⟩, c7.ag (fun b k hb => D1 b k (by omega)) (fun _ _ _ => rfl) (fun _ _ _ => rfl)⟩) (rf_clear ⟨by rw [r1.2], x2 I2 0 1 0, L2, F2, rfl, ⟨⟨fun k hk => by rw [D2 1 k (by omega)]; exact r1.1 k hk, x2_same _ _ _ _⟩, r2.agc (fun k => D2 28 k (by omega)) (D2 0 58 (by omega)), ⟨fun k hk => (D2 29 k (by omega)).trans (r3.1 k hk), (D2 0 59 (by omega)).trans r3.2⟩, r4, r5.agc (D2 0 3 (by omega)) (D2 0 4 (by omega)), r6.ag (D2 0 60 (by omega)) (fun k => D2 30 k (by omega)) (D2 0 61 (by omega))⟩, r7.ag (D2 0 38 (by omega)) (fun b k h1 h2 => D2 b k (by omega)) ⟨rfl, rfl⟩ (fun _ => rfl)⟩)
theorem pr_place (hg : gB t κ M1 M2 A S) (h1 : CL κ M1 A S g1) (h2 : RF κ M2 A S g2) : lwPair 7 55 [] false g1 g2 (pRel (t + 1)) := by
  obtain ⟨I, L, F, rfl, ⟨c1, c2, c3, c4, c5, c6⟩, c7⟩ := h1
  obtain ⟨I2, L2, F2, rfl, ⟨r1, r2, r3, r4, r5, r6⟩, r7⟩ := h2
  obtain ⟨m0, s0, T, es⟩ := cSh_ex κ
  rw [es]
  exact rel_pair (f := aP A) hg.up (cl_place ⟨by rw [c5], I, L, F, by rw [es], ⟨c1, c2, c3, c4, c5, c6⟩, c7⟩) (rf_place (fun z1 z2 => ⟨by rw [r5.1 z1 z2], I2, L2, F2, rfl, ⟨r1, r2, r3, r4, r5, r6⟩, r7⟩) (fun z => ⟨by rw [r5.2 z], I2, L2, F2, rfl, ⟨r1, r2, r3, r4, r5, r6⟩, r7⟩))
theorem pr_token (hg : gB t κ M1 M2 A S) (h1 : CL κ M1 A S g1) (h2 : RF κ M2 A S g2) (a : Int32) : lwPair 12 60 [.int a] false g1 g2 (pRel (t + 1)) := by
  obtain ⟨I, L, F, rfl, ⟨c1, c2, c3, c4, c5, c6⟩, c7⟩ := h1
  obtain ⟨I2, L2, F2, rfl, ⟨r1, r2, r3, r4, r5, r6⟩, r7⟩ := h2
  obtain ⟨m0, s0, T, es⟩ := cSh_ex κ
  rw [es]
  have C0 : CL κ M1 A S (shG (clXX m0 s0) T, I, L, F) := ⟨I, L, F, by rw [es], ⟨c1, c2, c3, c4, c5, c6⟩, c7⟩
  have R0 : RF κ M2 A S (sh2, I2, L2, F2) := ⟨I2, L2, F2, rfl, ⟨r1, r2, r3, r4, r5, r6⟩, r7⟩
  have hc : aC A ≤ 24 := hg.2.2.2.1
  by_cases hr : rgI a (aC A)
  · obtain ⟨k, hk, ea⟩ := rgn (by omega) hr.1 hr.2
    refine rel_pair (f := nI (aE A k)) hg.up (cl_token hc c3.2 (fun k' hk' e' => ?_) (fun z => absurd hr z)) (rf_token hc r3.2 (fun k' hk' e' => ?_) (fun z => absurd hr z))
    · have ek := nIi ea e' (by omega) (by omega)
      rw [ek, c3.1 k hk]; exact ⟨rfl, C0⟩
    · have ek := nIi ea e' (by omega) (by omega)
      rw [ek, r3.1 k hk]; exact ⟨rfl, R0⟩
  · have no : ∀ k, k < aC A → a = nI k → False := fun k hk e => hr ⟨by rw [e]; exact nI_pos (by omega), by rw [e, nI_p1 (by omega)]; exact nI_le (by omega) (by omega)⟩
    exact rel_pair (f := -1) hg.up (cl_token hc c3.2 (fun k hk e => (no k hk e).elim) (fun _ => ⟨rfl, C0⟩)) (rf_token hc r3.2 (fun k hk e => (no k hk e).elim) (fun _ => ⟨rfl, R0⟩))
theorem pr_seed (hg : gB t κ M1 M2 A S) (h1 : CL κ M1 A S g1) (h2 : RF κ M2 A S g2) (w : Int64) : lwPair 17 71 [.long w] true g1 g2 (pRel (t + 1)) := by
  obtain ⟨I, L, F, rfl, ⟨c1, c2, c3, c4, c5, c6⟩, c7⟩ := h1
  obtain ⟨I2, L2, F2, rfl, ⟨r1, r2, r3, r4, r5, r6⟩, r7⟩ := h2
  obtain ⟨m0, s0, T, es⟩ := cSh_ex κ
  rw [es]
  have G : gB (t + 1) κ M1 M2 (aF A, aN A, aX A, aT A, aE A, aC A, (if w = 0 then 1 else w), aP A) S := hg.up
  refine rel_pairv G (cl_seed ⟨rfl, I, x2 L 33 2 (if w = 0 then 1 else w), F, by rw [es], ⟨c1, c2, c3, x2_same _ _ _ _, c5, c6⟩, c7.ag (fun _ _ _ => rfl) (fun b k hb => x2_o _ _ (by omega)) (fun _ _ _ => rfl)⟩) (rf_seed ⟨rfl, I2, x2 L2 0 62 (if w = 0 then 1 else w), F2, rfl, ⟨r1, r2, r3, x2_same _ _ _ _, r5, r6⟩, r7⟩)
theorem pr_said (hg : gB t κ M1 M2 A S) (ht : t < 512) (h1 : CL κ M1 A S g1) (h2 : RF κ M2 A S g2) (a : Int32) : lwPair 21 75 [.int a] false g1 g2 (pRel (t + 1)) := by
  obtain ⟨I, L, F, rfl, ⟨c1, c2, c3, c4, c5, c6⟩, c7⟩ := h1
  obtain ⟨I2, L2, F2, rfl, ⟨r1, r2, r3, r4, r5, r6⟩, r7⟩ := h2
  obtain ⟨m0, s0, T, es⟩ := cSh_ex κ
  rw [es]
  have C0 : CL κ M1 A S (shG (clXX m0 s0) T, I, L, F) := ⟨I, L, F, by rw [es], ⟨c1, c2, c3, c4, c5, c6⟩, c7⟩
  have R0 : RF κ M2 A S (sh2, I2, L2, F2) := ⟨I2, L2, F2, rfl, ⟨r1, r2, r3, r4, r5, r6⟩, r7⟩
  have hy : nY S < 2 ^ 31 := by have := hg.2.2.2.2.1; omega
  have lt : ∀ k, (nY S - 1 - k) % 32 < 32 := fun k => Nat.mod_lt _ (by decide)
  by_cases hr : rgI a 32 ∧ rgI a (nY S)
  · obtain ⟨k, hk, ea⟩ := rgn (N := 32) (by decide) hr.1.1 hr.1.2
    refine rel_pair (f := nI (nTl S ((nY S - 1 - k) % 32))) hg.up (cl_said hy c6.2.2.2.2.2 (fun k' hk' hy' e' => ?_) (fun z => absurd hr z)) (rf_said hy r6.2.2.2.2.2 (fun k' hk' hy' e' => ?_) (fun z => absurd hr z))
    · have ek := nIi ea e' (by omega) (by omega)
      rw [ek, c6.2.2.2.2.1 _ (lt k)]; exact ⟨rfl, C0⟩
    · have ek := nIi ea e' (by omega) (by omega)
      rw [ek, r6.2.2.2.2.1 _ (lt k)]; exact ⟨rfl, R0⟩
  · have no : ∀ k, k < 32 → k < nY S → a = nI k → False := fun k hk hk2 e => hr ⟨⟨by rw [e]; exact nI_pos (by omega), by rw [e, nI_p1 (by decide)]; exact nI_le (by omega) (by omega)⟩, ⟨by rw [e]; exact nI_pos (by omega), by rw [e, nI_p1 (by omega)]; exact nI_le (by omega) (by omega)⟩⟩
    exact rel_pair (f := -1) hg.up (cl_said hy c6.2.2.2.2.2 (fun k hk hk2 e => (no k hk hk2 e).elim) (fun _ => ⟨rfl, C0⟩)) (rf_said hy r6.2.2.2.2.2 (fun k hk hk2 e => (no k hk hk2 e).elim) (fun _ => ⟨rfl, R0⟩))
end CRA
