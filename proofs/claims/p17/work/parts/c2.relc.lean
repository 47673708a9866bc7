/-! load as a pair; all calls; new objects -/
def kN : Option Bool → Option Bool
  | none => some false
  | some false => some true
  | some true => some false
def aL (A : aS) : aS := (aF A, aN A, aX A, 0, aE A, 0, aW A, -1)
def aQ (A : aS) (p : Int32) : aS := (aF A, aN A, aX A, aT A, aE A, aC A, aW A, p)
section CRD
variable {κ : Option Bool} {M M' : pMd} {A : aS} {S : pNs} {I J : Nat → Nat → Int32} {L L' : Nat → Nat → Int64} {F G : Nat → Nat → UInt32}
theorem ld_ok (c : cB A M S I L F) (D : ∀ b k, b < 38 → b ≠ 5 → ¬ (6 ≤ b ∧ b ≤ 13) → b ≠ 15 → ¬ (b = 18 ∧ k = 10) → ¬ (b = 16 ∧ k = 1) → ¬ (b = 3 ∧ k = 1) → ¬ (b = 36 ∧ k = 1) → J b k = I b k) (z : J 18 10 = 0 ∧ J 16 1 = 0 ∧ J 3 1 = 0 ∧ J 36 1 = 0) (p : J 5 13 = -1) (dl : ∀ b k, b < 38 → L' b k = L b k) (dg : ∀ b k, b < 38 → G b k = F b k) : cB (aL A) M' (nZ S) J L' G := by
  obtain ⟨c1, c2, c3, c4, c5, c6⟩ := c
  exact ⟨c1.agc (fun k => D 2 k (by decide) (by decide) (by omega) (by decide) (by omega) (by omega) (by omega) (by omega)) (D 1 1 (by decide) (by decide) (by omega) (by decide) (by omega) (by omega) (by omega) (by omega)), ⟨fun k hk => by rw [D 4 k (by decide) (by decide) (by omega) (by decide) (by omega) (by omega) (by omega) (by omega)]; exact c2.1 k hk, z.2.2.1⟩, ⟨fun k hk => absurd hk (Nat.not_lt_zero _), z.2.1⟩, (dl 33 2 (by decide)).trans c4, p, z.1, Nat.zero_le _, c6.2.2.1.agf dg, fun h => absurd h (Nat.lt_irrefl _), fun k hk => (D 37 k (by decide) (by decide) (by omega) (by decide) (by omega) (by omega) (by omega) (by omega)).trans (c6.2.2.2.2.1 k hk), z.2.2.2⟩
theorem ld_bad {w : Int32} (c : cB A M S I L F) (D : ∀ b k, b < 38 → b ≠ 5 → ¬ (6 ≤ b ∧ b ≤ 13) → b ≠ 15 → J b k = I b k) (p : J 5 13 = w) (dl : ∀ b k, b < 38 → L' b k = L b k) (dg : ∀ b k, b < 38 → G b k = F b k) : cB (aQ A w) M S J L' G := by
  obtain ⟨c1, c2, c3, c4, c5, c6⟩ := c
  exact ⟨c1.agc (fun k => D 2 k (by decide) (by decide) (by omega) (by decide)) (D 1 1 (by decide) (by decide) (by omega) (by decide)), c2.agc (fun k => D 4 k (by decide) (by decide) (by omega) (by decide)) (D 3 1 (by decide) (by decide) (by omega) (by decide)), ⟨fun k hk => (D 17 k (by decide) (by decide) (by omega) (by decide)).trans (c3.1 k hk), (D 16 1 (by decide) (by decide) (by omega) (by decide)).trans c3.2⟩, (dl 33 2 (by decide)).trans c4, p, (D 18 10 (by decide) (by decide) (by omega) (by decide)).trans c6.1, c6.2.1, c6.2.2.1.agf dg, fun s0 i hi => by rw [dg 26 i (by decide)]; exact c6.2.2.2.1 s0 i hi, fun k hk => (D 37 k (by decide) (by decide) (by omega) (by decide)).trans (c6.2.2.2.2.1 k hk), (D 36 1 (by decide) (by decide) (by omega) (by decide)).trans c6.2.2.2.2.2⟩
/-- what load of the class leaves -/
def lQ (κ : Option Bool) (M : pMd) (A : aS) (S : pNs) (h : xH) : Prop := (∃ M', clSnd (aF A) (aN A) M' ∧ CL (kN κ) M' (aL A) (nZ S) h) ∨ ∃ c w, clFlt (aF A) (aN A) c w ∧ CL κ M (aQ A w) S h
def lR (κ : Option Bool) (M : pMd) (A : aS) (S : pNs) (h : xH) : Prop := (∃ M', sSnd (aF A) (aN A) M' ∧ RF (kN κ) M' (aL A) (nZ S) h) ∨ ∃ c w, sFlt (aF A) (aN A) c w ∧ RF κ M (aQ A (if c ≤ 7 then nI w else -1)) S h
theorem cl_ld (hG : rfG (aF A) (aN A)) (c : cB A M S I L F) (c7 : cMd κ M I L F) : XM xE0 100 4 [.ref 0] (cSh κ, I, L, F) (fun v h => ∃ a, v = some (.int a) ∧ lQ κ M A S h) := by
  have c1 := c.1
  match κ, c7 with
  | none, _ =>
    refine cl_load_0 hG c1 (fun M' hs J' J2 L' G' L2 G2 aI aK aG hM e13 b1 b2 b3 => ?_) (fun cc w _ _ hf J' L' G' aI aK aG e => ?_)
    · obtain ⟨z1, z2, z3, z4⟩ := clFg_z (I := J')
      refine ⟨0, rfl, Or.inl ⟨M', hs, J2, L2, G2, rfl, ld_ok c (fun b k h1 h2 h3 h4 h5 h6 h7 h8 => ?_) ⟨(b1 18 10 (by decide)).trans z1, (b1 16 1 (by decide)).trans z2, (b1 3 1 (by decide)).trans z3, (b1 36 1 (by decide)).trans z4⟩ ?_ (fun b k hb => (b2 b k (by omega)).trans (aK b k (by omega))) (fun b k hb => (b3 b k (by omega)).trans (aG b k (by omega))), ?_⟩⟩
      · rw [b1 b k (by omega), clFg_q h5 h6 h7 h8]
        exact aI b k (by omega) (by omega) h4 (by omega)
      · rw [b1 5 13 (by decide), clFg_q (by omega) (by omega) (by omega) (by omega)]; exact e13
      · exact hM.ag3 (fun b k h1 h2 => by rw [b1 b k (by omega), clFg_q (by omega) (by omega) (by omega) (by omega)]) (fun b k h1 h2 => b2 b k (by omega)) (fun b k h1 h2 => b3 b k (by omega))
    · exact ⟨_, rfl, Or.inr ⟨cc, w, hf, J', L', G', rfl, ld_bad c (fun b k h1 h2 h3 h4 => aI b k (by omega) (by omega) h4 (by omega)) e (fun b k hb => aK b k (by omega)) (fun b k hb => aG b k (by omega)), trivial⟩⟩
  | some false, c7 =>
    refine cl_load_1 hG c1 (fun M' hs J' J2 L' G' aI aK aG hM e13 ej => ?_) (fun cc w _ _ hf J' L' G' aI aK aG e => ?_)
    · subst ej
      obtain ⟨z1, z2, z3, z4⟩ := clFg_z (I := J')
      refine ⟨0, rfl, Or.inl ⟨M', hs, clFg J', L', G', rfl, ld_ok c (fun b k h1 h2 h3 h4 h5 h6 h7 h8 => ?_) ⟨z1, z2, z3, z4⟩ ?_ (fun b k hb => aK b k (by omega)) (fun b k hb => aG b k (by omega)), ?_⟩⟩
      · rw [clFg_q h5 h6 h7 h8]
        exact aI b k (by omega) (by omega) h4 (by omega)
      · rw [clFg_q (by omega) (by omega) (by omega) (by omega)]; exact e13
      · exact clMd_b.ag3 hM (fun b k h1 h2 => clFg_q (by omega) (by omega) (by omega) (by omega)) (fun _ _ _ _ => rfl) (fun _ _ _ _ => rfl)
    · exact ⟨_, rfl, Or.inr ⟨cc, w, hf, J', L', G', rfl, ld_bad c (fun b k h1 h2 h3 h4 => aI b k (by omega) (by omega) h4 (by omega)) e (fun b k hb => aK b k (by omega)) (fun b k hb => aG b k (by omega)), clMd_a.ag3 c7 (fun b k h1 h2 => aI b k (by omega) (by omega) (by omega) (by omega)) (fun b k h1 h2 => aK b k (by omega)) (fun b k h1 h2 => aG b k (by omega))⟩⟩
  | some true, c7 =>
    refine cl_load_2 hG c1 (fun M' hs J' J2 L' G' aI aK aG hM e13 ej => ?_) (fun cc w _ _ hf J' L' G' aI aK aG e => ?_)
    · subst ej
      obtain ⟨z1, z2, z3, z4⟩ := clFg_z (I := J')
      refine ⟨0, rfl, Or.inl ⟨M', hs, clFg J', L', G', rfl, ld_ok c (fun b k h1 h2 h3 h4 h5 h6 h7 h8 => ?_) ⟨z1, z2, z3, z4⟩ ?_ (fun b k hb => aK b k (by omega)) (fun b k hb => aG b k (by omega)), ?_⟩⟩
      · rw [clFg_q h5 h6 h7 h8]
        exact aI b k (by omega) (by omega) h4 (by omega)
      · rw [clFg_q (by omega) (by omega) (by omega) (by omega)]; exact e13
      · exact clMd_a.ag3 hM (fun b k h1 h2 => clFg_q (by omega) (by omega) (by omega) (by omega)) (fun _ _ _ _ => rfl) (fun _ _ _ _ => rfl)
    · exact ⟨_, rfl, Or.inr ⟨cc, w, hf, J', L', G', rfl, ld_bad c (fun b k h1 h2 h3 h4 => aI b k (by omega) (by omega) h4 (by omega)) e (fun b k hb => aK b k (by omega)) (fun b k hb => aG b k (by omega)), clMd_b.ag3 c7 (fun b k h1 h2 => aI b k (by omega) (by omega) (by omega) (by omega)) (fun b k h1 h2 => aK b k (by omega)) (fun b k h1 h2 => aG b k (by omega))⟩⟩
theorem kN_some : ∃ q, kN κ = some q := match κ with
  | none => ⟨_, rfl⟩
  | some false => ⟨_, rfl⟩
  | some true => ⟨_, rfl⟩
theorem rf_ld (hG : rfG (aF A) (aN A)) (r : rB A M S I L F) (r7 : rMd κ M I F) : XM xE0 100 52 [.ref 0] (sh2, I, L, F) (fun v h => ∃ a, v = some (.int a) ∧ lR κ M A S h) := by
  obtain ⟨r1, r2, r3, r4, r5, r6⟩ := r
  refine rf_load hG r1 (fun M' hs J' F' D DG hM e3 e58 e59 e60 e61 => ?_) (fun c w h1 h12 hf J' F' D DG e3 e4 => ?_)
  · refine ⟨0, rfl, Or.inl ⟨M', hs, J', L, F', rfl, ⟨r1.agc (fun k => D 1 k (by omega) (by omega)) (D 0 1 (by omega) (by omega)), ⟨fun k hk => (D 28 k (by omega) (by omega)).trans (r2.1 k hk), e58⟩, ⟨fun k hk => absurd hk (Nat.not_lt_zero _), e59⟩, r4, ⟨fun z _ => absurd (show J' 0 3 < 1 by rw [e3]; decide) z, fun _ => rfl⟩, e60, Nat.zero_le _, r6.2.2.1.ag (funext fun k => DG 41 k (by decide) (by omega)) (funext fun k => DG 42 k (by decide) (by omega)), fun h => absurd h (Nat.lt_irrefl _), fun k hk => (D 30 k (by omega) (by omega)).trans (r6.2.2.2.2.1 k hk), e61⟩, ?_⟩⟩
    obtain ⟨q, eq⟩ := kN_some (κ := κ)
    rw [eq]
    exact hM
  · have n1 : ¬ nI c < 1 := by rw [show (1 : Int32) = nI 1 from rfl, nI_ltI (by omega) (by decide)]; omega
    have n7 : nI c ≤ 7 ↔ c ≤ 7 := by rw [show (7 : Int32) = nI 7 from rfl, nI_leI (by omega) (by decide)]
    refine ⟨nI c, rfl, Or.inr ⟨c, w, hf, J', L, F', rfl, ⟨r1.agc (fun k => D 1 k (by omega) (by omega)) (D 0 1 (by omega) (by omega)), r2.agc (fun k => D 28 k (by omega) (by omega)) (D 0 58 (by omega) (by omega)), ⟨fun k hk => (D 29 k (by omega) (by omega)).trans (r3.1 k hk), (D 0 59 (by omega) (by omega)).trans r3.2⟩, r4, ⟨fun _ z => ?_, fun z => ?_⟩, (D 0 60 (by omega) (by omega)).trans r6.1, r6.2.1, r6.2.2.1.ag (funext fun k => DG 41 k (by omega)) (funext fun k => DG 42 k (by omega)), fun s0 i hi => by rw [DG 43 i (by omega)]; exact r6.2.2.2.1 s0 i hi, fun k hk => (D 30 k (by omega) (by omega)).trans (r6.2.2.2.2.1 k hk), (D 0 61 (by omega) (by omega)).trans r6.2.2.2.2.2⟩, r7.ag (D 0 38 (by omega) (by omega)) (fun b k h1 h2 => D b k (by omega) (by omega)) ⟨DG 0 39 (by omega), DG 0 40 (by omega)⟩ (fun k => DG 27 k (by omega))⟩⟩
    · rw [e3, n7] at z
      rw [e4 z]
      exact (if_pos z).symm
    · rw [e3, n7] at z
      exact if_neg (z.elim (fun y => absurd y n1) id)
end CRD
theorem pr_load {t : Nat} {κ : Option Bool} {M1 M2 : pMd} {A : aS} {S : pNs} {g1 g2 : xH} (hg : gB t κ M1 M2 A S) (h1 : CL κ M1 A S g1) (h2 : RF κ M2 A S g2) : lwPairX 4 52 [] g1 g2 (pRel (t + 1)) := by
  obtain ⟨I, L, F, rfl, c, c7⟩ := h1
  obtain ⟨I2, L2, F2, rfl, r, r7⟩ := h2
  obtain ⟨v1, k1, ⟨a, ea, q1⟩, x1⟩ := (cl_ld hg.1 c c7).det
  obtain ⟨v2, k2, ⟨az, ez, q2⟩, x2'⟩ := (rf_ld hg.1 r r7).det
  subst ea
  subst ez
  refine ⟨a, az, k1, k2, x1, x2', ?_⟩
  rcases q1 with ⟨M', s1, p1⟩ | ⟨c', w', s1, p1⟩
  · rcases q2 with ⟨N', s2, p2⟩ | ⟨c2, w2, s2, p2⟩
    · have z := snd_cl hg.1 s2 s1
      exact ⟨kN κ, M', N', aL A, nZ S, ⟨hg.1, hg.2.1, Nat.zero_le _, Nat.zero_le _, Nat.zero_le _, fun _ => rfl, fun _ => z⟩, p1, p2⟩
    · exact (cl_nf hg.1 s1 s2).elim
  · rcases q2 with ⟨N', s2, p2⟩ | ⟨c2, w2, s2, p2⟩
    · exact (snd_nf hg.1 s2 s1).elim
    · have fp := flt_place s2 s1
      have e : (if c2 ≤ 7 then nI w2 else -1) = w' := by
        split
        · rename_i y; exact (fp.1 y).symm
        · rename_i y; exact (fp.2 y).symm
      rw [e] at p2
      exact ⟨κ, M1, M2, aQ A w', S, hg.up, p1, p2⟩
theorem px_len (κ : Option Bool) : (∃ rf, (cSh κ)[0]? = some (.inr (0, rf))) ∧ (cSh κ).length + sh2.length ≤ 600000 ∧ xsz xE0 (cSh κ) + xsz xE0 sh2 ≤ 7302250 := match κ with
  | none => ⟨⟨_, rfl⟩, by decide +kernel, by decide +kernel⟩
  | some false => ⟨⟨_, rfl⟩, by decide +kernel, by decide +kernel⟩
  | some true => ⟨⟨_, rfl⟩, by decide +kernel, by decide +kernel⟩
/-- every run of at most 512 calls: the answers are the same, but load's -/
theorem px_spec : lwSpec 512 pRel := by
  refine ⟨fun t h1 h2 h => ?_, fun t h1 h2 h => ?_, fun t h1 h2 h ht a1 a2 a3 => ?_⟩
  · obtain ⟨κ, M1, M2, A, S, hg, ⟨I, L, F, e1, -⟩, I2, L2, F2, e2, -⟩ := h
    rw [e1, e2]
    have k := px_len κ
    exact ⟨k.1, ⟨_, rfl⟩, k.2.1, k.2.2⟩
  · obtain ⟨κ, M1, M2, A, S, hg, p1, p2⟩ := h
    exact ⟨κ, M1, M2, A, S, hg.up, p1, p2⟩
  · obtain ⟨κ, M1, M2, A, S, hg, p1, p2⟩ := h
    exact ⟨pr_file hg p1 p2 _ a3, pr_flip hg p1 p2 a1 a2, pr_clear hg p1 p2, pr_load hg p1 p2, pr_place hg p1 p2, pr_fact hg p1 p2 a1, pr_weight hg p1 p2 a1 a2 a3, pr_text hg p1 p2 _ a3, pr_encode hg p1 p2, pr_token hg p1 p2 a1, pr_letter hg p1 p2 a1 a2, pr_step hg p1 p2 a1, pr_logit hg p1 p2 a1, pr_seed hg p1 p2 _, pr_draw hg p1 p2 a1 a2 a3, pr_say hg ht p1 p2 a1, pr_said hg ht p1 p2 a1, pr_reset hg p1 p2⟩
/-- new objects -/
def zA : aS := (fun _ => 0, 0, fun _ => 0, 0, fun _ => 0, 0, 1, -1)
def zS : pNs := (0, fun _ _ _ => 0, fun _ _ _ => 0, fun _ => 0, fun _ => 0, 0)
def zM : pMd := mdF (fun _ => 0) 0 0 0 0 0 0
set_option maxHeartbeats 40000000 in
set_option maxRecDepth 100000 in
theorem new1z : XM xE0 100 0 [.ref 0] (lw_hn xE0 0) (fun v' h' => v' = none ∧ h'.1 = sh1 ∧ fr1 h'.2.1 h'.2.2.1 h'.2.2.2 ∧ (∀ k, h'.2.1 2 k = 0) ∧ (∀ k, h'.2.1 4 k = 0) ∧ (∀ k, h'.2.1 37 k = 0) ∧ (∀ k, h'.2.2.2 28 k = 0) ∧ (∀ k, h'.2.2.2 29 k = 0) ∧ (∀ k, h'.2.2.2 31 k = 0) ∧ (∀ k, h'.2.2.2 32 k = 0)) := by
  repeat (first | refine And.intro ⟨by decide, by decide⟩ ?_ | refine And.intro trivial ?_ | refine XC.block [] 300 ?_)
  refine And.intro rfl (And.intro ?_ (And.intro ?_ ?_))
  · rfl
  · exact ⟨rfl, rfl, rfl, rfl, rfl, rfl, rfl, rfl, rfl, rfl, rfl, rfl, rfl, rfl, rfl, rfl, rfl, rfl⟩
  · exact ⟨fun _ => rfl, fun _ => rfl, fun _ => rfl, fun _ => rfl, fun _ => rfl, fun _ => rfl, fun _ => rfl⟩
set_option maxHeartbeats 40000000 in
set_option maxRecDepth 100000 in
theorem new2z : XM xE0 100 23 [.ref 0] (lw_hn xE0 11) (fun v' h' => v' = none ∧ h'.1 = sh2 ∧ fr2 h'.2.1 h'.2.2.1 h'.2.2.2 ∧ (∀ k, h'.2.1 1 k = 0) ∧ (∀ k, h'.2.1 28 k = 0) ∧ (∀ k, h'.2.1 30 k = 0) ∧ (∀ k, h'.2.2.2 41 k = 0) ∧ (∀ k, h'.2.2.2 42 k = 0)) := by
  repeat (first | refine And.intro ⟨by decide, by decide⟩ ?_ | refine And.intro trivial ?_ | refine XC.block [] 300 ?_)
  refine And.intro rfl (And.intro ?_ (And.intro ?_ ?_))
  · rfl
  · exact ⟨rfl, rfl, rfl, rfl, rfl, rfl, rfl, rfl, rfl, rfl, rfl, rfl, rfl, rfl, rfl, rfl, rfl, rfl, rfl⟩
  · exact ⟨fun _ => rfl, fun _ => rfl, fun _ => rfl, fun _ => rfl, fun _ => rfl⟩
theorem fz0 (j : Nat) : fB j (0 : UInt32) := by
  show fu 0 ≤ 2 ^ j
  rw [show (0 : UInt32) = FP.fconst0 from rfl, fu_0]
  exact Nat.zero_le _
theorem px_new : ∃ g1 g2, XM xE0 100 0 [.ref 0] (lw_hn xE0 0) (fun v' h' => v' = none ∧ h' = g1) ∧ XM xE0 100 23 [.ref 0] (lw_hn xE0 11) (fun v' h' => v' = none ∧ h' = g2) ∧ pRel 0 g1 g2 := by
  obtain ⟨v, g, ⟨rfl, a1, a2, a3⟩, x1⟩ := new1z.det
  obtain ⟨v, k, ⟨rfl, b1, b2, b3⟩, y1⟩ := new2z.det
  refine ⟨g, k, x1, y1, none, zM, zM, zA, zS, ⟨⟨fun _ => (show (0 : Nat) < 256 by decide), Nat.zero_le _⟩, fun _ => (show (0 : Nat) < 256 by decide), Nat.zero_le _, Nat.zero_le _, Nat.zero_le _, fun _ => rfl, fun z => absurd rfl z⟩, ?_, ?_⟩
  · obtain ⟨s, I, L, F⟩ := g
    obtain ⟨i1_I_1_1, i1_I_3_1, -, -, -, -, i1_I_5_13, i1_I_16_1, i1_I_18_10, i1_L_33_2, i1_I_36_1, -⟩ := a2
    obtain ⟨u1, u2, u3, u4, u5, u6, u7⟩ := a3
    have a1 : s = sh1 := a1
    subst a1
    refine ⟨I, L, F, rfl, ⟨⟨fun k _ => ?_, i1_I_1_1⟩, ⟨fun k _ => ?_, i1_I_3_1⟩, ⟨fun k hk => absurd hk (Nat.not_lt_zero _), i1_I_16_1⟩, i1_L_33_2, i1_I_5_13, i1_I_18_10, Nat.zero_le _, ⟨fun k _ => ⟨?_, ?_⟩, fun k _ => ⟨?_, ?_⟩, fun a j _ _ => ⟨⟨u4 _, u6 _⟩, u5 _, u7 _⟩⟩, fun h => absurd h (Nat.lt_irrefl _), fun k _ => u3 k, i1_I_36_1⟩, trivial⟩
    · have e : I 2 k = 0 := u1 k
      rw [e]
      show (0 : Int32) &&& 255 = nI 0
      decide
    · have e : I 4 k = 0 := u2 k
      rw [e]
      show (0 : Int32) &&& 255 = nI 0
      decide
    · have e : F 28 k = 0 := u4 k
      rw [e]; exact fz0 _
    · have e : F 29 k = 0 := u5 k
      rw [e]; exact fz0 _
    · have e : F 31 k = 0 := u6 k
      rw [e]; exact fz0 _
    · have e : F 32 k = 0 := u7 k
      rw [e]; exact fz0 _
  · obtain ⟨s, I, L, F⟩ := k
    obtain ⟨i2_I_0_1, -, i2_I_0_3, i2_I_0_4, -, -, -, -, -, -, -, i2_I_0_38, -, -, i2_I_0_58, i2_I_0_59, i2_I_0_60, i2_I_0_61, i2_L_0_62⟩ := b2
    obtain ⟨u1, u2, u3, u4, u5⟩ := b3
    have b1 : s = sh2 := b1
    subst b1
    refine ⟨I, L, F, rfl, ⟨⟨fun k _ => u1 k, i2_I_0_1⟩, ⟨fun k _ => u2 k, i2_I_0_58⟩, ⟨fun k hk => absurd hk (Nat.not_lt_zero _), i2_I_0_59⟩, i2_L_0_62, ⟨fun z _ => absurd (show I 0 3 < 1 by rw [show I 0 3 = 0 from i2_I_0_3]; decide) z, fun _ => rfl⟩, i2_I_0_60, Nat.zero_le _, ⟨fun k _ => ?_, fun k _ => ?_, fun l a j _ _ _ => ⟨u4 _, u5 _⟩⟩, fun h => absurd h (Nat.lt_irrefl _), fun k _ => u3 k, i2_I_0_61⟩, i2_I_0_38⟩
    · have e : F 41 k = 0 := u4 k
      rw [e]; exact fz0 _
    · have e : F 42 k = 0 := u5 k
      rw [e]; exact fz0 _
