/-! pairs: the calls that need the MODEL -/
theorem pStay_ext {ch ch' : Nat → UInt32} {en : UInt32} {n : Nat} (h : ∀ i, i < n → ch i = ch' i) : ∀ u st, st + u ≤ n → pStay ch en u st = pStay ch' en u st
  | 0, _, _ => rfl
  | u + 1, st, hs => by
    unfold pStay
    rw [pS_ext st (fun j hj => h j (by omega)), pStay_ext h u (st + 1) (by omega)]
theorem pPk_ext {ch ch' : Nat → UInt32} {dd : UInt32} {n : Nat} (h : ∀ i, i < n → ch i = ch' i) : ∀ u i, i + u ≤ n → pPk ch dd u i = pPk ch' dd u i
  | 0, _, _ => rfl
  | u + 1, i, hs => by
    unfold pPk
    rw [pS_ext (i + 1) (fun j hj => h j (by omega)), pPk_ext h u (i + 1) (by omega)]
theorem pDr_ext {ch ch' : Nat → UInt32} {c : Int32} {n : Nat} {w : Int64} (h : ∀ i, i < n → ch i = ch' i) : pDr ch c n w = pDr ch' c n w := by
  have e1 : pEn c ch n = pEn c ch' n := by unfold pEn; rw [pS_ext n h]
  have e2 : pStay ch (pEn c ch n) n 0 = pStay ch' (pEn c ch' n) n 0 := by rw [e1]; exact pStay_ext h n 0 (by omega)
  have le := (pStay_le (ch := ch') (en := pEn c ch' n) n 0).2
  unfold pDr
  rw [e2, pS_ext _ (fun j hj => h j (by omega))]
  exact pPk_ext h _ 0 (by omega)
theorem pDw_ext {lo lo' : Nat → UInt32} {N k : Nat} {a c : Int32} {w : Int64} (h : ∀ i, i < N → lo i = lo' i) : pDw lo N a k c w = pDw lo' N a k c w := by
  have e := pSo_ext N h
  unfold pDw
  rw [← e]
  congr 1
  refine pDr_ext (fun i hi => ?_)
  have l1 : pSo lo N i < N := pSo_lt N i (by omega)
  have l2 : pSo lo N 0 < N := pSo_lt N 0 (by omega)
  unfold pCh
  rw [h _ l1, h _ l2]
theorem tz1 {a : Int32} {ta : Nat} (a0 : a = 0) (ea : a = nI ta) (t0 : 0 < ta) (t4 : ta < 401) : False := by
  have := nIi (k := ta) (k' := 0) ea a0 (by omega) (by decide)
  omega
theorem rg_in {a : Int32} {N k : Nat} (hN : N < 2 ^ 31) (hk : k < N) (e : a = nI k) : rgI a N := ⟨by rw [e]; exact nI_pos (by omega), by rw [e, nI_p1 (by omega)]; exact nI_le (by omega) (by omega)⟩
def nZ (S : pNs) : pNs := (0, nK S, nV S, nLo S, nTl S, 0)
section CRB
variable {M : pMd} {S : pNs} {I J : Nat → Nat → Int32} {L L' : Nat → Nat → Int64} {F G : Nat → Nat → UInt32}
theorem rf_draw0 {d : Nat} {Q : xP} (hM : rfMd M I F) (hm : mGd M) {s : Nat} (hs : s ≤ 60) (h60 : I 0 60 = nI s) (s0 : 0 < s) {a b c : Int32} (hr : drR a b c) (a0 : a = 0) (h0 : ∀ J, (∀ b k, b ≠ 31 → J b k = I b k) → Q (some (.int (nI (pSo (F 43) (mFa M 6) 0)))) (sh2, J, L, F)) : XM xE0 (d + 2) 73 [.ref 0, .int a, .int b, .int c] (sh2, I, L, F) Q := by
  have h6 := hm.1.2.2.2.2.2.2.1
  have hne : ¬ I 0 38 = 0 := by rw [hM.1]; decide
  have sz : ¬ I 0 60 = 0 := by rw [h60, show (0 : Int32) = nI 0 from rfl, nI_eq (by omega) (by decide)]; omega
  have v0 : vp_in (0 : Int32) 16 := rf_in (j := 0) rfl (by decide) (by decide)
  have f0 : ∀ J : Nat → Nat → Int32, (∀ b k, b ≠ 31 → J b k = I b k) → (∀ k, k < mFa M 6 → J 31 k = nI (pSo (F 43) (mFa M 6) k)) → Q (some (.int (J 31 0))) (sh2, J, L, F) := fun J D ho => by rw [ho 0 (by omega)]; exact h0 J D
  have c50 : XC xE0 (d + 2) xM_73 (50, [some (.ref 0), some (.int a), some (.int b), some (.int c), none, none, none, none, none, none, none, none, none], [], (sh2, I, L, F)) Q := by
    refine XC.block [65] 60 ?_
    refine rf_sort hM hm (fun J D ho => ?_)
    exact And.intro (fun z => absurd a0 z) (fun z => And.intro v0 ⟨trivial, f0 J D ho⟩)
  refine XC.block [50] 60 ?_
  refine fr_in (fun z1 z2 => ?_) (fun z => absurd z (fun w => w.elim hr.1.1 (fun v => v hr.1.2)))
  refine And.intro (fun z => absurd (show (1 : Int32) = 0 from z) (by decide)) (fun _ => ?_)
  refine fr_in (fun z3 z4 => ?_) (fun z => absurd z (fun w => w.elim hr.2.1.1 (fun v => v hr.2.1.2)))
  refine And.intro (fun z => absurd (show (1 : Int32) = 0 from z) (by decide)) (fun _ => ?_)
  refine fr_in (fun z5 z6 => ?_) (fun z => absurd z (fun w => w.elim hr.2.2.1 (fun v => v hr.2.2.2)))
  refine And.intro (fun _ => ?_) (fun z => absurd (show ¬ (1 : Int32) = 0 by decide) z)
  refine And.intro (fun z => absurd z hne) (fun _ => ?_)
  exact And.intro (fun z => c50) (fun z => absurd sz z)
theorem clKV.agf2 {K V : Nat → Nat → Nat → UInt32} (h : clKV K V F) (a : ∀ b k, b ≠ 35 → G b k = F b k) : clKV K V G := h.ag (fun b k h1 h2 => a b k (by omega))
theorem clMd_a.ag3 (h : clMd_a M I L F) (a : ∀ b k, 38 ≤ b → b ≤ 50 → J b k = I b k) (c : ∀ b k, 38 ≤ b → b ≤ 50 → L' b k = L b k) (d : ∀ b k, 38 ≤ b → b ≤ 50 → G b k = F b k) : clMd_a M J L' G := ⟨fun j hj => (a 39 j (by decide) (by decide)).trans (h.1 j hj), ⟨(a 40 4 (by decide) (by decide)).trans h.2.1.1, (a 40 5 (by decide) (by decide)).trans h.2.1.2⟩, (a 45 5 (by decide) (by decide)).trans h.2.2.1, ⟨(a 38 5 (by decide) (by decide)).trans h.2.2.2.1.1, (a 38 6 (by decide) (by decide)).trans h.2.2.2.1.2⟩, fun i hi => (c 41 i (by decide) (by decide)).trans (h.2.2.2.2.1 i hi), fun i hi => ⟨(a 42 i (by decide) (by decide)).trans (h.2.2.2.2.2.1 i hi).1, (a 43 i (by decide) (by decide)).trans (h.2.2.2.2.2.1 i hi).2.1, (a 44 i (by decide) (by decide)).trans (h.2.2.2.2.2.1 i hi).2.2⟩, fun q hq => (a 49 q (by decide) (by decide)).trans (h.2.2.2.2.2.2.1 q hq), fun i hi => ⟨(a 47 i (by decide) (by decide)).trans (h.2.2.2.2.2.2.2.1 i hi).1, (a 48 i (by decide) (by decide)).trans (h.2.2.2.2.2.2.2.1 i hi).2.1, (a 46 i (by decide) (by decide)).trans (h.2.2.2.2.2.2.2.1 i hi).2.2.1, fun s hs => (d 50 _ (by decide) (by decide)).trans ((h.2.2.2.2.2.2.2.1 i hi).2.2.2 s hs)⟩, (d 38 3 (by decide) (by decide)).trans h.2.2.2.2.2.2.2.2.1, (d 38 4 (by decide) (by decide)).trans h.2.2.2.2.2.2.2.2.2⟩
theorem clMd_b.ag3 (h : clMd_b M I L F) (a : ∀ b k, 51 ≤ b → b ≤ 63 → J b k = I b k) (c : ∀ b k, 51 ≤ b → b ≤ 63 → L' b k = L b k) (d : ∀ b k, 51 ≤ b → b ≤ 63 → G b k = F b k) : clMd_b M J L' G := ⟨fun j hj => (a 52 j (by decide) (by decide)).trans (h.1 j hj), ⟨(a 53 4 (by decide) (by decide)).trans h.2.1.1, (a 53 5 (by decide) (by decide)).trans h.2.1.2⟩, (a 58 5 (by decide) (by decide)).trans h.2.2.1, ⟨(a 51 5 (by decide) (by decide)).trans h.2.2.2.1.1, (a 51 6 (by decide) (by decide)).trans h.2.2.2.1.2⟩, fun i hi => (c 54 i (by decide) (by decide)).trans (h.2.2.2.2.1 i hi), fun i hi => ⟨(a 55 i (by decide) (by decide)).trans (h.2.2.2.2.2.1 i hi).1, (a 56 i (by decide) (by decide)).trans (h.2.2.2.2.2.1 i hi).2.1, (a 57 i (by decide) (by decide)).trans (h.2.2.2.2.2.1 i hi).2.2⟩, fun q hq => (a 62 q (by decide) (by decide)).trans (h.2.2.2.2.2.2.1 q hq), fun i hi => ⟨(a 60 i (by decide) (by decide)).trans (h.2.2.2.2.2.2.2.1 i hi).1, (a 61 i (by decide) (by decide)).trans (h.2.2.2.2.2.2.2.1 i hi).2.1, (a 59 i (by decide) (by decide)).trans (h.2.2.2.2.2.2.2.1 i hi).2.2.1, fun s hs => (d 63 _ (by decide) (by decide)).trans ((h.2.2.2.2.2.2.2.1 i hi).2.2.2 s hs)⟩, (d 51 3 (by decide) (by decide)).trans h.2.2.2.2.2.2.2.2.1, (d 51 4 (by decide) (by decide)).trans h.2.2.2.2.2.2.2.2.2⟩
theorem clFg_q {b k : Nat} (h1 : ¬ (b = 18 ∧ k = 10)) (h2 : ¬ (b = 16 ∧ k = 1)) (h3 : ¬ (b = 3 ∧ k = 1)) (h4 : ¬ (b = 36 ∧ k = 1)) : clFg I b k = I b k := by
  unfold clFg
  rw [x2_o _ _ h4, x2_o _ _ h3, x2_o _ _ h2, x2_o _ _ h1]
theorem clFg_z : clFg I 18 10 = 0 ∧ clFg I 16 1 = 0 ∧ clFg I 3 1 = 0 ∧ clFg I 36 1 = 0 := by
  unfold clFg
  refine ⟨?_, ?_, ?_, x2_same _ _ _ _⟩
  · rw [x2_o _ _ (by omega), x2_o _ _ (by omega), x2_o _ _ (by omega), x2_same]
  · rw [x2_o _ _ (by omega), x2_o _ _ (by omega), x2_same]
  · rw [x2_o _ _ (by omega), x2_same]
theorem clKV.agf {K V : Nat → Nat → Nat → UInt32} (h : clKV K V F) (a : ∀ b k, b < 38 → G b k = F b k) : clKV K V G := h.ag (fun b k h1 h2 => a b k (by omega))
end CRB
section CRC
variable {t : Nat} {κ : Option Bool} {M1 M2 : pMd} {A : aS} {S : pNs} {g1 g2 : xH}
theorem pr_reset (hg : gB t κ M1 M2 A S) (h1 : CL κ M1 A S g1) (h2 : RF κ M2 A S g2) : lwPair 22 76 [] false g1 g2 (pRel (t + 1)) := by
  obtain ⟨I, L, F, rfl, ⟨c1, c2, c3, c4, c5, c6⟩, c7⟩ := h1
  obtain ⟨I2, L2, F2, rfl, ⟨r1, r2, r3, r4, r5, r6⟩, r7⟩ := h2
  obtain ⟨m0, s0, T, es⟩ := cSh_ex κ
  rw [es]
  have G : gB (t + 1) κ M1 M2 (aF A, aN A, aX A, 0, aE A, 0, aW A, aP A) (nZ S) := ⟨hg.1, hg.2.1, Nat.zero_le _, Nat.zero_le _, Nat.zero_le _, fun _ => rfl, hg.2.2.2.2.2.2⟩
  have D2 : ∀ b k, ¬ (b = 0 ∧ (k = 58 ∨ k = 59 ∨ k = 60 ∨ k = 61)) → x2 (x2 (x2 (x2 I2 0 60 0) 0 61 0) 0 59 0) 0 58 0 b k = I2 b k := fun b k h => by rw [x2_o _ _ (by omega), x2_o _ _ (by omega), x2_o _ _ (by omega), x2_o _ _ (by omega)]
  obtain ⟨z1, z2, z3, z4⟩ := clFg_z (I := I)
  refine rel_pair (f := nI (nS S)) G (cl_reset ⟨by rw [c6.1], clFg I, L, F, by rw [es], ⟨c1.agc (fun k => clFg_q (by omega) (by omega) (by omega) (by omega)) (clFg_q (by omega) (by omega) (by omega) (by omega)), ⟨fun k hk => by rw [clFg_q (by omega) (by omega) (by omega) (by omega)]; exact c2.1 k hk, z3⟩, ⟨fun k hk => absurd hk (Nat.not_lt_zero _), z2⟩, c4, (clFg_q (by omega) (by omega) (by omega) (by omega)).trans c5, z1, Nat.zero_le _, c6.2.2.1, fun h => absurd h (Nat.lt_irrefl _), fun k hk => (clFg_q (by omega) (by omega) (by omega) (by omega)).trans (c6.2.2.2.2.1 k hk), z4⟩, c7.ag (fun b k hb => clFg_q (by omega) (by omega) (by omega) (by omega)) (fun _ _ _ => rfl) (fun _ _ _ => rfl)⟩) (rf_reset ⟨by rw [r6.1], _, L2, F2, rfl, ⟨r1.agc (fun k => D2 1 k (by omega)) (D2 0 1 (by omega)), ⟨fun k hk => (D2 28 k (by omega)).trans (r2.1 k hk), x2_same _ _ _ _⟩, ⟨fun k hk => absurd hk (Nat.not_lt_zero _), by rw [x2_o _ _ (by omega), x2_same]; rfl⟩, r4, r5.agc (D2 0 3 (by omega)) (D2 0 4 (by omega)), by rw [x2_o _ _ (by omega), x2_o _ _ (by omega), x2_o _ _ (by omega), x2_same]; rfl, Nat.zero_le _, r6.2.2.1, fun h => absurd h (Nat.lt_irrefl _), fun k hk => (D2 30 k (by omega)).trans (r6.2.2.2.2.1 k hk), by rw [x2_o _ _ (by omega), x2_o _ _ (by omega), x2_same]; rfl⟩, r7.ag (D2 0 38 (by omega)) (fun b k h1 h2 => D2 b k (by omega)) ⟨rfl, rfl⟩ (fun _ => rfl)⟩)
theorem pr_fact (hg : gB t κ M1 M2 A S) (h1 : CL κ M1 A S g1) (h2 : RF κ M2 A S g2) (a : Int32) : lwPair 8 56 [.int a] false g1 g2 (pRel (t + 1)) := by
  obtain ⟨I, L, F, rfl, ⟨c1, c2, c3, c4, c5, c6⟩, c7⟩ := h1
  obtain ⟨I2, L2, F2, rfl, ⟨r1, r2, r3, r4, r5, r6⟩, r7⟩ := h2
  have C0 : CL κ M1 A S (cSh κ, I, L, F) := ⟨I, L, F, rfl, ⟨c1, c2, c3, c4, c5, c6⟩, c7⟩
  have R0 : RF κ M2 A S (sh2, I2, L2, F2) := ⟨I2, L2, F2, rfl, ⟨r1, r2, r3, r4, r5, r6⟩, r7⟩
  cases κ with
  | none => exact rel_pair (f := -3) hg.up (cl0_fact ⟨rfl, C0⟩) (rf0_fact r7 ⟨rfl, R0⟩)
  | some κb =>
    obtain ⟨hz, hm⟩ := hg.2.2.2.2.2.2 (fun z => by cases z)
    have hm1 := hz.gd hm
    have eF : mFa M1 = mFa M2 := hz.1
    have h6 := hm.1.2.2.2.2.2.2.1
    by_cases hr : rgI a 12
    · obtain ⟨k, hk, ea⟩ := rgn (N := 12) (by decide) hr.1 hr.2
      have R : XM xE0 100 56 [.ref 0, .int a] (sh2, I2, L2, F2) (fun v h => v = some (.int (nI (mFa M2 k))) ∧ RF (some κb) M2 A S h) := rf_fact r7 (fun k' hk' e' => by rw [nIi ea e' (by omega) (by omega)]; exact ⟨rfl, R0⟩) (fun z => absurd hr z)
      cases κb with
      | false =>
        exact rel_pair hg.up (cl_fact_a (T := mdTT) c7 (fun k' hk' e' => by rw [nIi ea e' (by omega) (by omega), eF]; exact ⟨rfl, C0⟩) (fun z => absurd hr z)) R
      | true =>
        exact rel_pair hg.up (cl_fact_b (T := []) c7 (fun k' hk' e' => by rw [nIi ea e' (by omega) (by omega), eF]; exact ⟨rfl, C0⟩) (fun z => absurd hr z)) R
    · have R : XM xE0 100 56 [.ref 0, .int a] (sh2, I2, L2, F2) (fun v h => v = some (.int (-1)) ∧ RF (some κb) M2 A S h) := rf_fact r7 (fun k hk e => absurd (rg_in (by decide) hk e) hr) (fun _ => ⟨rfl, R0⟩)
      cases κb with
      | false =>
        exact rel_pair hg.up (cl_fact_a (T := mdTT) c7 (fun k hk e => absurd (rg_in (by decide) hk e) hr) (fun _ => ⟨rfl, C0⟩)) R
      | true =>
        exact rel_pair hg.up (cl_fact_b (T := []) c7 (fun k hk e => absurd (rg_in (by decide) hk e) hr) (fun _ => ⟨rfl, C0⟩)) R
theorem pr_weight (hg : gB t κ M1 M2 A S) (h1 : CL κ M1 A S g1) (h2 : RF κ M2 A S g2) (a b c : Int32) : lwPair 9 57 [.int a, .int b, .int c] false g1 g2 (pRel (t + 1)) := by
  obtain ⟨I, L, F, rfl, ⟨c1, c2, c3, c4, c5, c6⟩, c7⟩ := h1
  obtain ⟨I2, L2, F2, rfl, ⟨r1, r2, r3, r4, r5, r6⟩, r7⟩ := h2
  have C0 : CL κ M1 A S (cSh κ, I, L, F) := ⟨I, L, F, rfl, ⟨c1, c2, c3, c4, c5, c6⟩, c7⟩
  have R0 : RF κ M2 A S (sh2, I2, L2, F2) := ⟨I2, L2, F2, rfl, ⟨r1, r2, r3, r4, r5, r6⟩, r7⟩
  cases κ with
  | none => exact rel_pair (f := -3) hg.up (cl0_weight ⟨rfl, C0⟩) (rf0_weight r7 ⟨rfl, R0⟩)
  | some κb =>
    obtain ⟨hz, hm⟩ := hg.2.2.2.2.2.2 (fun z => by cases z)
    have hm1 := hz.gd hm
    have eF : mFa M1 = mFa M2 := hz.1
    have h6 := hm.1.2.2.2.2.2.2.1
    have eC : mCo M1 = mCo M2 := hz.2.2.2.2.2.2.2.1
    have eR : mRo M1 = mRo M2 := hz.2.2.2.2.2.2.2.2.1
    have h10 := hm.1.2.2.2.2.2.2.2.2.2
    by_cases hr : rgI a (mFa M2 10) ∧ ∀ t, a = nI t → t < mFa M2 10 → rgI b (mRo M2 t) ∧ rgI c (mCo M2 t)
    · obtain ⟨i, hi, ea⟩ := rgn (by omega) hr.1.1 hr.1.2
      obtain ⟨u1, u2, u3, u4⟩ := hm.2.1 i hi
      obtain ⟨rb, rc⟩ := hr.2 i ea hi
      obtain ⟨r, hrr, eb⟩ := rgn (by omega) rb.1 rb.2
      obtain ⟨k, hk, ec⟩ := rgn (by omega) rc.1 rc.2
      have R : XM xE0 100 57 [.ref 0, .int a, .int b, .int c] (sh2, I2, L2, F2) (fun v h => v = some (.int (mWa M2 i r k)) ∧ RF (some κb) M2 A S h) := rf_weight r7 hm (fun i' r' k' hi' hr' hk' e1 e2 e3 => by
        have q1 := nIi ea e1 (by omega) (by omega)
        subst q1
        rw [nIi eb e2 (by omega) (by omega), nIi ec e3 (by omega) (by omega)]
        exact ⟨rfl, R0⟩) (fun z => absurd hr z)
      cases κb with
      | false =>
        exact rel_pair hg.up (cl_weight_a (T := mdTT) c7 hm1 (fun i' r' k' hi' hr' hk' e1 e2 e3 => by
          rw [eF] at hi'
          rw [eR] at hr'
          rw [eC] at hk'
          have q1 := nIi ea e1 (by omega) (by omega)
          subst q1
          rw [nIi eb e2 (by omega) (by omega), nIi ec e3 (by omega) (by omega), wa_z hz hi hrr hk]
          exact ⟨rfl, C0⟩) (fun z => absurd (by rw [eF, eR, eC]; exact hr) z)) R
      | true =>
        exact rel_pair hg.up (cl_weight_b (T := []) c7 hm1 (fun i' r' k' hi' hr' hk' e1 e2 e3 => by
          rw [eF] at hi'
          rw [eR] at hr'
          rw [eC] at hk'
          have q1 := nIi ea e1 (by omega) (by omega)
          subst q1
          rw [nIi eb e2 (by omega) (by omega), nIi ec e3 (by omega) (by omega), wa_z hz hi hrr hk]
          exact ⟨rfl, C0⟩) (fun z => absurd (by rw [eF, eR, eC]; exact hr) z)) R
    · have R : XM xE0 100 57 [.ref 0, .int a, .int b, .int c] (sh2, I2, L2, F2) (fun v h => v = some (.int (-1)) ∧ RF (some κb) M2 A S h) := rf_weight r7 hm (fun i r k hi hrr hk e1 e2 e3 => absurd ⟨rg_in (by omega) hi e1, fun i' e1' hi' => by
        rw [nIi e1 e1' (by omega) (by omega)]
        obtain ⟨u1, u2, u3, u4⟩ := hm.2.1 i hi
        exact ⟨rg_in (by omega) hrr e2, rg_in (by omega) hk e3⟩⟩ hr) (fun _ => ⟨rfl, R0⟩)
      cases κb with
      | false =>
        exact rel_pair hg.up (cl_weight_a (T := mdTT) c7 hm1 (fun i r k hi hrr hk e1 e2 e3 => absurd (by
          rw [eF] at hi
          rw [eR] at hrr
          rw [eC] at hk
          refine ⟨rg_in (by omega) hi e1, fun i' e1' hi' => ?_⟩
          rw [nIi e1 e1' (by omega) (by omega)]
          obtain ⟨u1, u2, u3, u4⟩ := hm.2.1 i hi
          exact ⟨rg_in (by omega) hrr e2, rg_in (by omega) hk e3⟩) hr) (fun _ => ⟨rfl, C0⟩)) R
      | true =>
        exact rel_pair hg.up (cl_weight_b (T := []) c7 hm1 (fun i r k hi hrr hk e1 e2 e3 => absurd (by
          rw [eF] at hi
          rw [eR] at hrr
          rw [eC] at hk
          refine ⟨rg_in (by omega) hi e1, fun i' e1' hi' => ?_⟩
          rw [nIi e1 e1' (by omega) (by omega)]
          obtain ⟨u1, u2, u3, u4⟩ := hm.2.1 i hi
          exact ⟨rg_in (by omega) hrr e2, rg_in (by omega) hk e3⟩) hr) (fun _ => ⟨rfl, C0⟩)) R
theorem pr_letter (hg : gB t κ M1 M2 A S) (h1 : CL κ M1 A S g1) (h2 : RF κ M2 A S g2) (a b : Int32) : lwPair 13 61 [.int a, .int b] false g1 g2 (pRel (t + 1)) := by
  obtain ⟨I, L, F, rfl, ⟨c1, c2, c3, c4, c5, c6⟩, c7⟩ := h1
  obtain ⟨I2, L2, F2, rfl, ⟨r1, r2, r3, r4, r5, r6⟩, r7⟩ := h2
  have C0 : CL κ M1 A S (cSh κ, I, L, F) := ⟨I, L, F, rfl, ⟨c1, c2, c3, c4, c5, c6⟩, c7⟩
  have R0 : RF κ M2 A S (sh2, I2, L2, F2) := ⟨I2, L2, F2, rfl, ⟨r1, r2, r3, r4, r5, r6⟩, r7⟩
  cases κ with
  | none => exact rel_pair (f := -1) hg.up (cl0_letter ⟨rfl, C0⟩) (rf0_letter r7 ⟨rfl, R0⟩)
  | some κb =>
    obtain ⟨hz, hm⟩ := hg.2.2.2.2.2.2 (fun z => by cases z)
    have hm1 := hz.gd hm
    have eF : mFa M1 = mFa M2 := hz.1
    have h6 := hm.1.2.2.2.2.2.2.1
    have eL : mTl M1 = mTl M2 := hz.2.1
    have eT : mTc M1 = mTc M2 := hz.2.2.1
    by_cases hr : rgI a (mFa M2 6) ∧ ∀ t, a = nI t → t < mFa M2 6 → rgI b (mTl M2 t)
    · obtain ⟨i, hi, ea⟩ := rgn (by omega) hr.1.1 hr.1.2
      obtain ⟨u1, u2⟩ := hm.2.2.2.2.1 i hi
      have rb := hr.2 i ea hi
      obtain ⟨r, hrr, eb⟩ := rgn (by omega) rb.1 rb.2
      have R : XM xE0 100 61 [.ref 0, .int a, .int b] (sh2, I2, L2, F2) (fun v h => v = some (.int (nI (mTc M2 i r))) ∧ RF (some κb) M2 A S h) := rf_letter r7 hm (fun i' r' hi' hr' e1 e2 => by
        have q1 := nIi ea e1 (by omega) (by omega)
        subst q1
        rw [nIi eb e2 (by omega) (by omega)]
        exact ⟨rfl, R0⟩) (fun z => absurd hr z)
      cases κb with
      | false =>
        exact rel_pair hg.up (cl_letter_a (T := mdTT) c7 hm1 (fun i' r' hi' hr' e1 e2 => by
          rw [eF] at hi'
          rw [eL] at hr'
          have q1 := nIi ea e1 (by omega) (by omega)
          subst q1
          rw [nIi eb e2 (by omega) (by omega), eT]
          exact ⟨rfl, C0⟩) (fun z => absurd (by rw [eF, eL]; exact hr) z)) R
      | true =>
        exact rel_pair hg.up (cl_letter_b (T := []) c7 hm1 (fun i' r' hi' hr' e1 e2 => by
          rw [eF] at hi'
          rw [eL] at hr'
          have q1 := nIi ea e1 (by omega) (by omega)
          subst q1
          rw [nIi eb e2 (by omega) (by omega), eT]
          exact ⟨rfl, C0⟩) (fun z => absurd (by rw [eF, eL]; exact hr) z)) R
    · have R : XM xE0 100 61 [.ref 0, .int a, .int b] (sh2, I2, L2, F2) (fun v h => v = some (.int (-1)) ∧ RF (some κb) M2 A S h) := rf_letter r7 hm (fun i r hi hrr e1 e2 => absurd ⟨rg_in (by omega) hi e1, fun i' e1' hi' => by
        rw [nIi e1 e1' (by omega) (by omega)]
        obtain ⟨u1, u2⟩ := hm.2.2.2.2.1 i hi
        exact rg_in (by omega) hrr e2⟩ hr) (fun _ => ⟨rfl, R0⟩)
      cases κb with
      | false =>
        exact rel_pair hg.up (cl_letter_a (T := mdTT) c7 hm1 (fun i r hi hrr e1 e2 => absurd (by
          rw [eF] at hi
          rw [eL] at hrr
          refine ⟨rg_in (by omega) hi e1, fun i' e1' hi' => ?_⟩
          rw [nIi e1 e1' (by omega) (by omega)]
          obtain ⟨u1, u2⟩ := hm.2.2.2.2.1 i hi
          exact rg_in (by omega) hrr e2) hr) (fun _ => ⟨rfl, C0⟩)) R
      | true =>
        exact rel_pair hg.up (cl_letter_b (T := []) c7 hm1 (fun i r hi hrr e1 e2 => absurd (by
          rw [eF] at hi
          rw [eL] at hrr
          refine ⟨rg_in (by omega) hi e1, fun i' e1' hi' => ?_⟩
          rw [nIi e1 e1' (by omega) (by omega)]
          obtain ⟨u1, u2⟩ := hm.2.2.2.2.1 i hi
          exact rg_in (by omega) hrr e2) hr) (fun _ => ⟨rfl, C0⟩)) R
theorem pr_logit (hg : gB t κ M1 M2 A S) (h1 : CL κ M1 A S g1) (h2 : RF κ M2 A S g2) (a : Int32) : lwPair 15 70 [.int a] false g1 g2 (pRel (t + 1)) := by
  obtain ⟨I, L, F, rfl, ⟨c1, c2, c3, c4, c5, c6⟩, c7⟩ := h1
  obtain ⟨I2, L2, F2, rfl, ⟨r1, r2, r3, r4, r5, r6⟩, r7⟩ := h2
  have C0 : CL κ M1 A S (cSh κ, I, L, F) := ⟨I, L, F, rfl, ⟨c1, c2, c3, c4, c5, c6⟩, c7⟩
  have R0 : RF κ M2 A S (sh2, I2, L2, F2) := ⟨I2, L2, F2, rfl, ⟨r1, r2, r3, r4, r5, r6⟩, r7⟩
  cases κ with
  | none => exact rel_pair (f := -3) hg.up (cl0_logit ⟨rfl, C0⟩) (rf0_logit r7 ⟨rfl, R0⟩)
  | some κb =>
    obtain ⟨hz, hm⟩ := hg.2.2.2.2.2.2 (fun z => by cases z)
    have hm1 := hz.gd hm
    have eF : mFa M1 = mFa M2 := hz.1
    have h6 := hm.1.2.2.2.2.2.2.1
    have cb : 0 < nS S → ∀ i, i < mFa M1 6 → fB 172 (F 26 i) := fun s0 i hi => (c6.2.2.2.1 s0 i hi).2
    have rb : 0 < nS S → ∀ i, i < mFa M2 6 → fB 172 (F2 43 i) := fun s0 i hi => (r6.2.2.2.1 s0 i hi).2
    rcases Nat.eq_zero_or_pos (nS S) with s0 | s0
    · have R : XM xE0 100 70 [.ref 0, .int a] (sh2, I2, L2, F2) (fun v h => v = some (.int (-3)) ∧ RF (some κb) M2 A S h) := rf_logit r7 hm r6.2.1 r6.1 rb (fun _ => ⟨rfl, R0⟩) (fun z => by omega) (fun z => by omega)
      cases κb with
      | false =>
        exact rel_pair hg.up (cl_logit_a (T := mdTT) c7 hm1 c6.2.1 c6.1 cb (fun _ => ⟨rfl, C0⟩) (fun z => by omega) (fun z => by omega)) R
      | true =>
        exact rel_pair hg.up (cl_logit_b (T := []) c7 hm1 c6.2.1 c6.1 cb (fun _ => ⟨rfl, C0⟩) (fun z => by omega) (fun z => by omega)) R
    · by_cases hr : rgI a (mFa M2 6)
      · obtain ⟨k, hk, ea⟩ := rgn (by omega) hr.1 hr.2
        have R : XM xE0 100 70 [.ref 0, .int a] (sh2, I2, L2, F2) (fun v h => v = some (.int (pLg (nLo S k))) ∧ RF (some κb) M2 A S h) := rf_logit r7 hm r6.2.1 r6.1 rb (fun z => by omega) (fun _ k' hk' e' => by rw [nIi ea e' (by omega) (by omega), (r6.2.2.2.1 s0 k hk).1]; exact ⟨rfl, R0⟩) (fun _ z => absurd hr z)
        have ck : F 26 k = nLo S k := (c6.2.2.2.1 s0 k (by rw [eF]; exact hk)).1
        cases κb with
        | false =>
          exact rel_pair hg.up (cl_logit_a (T := mdTT) c7 hm1 c6.2.1 c6.1 cb (fun z => by omega) (fun _ k' hk' e' => by rw [eF] at hk'; rw [nIi ea e' (by omega) (by omega), ck]; exact ⟨rfl, C0⟩) (fun _ z => absurd (by rw [eF]; exact hr) z)) R
        | true =>
          exact rel_pair hg.up (cl_logit_b (T := []) c7 hm1 c6.2.1 c6.1 cb (fun z => by omega) (fun _ k' hk' e' => by rw [eF] at hk'; rw [nIi ea e' (by omega) (by omega), ck]; exact ⟨rfl, C0⟩) (fun _ z => absurd (by rw [eF]; exact hr) z)) R
      · have R : XM xE0 100 70 [.ref 0, .int a] (sh2, I2, L2, F2) (fun v h => v = some (.int (-1)) ∧ RF (some κb) M2 A S h) := rf_logit r7 hm r6.2.1 r6.1 rb (fun z => by omega) (fun _ k hk e => absurd (rg_in (by omega) hk e) hr) (fun _ _ => ⟨rfl, R0⟩)
        cases κb with
        | false =>
          exact rel_pair hg.up (cl_logit_a (T := mdTT) c7 hm1 c6.2.1 c6.1 cb (fun z => by omega) (fun _ k hk e => by rw [eF] at hk; exact absurd (rg_in (by omega) hk e) hr) (fun _ _ => ⟨rfl, C0⟩)) R
        | true =>
          exact rel_pair hg.up (cl_logit_b (T := []) c7 hm1 c6.2.1 c6.1 cb (fun z => by omega) (fun _ k hk e => by rw [eF] at hk; exact absurd (rg_in (by omega) hk e) hr) (fun _ _ => ⟨rfl, C0⟩)) R
theorem pr_encode (hg : gB t κ M1 M2 A S) (h1 : CL κ M1 A S g1) (h2 : RF κ M2 A S g2) : lwPair 11 59 [] false g1 g2 (pRel (t + 1)) := by
  obtain ⟨I, L, F, rfl, ⟨c1, c2, c3, c4, c5, c6⟩, c7⟩ := h1
  obtain ⟨I2, L2, F2, rfl, ⟨r1, r2, r3, r4, r5, r6⟩, r7⟩ := h2
  have C0 : CL κ M1 A S (cSh κ, I, L, F) := ⟨I, L, F, rfl, ⟨c1, c2, c3, c4, c5, c6⟩, c7⟩
  have R0 : RF κ M2 A S (sh2, I2, L2, F2) := ⟨I2, L2, F2, rfl, ⟨r1, r2, r3, r4, r5, r6⟩, r7⟩
  cases κ with
  | none => exact rel_pair (f := -3) hg.up (cl0_encode ⟨rfl, C0⟩) (rf0_encode r7 ⟨rfl, R0⟩)
  | some κb =>
    obtain ⟨hz, hm⟩ := hg.2.2.2.2.2.2 (fun z => by cases z)
    have hm1 := hz.gd hm
    have eF : mFa M1 = mFa M2 := hz.1
    have h6 := hm.1.2.2.2.2.2.2.1
    have ez := pEc_z hz (x := aX A) (n := aT A)
    have le : (pEc M2 (aX A) (aT A)).2 ≤ 24 ∨ True := Or.inr trivial
    have R : XM xE0 100 59 [.ref 0] (sh2, I2, L2, F2) (fun v h => v = some (.int (nI (pEc M2 (aX A) (aT A)).2)) ∧ (pEc M2 (aX A) (aT A)).2 ≤ 24 ∧ RF (some κb) M2 (aF A, aN A, aX A, 0, (pEc M2 (aX A) (aT A)).1, (pEc M2 (aX A) (aT A)).2, aW A, aP A) S h) := rf_encode r7 hm hg.2.1 hg.2.2.1 r2 (fun J D z E => ⟨rfl, E.2.2.2, J, L2, F2, rfl, ⟨r1.agc (fun k => D 1 k (by decide) (by omega)) (D 0 1 (by decide) (by omega)), ⟨fun k hk => (D 28 k (by decide) (by omega)).trans (r2.1 k hk), z⟩, ⟨E.1, E.2.2.1⟩, r4, r5.agc (D 0 3 (by decide) (by omega)) (D 0 4 (by decide) (by omega)), r6.ag (D 0 60 (by decide) (by omega)) (fun k => D 30 k (by decide) (by omega)) (D 0 61 (by decide) (by omega))⟩, rMd.ag (κ := some κb) r7 (D 0 38 (by decide) (by omega)) (fun b k h1 h2 => D b k (by omega) (by omega)) ⟨rfl, rfl⟩ (fun _ => rfl)⟩)
    obtain ⟨v2, g2', ⟨ev, le, p2⟩, q2⟩ := R.det
    subst ev
    have R' : XM xE0 100 59 [.ref 0] (sh2, I2, L2, F2) (fun v h => v = some (.int (nI (pEc M2 (aX A) (aT A)).2)) ∧ RF (some κb) M2 (aF A, aN A, aX A, 0, (pEc M2 (aX A) (aT A)).1, (pEc M2 (aX A) (aT A)).2, aW A, aP A) S h) := q2.mono (fun v h e => by obtain ⟨e1, e2⟩ := e; rw [e1, e2]; exact ⟨rfl, p2⟩)
    have G : gB (t + 1) (some κb) M1 M2 (aF A, aN A, aX A, 0, (pEc M2 (aX A) (aT A)).1, (pEc M2 (aX A) (aT A)).2, aW A, aP A) S := ⟨hg.1, hg.2.1, Nat.zero_le _, le, hg.up.2.2.2.2⟩
    have fin : ∀ J, clEJ I J → clEn (mFa M1 6) (pEc M1 (aX A) (aT A)).1 (pEc M1 (aX A) (aT A)).2 J → CL (some κb) M1 (aF A, aN A, aX A, 0, (pEc M2 (aX A) (aT A)).1, (pEc M2 (aX A) (aT A)).2, aW A, aP A) S (cSh (some κb), x2 J 3 1 0, L, F) := fun J D E => by
      rw [ez] at E
      have D' : ∀ b k, b ≠ 17 → ¬ (b = 16 ∧ k = 1) → ¬ (b = 3 ∧ k = 1) → x2 J 3 1 0 b k = I b k := fun b k h1 h2 h3 => (x2_o _ _ h3).trans (D b k h1 h2)
      exact ⟨_, L, F, rfl, ⟨c1.agc (fun k => D' 2 k (by decide) (by omega) (by omega)) (D' 1 1 (by decide) (by omega) (by omega)), ⟨fun k hk => by rw [D' 4 k (by decide) (by omega) (by omega)]; exact c2.1 k hk, x2_same _ _ _ _⟩, ⟨fun k hk => (x2_o _ _ (by omega)).trans (E.1 k hk), (x2_o _ _ (by omega)).trans E.2.2.1⟩, c4, (D' 5 13 (by decide) (by omega) (by omega)).trans c5, c6.ag (D' 18 10 (by decide) (by omega) (by omega)) (fun k => D' 37 k (by decide) (by omega) (by omega)) (D' 36 1 (by decide) (by omega) (by omega))⟩, cMd.ag (κ := some κb) c7 (fun b k hb => D' b k (by omega) (by omega) (by omega)) (fun _ _ _ => rfl) (fun _ _ _ => rfl)⟩
    cases κb with
    | false =>
      exact rel_pair G (cl_encode_a (T := mdTT) c7 hm1 hg.2.1 hg.2.2.1 c2 (fun J D E => ⟨by rw [ez], fin J D E⟩)) R'
    | true =>
      exact rel_pair G (cl_encode_b (T := []) c7 hm1 hg.2.1 hg.2.2.1 c2 (fun J D E => ⟨by rw [ez], fin J D E⟩)) R'
theorem pr_step (hg : gB t κ M1 M2 A S) (h1 : CL κ M1 A S g1) (h2 : RF κ M2 A S g2) (a : Int32) : lwPair 14 69 [.int a] false g1 g2 (pRel (t + 1)) := by
  obtain ⟨I, L, F, rfl, ⟨c1, c2, c3, c4, c5, c6⟩, c7⟩ := h1
  obtain ⟨I2, L2, F2, rfl, ⟨r1, r2, r3, r4, r5, r6⟩, r7⟩ := h2
  have C0 : CL κ M1 A S (cSh κ, I, L, F) := ⟨I, L, F, rfl, ⟨c1, c2, c3, c4, c5, c6⟩, c7⟩
  have R0 : RF κ M2 A S (sh2, I2, L2, F2) := ⟨I2, L2, F2, rfl, ⟨r1, r2, r3, r4, r5, r6⟩, r7⟩
  cases κ with
  | none => exact rel_pair (f := -3) hg.up (cl0_step ⟨rfl, C0⟩) (rf0_step r7 ⟨rfl, R0⟩)
  | some κb =>
    obtain ⟨hz, hm⟩ := hg.2.2.2.2.2.2 (fun z => by cases z)
    have hm1 := hz.gd hm
    have eF : mFa M1 = mFa M2 := hz.1
    have h6 := hm.1.2.2.2.2.2.2.1
    have s60 : nS S ≤ 60 := r6.2.1
    by_cases hr : rgI a (mFa M2 6)
    · obtain ⟨i, hi, ea⟩ := rgn (by omega) hr.1 hr.2
      have hr1 : rgI a (mFa M1 6) := by rw [eF]; exact hr
      rcases Nat.lt_or_ge (nS S) 60 with y | y
      · have nb : nB S := r6.nB
        have sz := stp_z hz hm (nQ.rf (S := S)) nb y hi
        have G : gB (t + 1) (some κb) M1 M2 A (pStp M2 S i) := ⟨hg.1, hg.2.1, hg.2.2.1, hg.2.2.2.1, hg.up.2.2.2.2.1, fun z => (by cases z), fun _ => ⟨hz, hm⟩⟩
        have R : XM xE0 100 69 [.ref 0, .int a] (sh2, I2, L2, F2) (fun v h => v = some (.int (nI (nS S))) ∧ RF (some κb) M2 A (pStp M2 S i) h) := rf_step r7 hm s60 r6.1 r6.2.2.1 (fun z => absurd hr z) (fun z => by omega) (fun _ i' hi' e' G2 D kv lo => by
          have q := nIi ea e' (by omega) (by omega)
          subst q
          refine ⟨rfl, _, L2, G2, rfl, ⟨r1.agc (fun k => x2_o _ _ (by omega)) (x2_o _ _ (by omega)), r2.agc (fun k => x2_o _ _ (by omega)) (x2_o _ _ (by omega)), ⟨fun k hk => (x2_o _ _ (by omega)).trans (r3.1 k hk), (x2_o _ _ (by omega)).trans r3.2⟩, r4, r5.agc (x2_o _ _ (by omega)) (x2_o _ _ (by omega)), x2_same _ _ _ _, show nS S + 1 ≤ 60 from y, kv, fun _ => lo, fun k hk => (x2_o _ _ (by omega)).trans (r6.2.2.2.2.1 k hk), (x2_o _ _ (by omega)).trans r6.2.2.2.2.2⟩, rMd.ag (κ := some κb) r7 (x2_o _ _ (by omega)) (fun b k h1 h2 => x2_o _ _ (by omega)) ⟨D 0 39 (by omega), D 0 40 (by omega)⟩ (fun k => D 27 k (by omega))⟩)
        have fin : ∀ i', i' < mFa M1 6 → a = nI i' → ∀ G2, (∀ b k, ¬ (19 ≤ b ∧ b ≤ 32) → G2 b k = F b k) → clKV (pKs M1 (nS S) i' (nK S) (nV S)) (pVs M1 (nS S) i' (nK S) (nV S)) G2 → (∀ j, j < mFa M1 6 → G2 26 j = pLo M1 (nS S) i' (nK S) (nV S) j ∧ fB 172 (G2 26 j)) → CL (some κb) M1 A (pStp M2 S i) (cSh (some κb), x2 I 18 10 (nI (nS S + 1)), L, G2) := fun i' hi' e' G2 D kv lo => by
          rw [eF] at hi'
          have q := nIi ea e' (by omega) (by omega)
          subst q
          have cn : clNs M1 (pStp M1 S i') (x2 I 18 10 (nI (nS S + 1))) G2 := ⟨x2_same _ _ _ _, show nS S + 1 ≤ 60 from y, kv, fun _ => lo, fun k hk => (x2_o _ _ (by omega)).trans (c6.2.2.2.2.1 k hk), (x2_o _ _ (by omega)).trans c6.2.2.2.2.2⟩
          have cn2 := nQ.cl (M := M1) (by rw [eF]; exact sz.1) cn
          exact ⟨_, L, G2, rfl, ⟨c1.agc (fun k => x2_o _ _ (by omega)) (x2_o _ _ (by omega)), c2.agc (fun k => x2_o _ _ (by omega)) (x2_o _ _ (by omega)), ⟨fun k hk => (x2_o _ _ (by omega)).trans (c3.1 k hk), (x2_o _ _ (by omega)).trans c3.2⟩, c4, (x2_o _ _ (by omega)).trans c5, cn2⟩, cMd.ag (κ := some κb) c7 (fun b k hb => x2_o _ _ (by omega)) (fun _ _ _ => rfl) (fun b k hb => D b k (by omega))⟩
        cases κb with
        | false =>
          exact rel_pair G (cl_step_a (T := mdTT) c7 hm1 s60 c6.1 c6.2.2.1 (fun z => absurd hr1 z) (fun z => by omega) (fun _ i' hi' e' G2 D kv lo => ⟨rfl, fin i' hi' e' G2 D kv lo⟩)) R
        | true =>
          exact rel_pair G (cl_step_b (T := []) c7 hm1 s60 c6.1 c6.2.2.1 (fun z => absurd hr1 z) (fun z => by omega) (fun _ i' hi' e' G2 D kv lo => ⟨rfl, fin i' hi' e' G2 D kv lo⟩)) R
      · have R : XM xE0 100 69 [.ref 0, .int a] (sh2, I2, L2, F2) (fun v h => v = some (.int (-2)) ∧ RF (some κb) M2 A S h) := rf_step r7 hm s60 r6.1 r6.2.2.1 (fun z => absurd hr z) (fun _ => ⟨rfl, R0⟩) (fun z => by omega)
        cases κb with
        | false =>
          exact rel_pair hg.up (cl_step_a (T := mdTT) c7 hm1 s60 c6.1 c6.2.2.1 (fun z => absurd hr1 z) (fun _ _ => ⟨rfl, C0⟩) (fun z => by omega)) R
        | true =>
          exact rel_pair hg.up (cl_step_b (T := []) c7 hm1 s60 c6.1 c6.2.2.1 (fun z => absurd hr1 z) (fun _ _ => ⟨rfl, C0⟩) (fun z => by omega)) R
    · have hr1 : ¬ rgI a (mFa M1 6) := by rw [eF]; exact hr
      have R : XM xE0 100 69 [.ref 0, .int a] (sh2, I2, L2, F2) (fun v h => v = some (.int (-1)) ∧ RF (some κb) M2 A S h) := rf_stepN r7 hr ⟨rfl, R0⟩
      cases κb with
      | false =>
        exact rel_pair hg.up (cl_step_a (T := mdTT) c7 hm1 s60 c6.1 c6.2.2.1 (fun _ => ⟨rfl, C0⟩) (fun _ z => absurd z hr1) (fun _ i hi e => absurd (rg_in (by rw [eF]; omega) hi e) hr1)) R
      | true =>
        exact rel_pair hg.up (cl_step_b (T := []) c7 hm1 s60 c6.1 c6.2.2.1 (fun _ => ⟨rfl, C0⟩) (fun _ z => absurd z hr1) (fun _ i hi e => absurd (rg_in (by rw [eF]; omega) hi e) hr1)) R
theorem pr_draw (hg : gB t κ M1 M2 A S) (h1 : CL κ M1 A S g1) (h2 : RF κ M2 A S g2) (a b c : Int32) : lwPair 18 73 [.int a, .int b, .int c] false g1 g2 (pRel (t + 1)) := by
  obtain ⟨I, L, F, rfl, ⟨c1, c2, c3, c4, c5, c6⟩, c7⟩ := h1
  obtain ⟨I2, L2, F2, rfl, ⟨r1, r2, r3, r4, r5, r6⟩, r7⟩ := h2
  have C0 : CL κ M1 A S (cSh κ, I, L, F) := ⟨I, L, F, rfl, ⟨c1, c2, c3, c4, c5, c6⟩, c7⟩
  have R0 : RF κ M2 A S (sh2, I2, L2, F2) := ⟨I2, L2, F2, rfl, ⟨r1, r2, r3, r4, r5, r6⟩, r7⟩
  by_cases hr : drR a b c
  · cases κ with
    | none => exact rel_pair (f := -3) hg.up (cl0_draw hr ⟨rfl, C0⟩) (rf0_draw hr r7 ⟨rfl, R0⟩)
    | some κb =>
      obtain ⟨hz, hm⟩ := hg.2.2.2.2.2.2 (fun z => by cases z)
      have hm1 := hz.gd hm
      have eF : mFa M1 = mFa M2 := hz.1
      have h6 := hm.1.2.2.2.2.2.2.1
      have cb : 0 < nS S → ∀ i, i < mFa M1 6 → fB 172 (F 26 i) := fun s0 i hi => (c6.2.2.2.1 s0 i hi).2
      have rb : 0 < nS S → ∀ i, i < mFa M2 6 → fB 172 (F2 43 i) := fun s0 i hi => (r6.2.2.2.1 s0 i hi).2
      have CJ : ∀ (J : Nat → Nat → Int32) (L' : Nat → Nat → Int64) (G : Nat → Nat → UInt32) (w : Int64), (∀ b k, b ≠ 34 → J b k = I b k) → (∀ b k, ¬ (b = 33 ∧ k = 2) → L' b k = L b k) → L' 33 2 = w → (∀ b k, b ≠ 35 → G b k = F b k) → CL (some κb) M1 (aF A, aN A, aX A, aT A, aE A, aC A, w, aP A) S (cSh (some κb), J, L', G) := fun J L' G w D DL ew DG => ⟨J, L', G, rfl, ⟨c1.agc (fun k => D 2 k (by decide)) (D 1 1 (by decide)), c2.agc (fun k => D 4 k (by decide)) (D 3 1 (by decide)), ⟨fun k hk => (D 17 k (by decide)).trans (c3.1 k hk), (D 16 1 (by decide)).trans c3.2⟩, ew, (D 5 13 (by decide)).trans c5, (D 18 10 (by decide)).trans c6.1, c6.2.1, c6.2.2.1.agf2 DG, fun s0 i hi => by rw [DG 26 i (by decide)]; exact c6.2.2.2.1 s0 i hi, fun k hk => (D 37 k (by decide)).trans (c6.2.2.2.2.1 k hk), (D 36 1 (by decide)).trans c6.2.2.2.2.2⟩, cMd.ag (κ := some κb) c7 (fun b k hb => D b k (by omega)) (fun b k hb => DL b k (by omega)) (fun b k hb => DG b k (by omega))⟩
      have RJ : ∀ (J : Nat → Nat → Int32) (L' : Nat → Nat → Int64) (G : Nat → Nat → UInt32) (w : Int64), (∀ b k, b ≠ 31 → J b k = I2 b k) → L' 0 62 = w → (∀ b k, b ≠ 44 → G b k = F2 b k) → RF (some κb) M2 (aF A, aN A, aX A, aT A, aE A, aC A, w, aP A) S (sh2, J, L', G) := fun J L' G w D ew DG => ⟨J, L', G, rfl, ⟨r1.agc (fun k => D 1 k (by decide)) (D 0 1 (by decide)), r2.agc (fun k => D 28 k (by decide)) (D 0 58 (by decide)), ⟨fun k hk => (D 29 k (by decide)).trans (r3.1 k hk), (D 0 59 (by decide)).trans r3.2⟩, ew, r5.agc (D 0 3 (by decide)) (D 0 4 (by decide)), (D 0 60 (by decide)).trans r6.1, r6.2.1, r6.2.2.1.ag (funext fun k => DG 41 k (by decide)) (funext fun k => DG 42 k (by decide)), fun s0 i hi => by rw [DG 43 i (by decide)]; exact r6.2.2.2.1 s0 i hi, fun k hk => (D 30 k (by decide)).trans (r6.2.2.2.2.1 k hk), (D 0 61 (by decide)).trans r6.2.2.2.2.2⟩, rMd.ag (κ := some κb) r7 (D 0 38 (by decide)) (fun b k h1 h2 => D b k (by omega)) ⟨DG 0 39 (by decide), DG 0 40 (by decide)⟩ (fun k => DG 27 k (by decide))⟩
      rcases Nat.eq_zero_or_pos (nS S) with s0 | s0
      · have R : XM xE0 100 73 [.ref 0, .int a, .int b, .int c] (sh2, I2, L2, F2) (fun v h => v = some (.int (-3)) ∧ RF (some κb) M2 A S h) := rf_draw r7 hm r6.2.1 r6.1 rb (fun z => absurd hr z) (fun _ => ⟨rfl, R0⟩) (fun z => by omega) (fun z => by omega)
        cases κb with
        | false =>
          exact rel_pair hg.up (cl_draw_a (T := mdTT) c7 hm1 c6.2.1 c6.1 cb hr (fun _ => ⟨rfl, C0⟩) (fun z => by omega) (fun z => by omega)) R
        | true =>
          exact rel_pair hg.up (cl_draw_b (T := []) c7 hm1 c6.2.1 c6.1 cb hr (fun _ => ⟨rfl, C0⟩) (fun z => by omega) (fun z => by omega)) R
      · have lc : ∀ i, i < mFa M2 6 → F 26 i = nLo S i := fun i hi => (c6.2.2.2.1 s0 i (by rw [eF]; exact hi)).1
        have lr : ∀ i, i < mFa M2 6 → F2 43 i = nLo S i := fun i hi => (r6.2.2.2.1 s0 i hi).1
        have soc : pSo (F 26) (mFa M1 6) 0 = pSo (nLo S) (mFa M2 6) 0 := by rw [eF, pSo_ext _ lc]
        have sor : pSo (F2 43) (mFa M2 6) 0 = pSo (nLo S) (mFa M2 6) 0 := by rw [pSo_ext _ lr]
        by_cases a0 : a = 0
        · have R : XM xE0 100 73 [.ref 0, .int a, .int b, .int c] (sh2, I2, L2, F2) (fun v h => v = some (.int (nI (pSo (nLo S) (mFa M2 6) 0))) ∧ RF (some κb) M2 A S h) := rf_draw0 r7 hm r6.2.1 r6.1 s0 hr a0 (fun J D => ⟨by rw [sor], RJ J L2 F2 (aW A) D r4 (fun _ _ _ => rfl)⟩)
          cases κb with
          | false =>
            exact rel_pair hg.up (cl_draw_a (T := mdTT) c7 hm1 c6.2.1 c6.1 cb hr (fun z => by omega) (fun _ _ J D => ⟨by rw [soc], CJ J L F (aW A) D (fun _ _ _ => rfl) c4 (fun _ _ _ => rfl)⟩) (fun _ ta k cc t0 t4 ea => (tz1 a0 ea t0 t4).elim)) R
          | true =>
            exact rel_pair hg.up (cl_draw_b (T := []) c7 hm1 c6.2.1 c6.1 cb hr (fun z => by omega) (fun _ _ J D => ⟨by rw [soc], CJ J L F (aW A) D (fun _ _ _ => rfl) c4 (fun _ _ _ => rfl)⟩) (fun _ ta k cc t0 t4 ea => (tz1 a0 ea t0 t4).elim)) R
        · obtain ⟨ta, k, cc, t4, ea, k1, k2, eb, c4', ec⟩ := hr.rng
          have G : gB (t + 1) (some κb) M1 M2 (aF A, aN A, aX A, aT A, aE A, aC A, pSd (aW A), aP A) S := hg.up
          have R : XM xE0 100 73 [.ref 0, .int a, .int b, .int c] (sh2, I2, L2, F2) (fun v h => v = some (.int (nI (pDw (nLo S) (mFa M2 6) a k c (pSd (aW A))))) ∧ RF (some κb) M2 (aF A, aN A, aX A, aT A, aE A, aC A, pSd (aW A), aP A) S h) := rf_draw r7 hm r6.2.1 r6.1 rb (fun z => absurd hr z) (fun z => by omega) (fun _ z => absurd z a0) (fun _ ta' k' cc' t0' ea' k1' k2' eb' ec' J D G2 DG L' DL eL => by
            rw [nIi eb eb' (by omega) (by omega), pDw_ext lr, r4]
            exact ⟨rfl, RJ J L' G2 _ D (by rw [eL, r4]) (fun b k hb => DG b k hb)⟩)
          cases κb with
          | false =>
            exact rel_pair G (cl_draw_a (T := mdTT) c7 hm1 c6.2.1 c6.1 cb hr (fun z => by omega) (fun _ z => absurd z a0) (fun _ ta' k' cc' t0' t4' ea' k1' k2' eb' ec' J D G2 DG L' DL eL => by
              rw [nIi eb eb' (by omega) (by omega), eF, pDw_ext lc, c4]
              exact ⟨rfl, CJ J L' G2 _ D DL (by rw [eL, c4]) (fun b k hb => DG b k hb)⟩)) R
          | true =>
            exact rel_pair G (cl_draw_b (T := []) c7 hm1 c6.2.1 c6.1 cb hr (fun z => by omega) (fun _ z => absurd z a0) (fun _ ta' k' cc' t0' t4' ea' k1' k2' eb' ec' J D G2 DG L' DL eL => by
              rw [nIi eb eb' (by omega) (by omega), eF, pDw_ext lc, c4]
              exact ⟨rfl, CJ J L' G2 _ D DL (by rw [eL, c4]) (fun b k hb => DG b k hb)⟩)) R
  · exact rel_pair (f := -1) hg.up (by
      obtain ⟨m0, s0, T, es⟩ := cSh_ex κ
      rw [es] at C0 ⊢
      exact cl_drawN hr ⟨rfl, C0⟩) (rf_drawN hr ⟨rfl, R0⟩)
theorem pr_say (hg : gB t κ M1 M2 A S) (ht : t < 512) (h1 : CL κ M1 A S g1) (h2 : RF κ M2 A S g2) (a : Int32) : lwPair 19 74 [.int a] false g1 g2 (pRel (t + 1)) := by
  obtain ⟨I, L, F, rfl, ⟨c1, c2, c3, c4, c5, c6⟩, c7⟩ := h1
  obtain ⟨I2, L2, F2, rfl, ⟨r1, r2, r3, r4, r5, r6⟩, r7⟩ := h2
  have C0 : CL κ M1 A S (cSh κ, I, L, F) := ⟨I, L, F, rfl, ⟨c1, c2, c3, c4, c5, c6⟩, c7⟩
  have R0 : RF κ M2 A S (sh2, I2, L2, F2) := ⟨I2, L2, F2, rfl, ⟨r1, r2, r3, r4, r5, r6⟩, r7⟩
  by_cases hr : a < 1 ∨ ¬ a ≤ 16
  · exact rel_pair (f := -1) hg.up (by
      obtain ⟨m0, s0, T, es⟩ := cSh_ex κ
      rw [es] at C0 ⊢
      exact cl_sayN hr ⟨rfl, C0⟩) (rf_sayN hr ⟨rfl, R0⟩)
  · have z1 : ¬ a < 1 := fun z => hr (Or.inl z)
    have z2 : a ≤ 16 := Decidable.byContradiction (fun z => hr (Or.inr z))
    cases κ with
    | none => exact rel_pair (f := -3) hg.up (cl0_say z1 z2 ⟨rfl, C0⟩) (rf0_say z1 z2 r7 ⟨rfl, R0⟩)
    | some κb =>
      obtain ⟨hz, hm⟩ := hg.2.2.2.2.2.2 (fun z => by cases z)
      have hm1 := hz.gd hm
      have eF : mFa M1 = mFa M2 := hz.1
      have h6 := hm.1.2.2.2.2.2.2.1
      obtain ⟨n, hn, ea⟩ := rgx (N := 16) (by decide) (fun w => z1 (Int32.lt_trans w (by decide))) z2
      have n1 : 1 ≤ n := by
        rw [ea, show (1 : Int32) = nI 1 from rfl, nI_ltI (by omega) (by decide)] at z1
        omega
      have hy : nY S + 17 < 2 ^ 31 := by have := hg.2.2.2.2.1; omega
      rcases Nat.eq_zero_or_pos (nS S) with s0 | s0
      · have R : XM xE0 100 74 [.ref 0, .int a] (sh2, I2, L2, F2) (fun v h => v = some (.int (-3)) ∧ RF (some κb) M2 A S h) := rf_say r7 hm r6 hy (fun z => absurd z hr) (fun _ => ⟨rfl, R0⟩) (fun z => by omega)
        cases κb with
        | false =>
          exact rel_pair hg.up (cl_say_a (T := mdTT) c7 hm1 c6 hy n1 hn ea (fun _ => ⟨rfl, C0⟩) (fun z => by omega)) R
        | true =>
          exact rel_pair hg.up (cl_say_b (T := []) c7 hm1 c6 hy n1 hn ea (fun _ => ⟨rfl, C0⟩) (fun z => by omega)) R
      · have sz := sy_z hz hm n 1 S S nQ.rf r6.nB r6.2.1
        have G : gB (t + 1) (some κb) M1 M2 A (pSy M2 n 1 S).2 := ⟨hg.1, hg.2.1, hg.2.2.1, hg.2.2.2.1, by
          have := sy_Y (M := M2) n 1 S
          have := hg.2.2.2.2.1
          omega, fun z => (by cases z), fun _ => ⟨hz, hm⟩⟩
        have R : XM xE0 100 74 [.ref 0, .int a] (sh2, I2, L2, F2) (fun v h => v = some (.int (nI (pSy M2 n 1 S).1)) ∧ RF (some κb) M2 A (pSy M2 n 1 S).2 h) := rf_say r7 hm r6 hy (fun z => absurd z hr) (fun z => by omega) (fun _ n' n1' n2' e' J G2 D DG N => by
          rw [nIi ea e' (by omega) (by omega)] at N ⊢
          exact ⟨rfl, J, L2, G2, rfl, ⟨r1.agc (fun k => D 1 k (by decide) (by decide) (by omega)) (D 0 1 (by decide) (by decide) (by omega)), r2.agc (fun k => D 28 k (by decide) (by decide) (by omega)) (D 0 58 (by decide) (by decide) (by omega)), ⟨fun k hk => (D 29 k (by decide) (by decide) (by omega)).trans (r3.1 k hk), (D 0 59 (by decide) (by decide) (by omega)).trans r3.2⟩, r4, r5.agc (D 0 3 (by decide) (by decide) (by omega)) (D 0 4 (by decide) (by decide) (by omega)), N⟩, rMd.ag (κ := some κb) r7 (D 0 38 (by decide) (by decide) (by omega)) (fun b k h1 h2 => D b k (by omega) (by omega) (by omega)) ⟨DG 0 39 (by omega), DG 0 40 (by omega)⟩ (fun k => DG 27 k (by omega))⟩)
        have fin : ∀ J G2, clSJ I J → clSG F G2 → clNs M1 (pSy M1 n 1 S).2 J G2 → CL (some κb) M1 A (pSy M2 n 1 S).2 (cSh (some κb), J, L, G2) := fun J G2 D DG N => by
          have N2 := nQ.cl (M := M1) (by rw [eF]; exact sz.2) N
          exact ⟨J, L, G2, rfl, ⟨c1.agc (fun k => D 2 k (by decide) (by decide) (by omega) (by omega)) (D 1 1 (by decide) (by decide) (by omega) (by omega)), c2.agc (fun k => D 4 k (by decide) (by decide) (by omega) (by omega)) (D 3 1 (by decide) (by decide) (by omega) (by omega)), ⟨fun k hk => (D 17 k (by decide) (by decide) (by omega) (by omega)).trans (c3.1 k hk), (D 16 1 (by decide) (by decide) (by omega) (by omega)).trans c3.2⟩, c4, (D 5 13 (by decide) (by decide) (by omega) (by omega)).trans c5, N2⟩, cMd.ag (κ := some κb) c7 (fun b k hb => D b k (by omega) (by omega) (by omega) (by omega)) (fun _ _ _ => rfl) (fun b k hb => DG b k (by omega))⟩
        cases κb with
        | false =>
          exact rel_pair G (cl_say_a (T := mdTT) c7 hm1 c6 hy n1 hn ea (fun z => by omega) (fun _ J G2 D DG N => ⟨by rw [sz.1], fin J G2 D DG N⟩)) R
        | true =>
          exact rel_pair G (cl_say_b (T := []) c7 hm1 c6 hy n1 hn ea (fun z => by omega) (fun _ J G2 D DG N => ⟨by rw [sz.1], fin J G2 D DG N⟩)) R
end CRC
