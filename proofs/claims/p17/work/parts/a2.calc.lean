/-! the calls of the class on paper: draw, say; what is refused, and calls without a MODEL -/
/-- draw's numbers -/
def drR (a b c : Int32) : Prop := (¬ a < 0 ∧ a ≤ 400) ∧ (¬ b < 1 ∧ b ≤ 16) ∧ ¬ c < 1 ∧ c ≤ 100
theorem drR.rng {a b c : Int32} (h : drR a b c) : ∃ ta k cc, ta < 401 ∧ a = nI ta ∧ 1 ≤ k ∧ k ≤ 16 ∧ b = nI k ∧ cc < 401 ∧ c = nI cc := by
  obtain ⟨⟨z1, z2⟩, ⟨z3, z4⟩, z5, z6⟩ := h
  obtain ⟨ta, ht, ea⟩ := rgx (N := 400) (by decide) z1 z2
  obtain ⟨k, hk, eb⟩ := rgx (N := 16) (by decide) (fun w => z3 (Int32.lt_trans w (by decide))) z4
  obtain ⟨cc, hc, ec⟩ := rgx (N := 100) (by decide) (fun w => z5 (Int32.lt_trans w (by decide))) z6
  rw [eb, show (1 : Int32) = nI 1 from rfl, nI_ltI (by omega) (by decide)] at z3
  exact ⟨ta, k, cc, by omega, ea, by omega, hk, eb, by omega, ec⟩
/-- the class's network -/
def clNs (M : pMd) (S : pNs) (I : Nat → Nat → Int32) (F : Nat → Nat → UInt32) : Prop := I 18 10 = nI (nS S) ∧ nS S ≤ 60 ∧ clKV (nK S) (nV S) F ∧ (0 < nS S → ∀ i, i < mFa M 6 → F 26 i = nLo S i ∧ fB 172 (F 26 i)) ∧ (∀ k, k < 32 → I 37 k = nI (nTl S k)) ∧ I 36 1 = nI (nY S)
def clSJ (I J : Nat → Nat → Int32) : Prop := ∀ b k, b ≠ 34 → b ≠ 37 → ¬ (b = 18 ∧ k = 10) → ¬ (b = 36 ∧ k = 1) → J b k = I b k
def clSG (F G : Nat → Nat → UInt32) : Prop := ∀ b k, ¬ (19 ≤ b ∧ b ≤ 32) → G b k = F b k
section CAC
variable {X : List (Option Nat)} {T : List xS} {M : pMd} {I J : Nat → Nat → Int32} {L : Nat → Nat → Int64} {F G : Nat → Nat → UInt32} {d : Nat} {Q : xP} {m0 s0 : Option Nat}
theorem cl_drawN {a b c : Int32} (hr : ¬ drR a b c) (q : Q (some (.int (-1))) (shG X T, I, L, F)) : XM xE0 d 18 [.ref 0, .int a, .int b, .int c] (shG X T, I, L, F) Q := by
  refine XC.block [37] 60 ?_
  refine And.intro (fun z => ⟨trivial, q⟩) (fun z1 => ?_)
  refine And.intro (fun z => ⟨trivial, q⟩) (fun z2 => ?_)
  refine And.intro (fun z => ⟨trivial, q⟩) (fun z3 => ?_)
  refine And.intro (fun z4 => ?_) (fun z => ⟨trivial, q⟩)
  refine And.intro (fun z => ⟨trivial, q⟩) (fun z5 => ?_)
  exact And.intro (fun z6 => absurd (show drR a b c from ⟨⟨z1, Int32.not_lt.mp z2⟩, ⟨z3, z4⟩, z5, z6⟩) hr) (fun z => ⟨trivial, q⟩)
theorem cl_draw37 {a b c : Int32} (hr : drR a b c) (k : XC xE0 d xM_18 (37, [some (.ref 0), some (.int a), some (.int b), some (.int c)], [], (shG X T, I, L, F)) Q) : XM xE0 d 18 [.ref 0, .int a, .int b, .int c] (shG X T, I, L, F) Q := by
  refine XC.block [37] 60 ?_
  refine And.intro (fun z => absurd z hr.1.1) (fun z1 => ?_)
  refine And.intro (fun z => absurd z (Int32.not_lt.mpr hr.1.2)) (fun z2 => ?_)
  refine And.intro (fun z => absurd z hr.2.1.1) (fun z3 => ?_)
  refine And.intro (fun z4 => ?_) (fun z => absurd hr.2.1.2 z)
  refine And.intro (fun z => absurd z hr.2.2.1) (fun z5 => ?_)
  exact And.intro (fun z6 => k) (fun z => absurd hr.2.2.2 z)
theorem cl_sayN {a : Int32} (hr : a < 1 ∨ ¬ a ≤ 16) (q : Q (some (.int (-1))) (shG X T, I, L, F)) : XM xE0 d 19 [.ref 0, .int a] (shG X T, I, L, F) Q := by
  refine XC.block [13] 60 ?_
  refine And.intro (fun z => ⟨trivial, q⟩) (fun z1 => ?_)
  exact And.intro (fun z2 => absurd hr (fun w => w.elim z1 (fun v => v z2))) (fun z => ⟨trivial, q⟩)
theorem cl_say13 {a : Int32} (r1 : ¬ a < 1) (r2 : a ≤ 16) (k : XC xE0 d xM_19 (13, [some (.ref 0), some (.int a), none, none], [], (shG X T, I, L, F)) Q) : XM xE0 d 19 [.ref 0, .int a] (shG X T, I, L, F) Q := by
  refine XC.block [13] 60 ?_
  refine And.intro (fun z => absurd z r1) (fun z1 => ?_)
  exact And.intro (fun z2 => k) (fun z => absurd r2 z)
/-- without a MODEL -/
theorem cl0_fact {a : Int32} (q : Q (some (.int (-3))) (shG (clXX none s0) T, I, L, F)) : XM xE0 d 8 [.ref 0, .int a] (shG (clXX none s0) T, I, L, F) Q := by
  refine XC.block [] 60 ?_
  exact ⟨trivial, q⟩
theorem cl0_weight {a b c : Int32} (q : Q (some (.int (-3))) (shG (clXX none s0) T, I, L, F)) : XM xE0 d 9 [.ref 0, .int a, .int b, .int c] (shG (clXX none s0) T, I, L, F) Q := by
  refine XC.block [] 60 ?_
  exact ⟨trivial, q⟩
theorem cl0_encode (q : Q (some (.int (-3))) (shG (clXX none s0) T, I, L, F)) : XM xE0 d 11 [.ref 0] (shG (clXX none s0) T, I, L, F) Q := by
  refine XC.block [] 60 ?_
  exact ⟨trivial, q⟩
theorem cl0_letter {a b : Int32} (q : Q (some (.int (-1))) (shG (clXX none s0) T, I, L, F)) : XM xE0 d 13 [.ref 0, .int a, .int b] (shG (clXX none s0) T, I, L, F) Q := by
  refine XC.block [] 60 ?_
  exact ⟨trivial, q⟩
theorem cl0_step {a : Int32} (q : Q (some (.int (-3))) (shG (clXX none s0) T, I, L, F)) : XM xE0 d 14 [.ref 0, .int a] (shG (clXX none s0) T, I, L, F) Q := by
  refine XC.block [] 60 ?_
  exact ⟨trivial, q⟩
theorem cl0_noLog (q : Q (some (.int 1)) (shG (clXX none s0) T, I, L, F)) : XM xE0 d 16 [.ref 0] (shG (clXX none s0) T, I, L, F) Q := by
  refine XC.block [] 60 ?_
  exact ⟨by decide, q⟩
theorem cl0_logit {a : Int32} (q : Q (some (.int (-3))) (shG (clXX none s0) T, I, L, F)) : XM xE0 (d + 1) 15 [.ref 0, .int a] (shG (clXX none s0) T, I, L, F) Q := by
  refine XC.block [] 60 ?_
  refine cl0_noLog ?_
  exact And.intro (fun w => absurd (show (1 : Int32) = 0 from w) (by decide)) (fun _ => ⟨trivial, q⟩)
theorem cl0_draw {a b c : Int32} (hr : drR a b c) (q : Q (some (.int (-3))) (shG (clXX none s0) T, I, L, F)) : XM xE0 (d + 1) 18 [.ref 0, .int a, .int b, .int c] (shG (clXX none s0) T, I, L, F) Q := by
  refine cl_draw37 hr ?_
  refine XC.block [] 60 ?_
  refine cl0_noLog ?_
  exact And.intro (fun w => absurd (show (1 : Int32) = 0 from w) (by decide)) (fun _ => ⟨trivial, q⟩)
theorem cl0_say {a : Int32} (r1 : ¬ a < 1) (r2 : a ≤ 16) (q : Q (some (.int (-3))) (shG (clXX none s0) T, I, L, F)) : XM xE0 (d + 1) 19 [.ref 0, .int a] (shG (clXX none s0) T, I, L, F) Q := by
  refine cl_say13 r1 r2 ?_
  refine XC.block [] 60 ?_
  refine cl0_noLog ?_
  exact And.intro (fun w => absurd (show (1 : Int32) = 0 from w) (by decide)) (fun _ => ⟨trivial, q⟩)
theorem cl_add {y : Nat} (hy : y < 2 ^ 31) (h : I 36 1 = nI y) {a : Int32} (hQ : Q none (shG X T, x2 (x2 I 37 (y % 32) a) 36 1 (nI (y + 1)), L, F)) : XM xE0 d 153 [.ref 36, .int a] (shG X T, I, L, F) Q := by
  have lt : y % 32 < 32 := Nat.mod_lt _ (by decide)
  have er : I 36 1 - I 36 1 / 32 * 32 = nI (y % 32) := by rw [h]; exact cl_rem32 hy
  have vin : vp_in (I 36 1 - I 36 1 / 32 * 32) 32 := rf_in er lt (by decide)
  have q : Q none (shG X T, x2 (x2 I 37 (I 36 1 - I 36 1 / 32 * 32).toNatClampNeg a) 36 1 (x2 I 37 (I 36 1 - I 36 1 / 32 * 32).toNatClampNeg a 36 1 + 1), L, F) := by
    rw [er, nI_clamp (by omega), x2_o _ _ (by omega), h, nI_1]
    exact hQ
  refine XC.block [] 60 ?_
  refine And.intro (show ¬ (32 : Int32) = 0 by decide) ?_
  exact And.intro vin ⟨trivial, q⟩
/-- the reference, refused or without a MODEL -/
theorem rf_stepN (hM : rfMd M I F) {aa : Int32} (h : ¬ rgI aa (mFa M 6)) (q : Q (some (.int (-1))) (sh2, I, L, F)) : XM xE0 (d + 1) 69 [.ref 0, .int aa] (sh2, I, L, F) Q := by
  have hne : ¬ I 0 38 = 0 := by rw [hM.1]; decide
  have e6 : I 17 6 = nI (mFa M 6) := hM.2.1 6 (by decide)
  have v6 : vp_in (6 : Int32) 12 := rf_in (j := 6) rfl (by decide) (by decide)
  have no : ¬ aa < 0 → aa ≤ I 17 6 - 1 → False := fun z1 z2 => h ⟨z1, by rw [← e6]; exact z2⟩
  refine XC.block [] 60 ?_
  refine And.intro (fun _ => ?_) (fun z => absurd hne z)
  refine And.intro v6 ?_
  refine fr_in (fun z1 z2 => (no z1 z2).elim) (fun z => ?_)
  exact And.intro (fun w => absurd (show (0 : Int32) = 0 from rfl) w) (fun _ => ⟨trivial, q⟩)
theorem rf_drawN {a b c : Int32} (hr : ¬ drR a b c) (q : Q (some (.int (-1))) (sh2, I, L, F)) : XM xE0 (d + 1) 73 [.ref 0, .int a, .int b, .int c] (sh2, I, L, F) Q := by
  refine XC.block [50] 60 ?_
  refine fr_in (fun z1 z2 => ?_) (fun z => ?_)
  · refine And.intro (fun z => absurd (show (1 : Int32) = 0 from z) (by decide)) (fun _ => ?_)
    refine fr_in (fun z3 z4 => ?_) (fun z => ?_)
    · refine And.intro (fun z => absurd (show (1 : Int32) = 0 from z) (by decide)) (fun _ => ?_)
      refine fr_in (fun z5 z6 => absurd (show drR a b c from ⟨⟨z1, z2⟩, ⟨z3, z4⟩, z5, z6⟩) hr) (fun z => ?_)
      exact And.intro (fun w => absurd (show (0 : Int32) = 0 from rfl) w) (fun _ => ⟨trivial, q⟩)
    · exact And.intro (fun _ => ⟨trivial, q⟩) (fun w => absurd (show (0 : Int32) = 0 from rfl) w)
  · exact And.intro (fun _ => ⟨trivial, q⟩) (fun w => absurd (show (0 : Int32) = 0 from rfl) w)
theorem rf0_draw {a b c : Int32} (hr : drR a b c) (i : I 0 38 = 0) (q : Q (some (.int (-3))) (sh2, I, L, F)) : XM xE0 (d + 1) 73 [.ref 0, .int a, .int b, .int c] (sh2, I, L, F) Q := by
  refine XC.block [50] 60 ?_
  refine fr_in (fun z1 z2 => ?_) (fun z => absurd z (fun w => w.elim hr.1.1 (fun v => v hr.1.2)))
  refine And.intro (fun z => absurd (show (1 : Int32) = 0 from z) (by decide)) (fun _ => ?_)
  refine fr_in (fun z3 z4 => ?_) (fun z => absurd z (fun w => w.elim hr.2.1.1 (fun v => v hr.2.1.2)))
  refine And.intro (fun z => absurd (show (1 : Int32) = 0 from z) (by decide)) (fun _ => ?_)
  refine fr_in (fun z5 z6 => ?_) (fun z => absurd z (fun w => w.elim hr.2.2.1 (fun v => v hr.2.2.2)))
  refine And.intro (fun _ => ?_) (fun z => absurd (show ¬ (1 : Int32) = 0 by decide) z)
  exact And.intro (fun _ => ⟨trivial, q⟩) (fun z => absurd i z)
theorem rf_sayN {a : Int32} (hr : a < 1 ∨ ¬ a ≤ 16) (q : Q (some (.int (-1))) (sh2, I, L, F)) : XM xE0 (d + 1) 74 [.ref 0, .int a] (sh2, I, L, F) Q := by
  refine XC.block [31] 60 ?_
  refine fr_in (fun z1 z2 => absurd hr (fun w => w.elim z1 (fun v => v z2))) (fun z => ?_)
  exact And.intro (fun w => absurd (show (0 : Int32) = 0 from rfl) w) (fun _ => ⟨trivial, q⟩)
theorem rf0_say {a : Int32} (r1 : ¬ a < 1) (r2 : a ≤ 16) (i : I 0 38 = 0) (q : Q (some (.int (-3))) (sh2, I, L, F)) : XM xE0 (d + 1) 74 [.ref 0, .int a] (sh2, I, L, F) Q := by
  refine XC.block [31] 60 ?_
  refine fr_in (fun z1 z2 => ?_) (fun z => absurd z (fun w => w.elim r1 (fun v => v r2)))
  refine And.intro (fun _ => ?_) (fun z => absurd (show ¬ (1 : Int32) = 0 by decide) z)
  exact And.intro (fun _ => ⟨trivial, q⟩) (fun z => absurd i z)
theorem rf0_fact {a : Int32} (i : I 0 38 = 0) (q : Q (some (.int (-3))) (sh2, I, L, F)) : XM xE0 d 56 [.ref 0, .int a] (sh2, I, L, F) Q := by
  refine XC.block [] 60 ?_
  exact And.intro (fun c => absurd i c) (fun c => ⟨trivial, q⟩)
theorem rf0_weight {a b c : Int32} (i : I 0 38 = 0) (q : Q (some (.int (-3))) (sh2, I, L, F)) : XM xE0 d 57 [.ref 0, .int a, .int b, .int c] (sh2, I, L, F) Q := by
  refine XC.block [61] 60 ?_
  exact And.intro (fun c => absurd i c) (fun c => ⟨trivial, q⟩)
theorem rf0_encode (i : I 0 38 = 0) (q : Q (some (.int (-3))) (sh2, I, L, F)) : XM xE0 d 59 [.ref 0] (sh2, I, L, F) Q := by
  refine XC.block [25] 60 ?_
  exact And.intro (fun c => absurd i c) (fun c => ⟨trivial, q⟩)
theorem rf0_step {a : Int32} (i : I 0 38 = 0) (q : Q (some (.int (-3))) (sh2, I, L, F)) : XM xE0 d 69 [.ref 0, .int a] (sh2, I, L, F) Q := by
  refine XC.block [43] 60 ?_
  exact And.intro (fun c => absurd i c) (fun c => ⟨trivial, q⟩)
theorem rf0_logit {a : Int32} (i : I 0 38 = 0) (q : Q (some (.int (-3))) (sh2, I, L, F)) : XM xE0 d 70 [.ref 0, .int a] (sh2, I, L, F) Q := by
  refine XC.block [] 60 ?_
  exact And.intro (fun c => ⟨trivial, q⟩) (fun c => absurd i c)
theorem rf0_letter {a b : Int32} (i : I 0 38 = 0) (q : Q (some (.int (-1))) (sh2, I, L, F)) : XM xE0 d 61 [.ref 0, .int a, .int b] (sh2, I, L, F) Q := by
  refine XC.block [] 60 ?_
  exact And.intro (fun c => ⟨trivial, q⟩) (fun c => absurd i c)
end CAC
section CAD_a
variable {X : List (Option Nat)} {T : List xS} {M : pMd} {I J : Nat → Nat → Int32} {L : Nat → Nat → Int64} {F G : Nat → Nat → UInt32} {d : Nat} {Q : xP} {s0 : Option Nat}
theorem cl_draw_a (hM : clMd_a M I L F) (hm : mGd M) {s : Nat} (hs : s ≤ 60) (h60 : I 18 10 = nI s) (hB : 0 < s → ∀ i, i < mFa M 6 → fB 172 (F 26 i)) {a b c : Int32} (hr : drR a b c)
    (hno : s = 0 → Q (some (.int (-3))) (shG (clXX (some 38) s0) (md1 T), I, L, F))
    (h0 : 0 < s → a = 0 → ∀ J, (∀ b k, b ≠ 34 → J b k = I b k) → Q (some (.int (nI (pSo (F 26) (mFa M 6) 0)))) (shG (clXX (some 38) s0) (md1 T), J, L, F))
    (hok : 0 < s → ∀ ta k cc, 0 < ta → ta < 401 → a = nI ta → 1 ≤ k → k ≤ 16 → b = nI k → c = nI cc → ∀ J, (∀ b k, b ≠ 34 → J b k = I b k) → ∀ G, fO 35 F G → ∀ L', (∀ b k, ¬ (b = 33 ∧ k = 2) → L' b k = L b k) → L' 33 2 = pSd (L 33 2) → Q (some (.int (nI (pDw (F 26) (mFa M 6) a k c (pSd (L 33 2)))))) (shG (clXX (some 38) s0) (md1 T), J, L', G)) : XM xE0 (d + 3) 18 [.ref 0, .int a, .int b, .int c] (shG (clXX (some 38) s0) (md1 T), I, L, F) Q := by
  have h6 := hm.1.2.2.2.2.2.2.1
  have v0 : vp_in (0 : Int32) 16 := rf_in (j := 0) rfl (by decide) (by decide)
  have v6 : vp_in (6 : Int32) 12 := rf_in (j := 6) rfl (by decide) (by decide)
  obtain ⟨ta, k, cc, t4, ea, k1, k2, eb, c4, ec⟩ := hr.rng
  have az : a = 0 ↔ ta = 0 := by rw [ea, show (0 : Int32) = nI 0 from rfl, nI_eq (by omega) (by decide)]
  have c85 : 0 < s → ¬ a = 0 → ∀ J, (∀ b k, b ≠ 34 → J b k = I b k) → (∀ k, k < mFa M 6 → J 34 k = nI (pSo (F 26) (mFa M 6) k)) → XC xE0 (d + 3) xM_18 (85, [some (.ref 0), some (.int a), some (.int b), some (.int c)], [], (shG (clXX (some 38) s0) (md1 T), J, L, F)) Q := by
    intro s1 z J D ho
    have e6 : J 39 6 = nI (mFa M 6) := (D 39 6 (by decide)).trans (hM.1 6 (by decide))
    have t0 : 0 < ta := Nat.pos_of_ne_zero (fun w => z (az.mpr w))
    have en : (if J 39 6 < b then J 39 6 else b) = nI (min k (mFa M 6)) := by
      rw [e6, eb]
      split
      · rename_i y
        rw [nI_ltI (by omega) (by omega)] at y
        congr 1; omega
      · rename_i y
        rw [nI_ltI (by omega) (by omega)] at y
        congr 1; omega
    refine XC.block [] 60 ?_
    refine And.intro v6 ?_
    exact cl_pick (N := mFa M 6) (n := min k (mFa M 6)) (o := pSo (F 26) (mFa M 6)) (by omega) h6.2 (by omega) (by omega) ho (fun k hk => pSo_lt _ k hk) (hB s1) t0 t4 c4 ea en ec (fun G D2 L' hL hw => ⟨trivial, hok s1 ta k cc t0 t4 ea k1 k2 eb ec J D G D2 L' hL hw⟩)
  have c47 : 0 < s → XC xE0 (d + 3) xM_18 (47, [some (.ref 0), some (.int a), some (.int b), some (.int c)], [], (shG (clXX (some 38) s0) (md1 T), I, L, F)) Q := by
    intro s1
    have f0 : a = 0 → ∀ J, (∀ b k, b ≠ 34 → J b k = I b k) → (∀ k, k < mFa M 6 → J 34 k = nI (pSo (F 26) (mFa M 6) k)) → Q (some (.int (J 34 0))) (shG (clXX (some 38) s0) (md1 T), J, L, F) := fun z J D ho => by rw [ho 0 (by omega)]; exact h0 s1 z J D
    refine XC.block [85] 60 ?_
    refine And.intro v6 ?_
    refine cl_sort (N := mFa M 6) h6.2 (hM.1 6 (by decide)) (fun J D ho => ?_)
    exact And.intro (fun z => c85 s1 z J D ho) (fun z => And.intro v0 ⟨trivial, f0 (Classical.not_not.mp z) J D ho⟩)
  refine cl_draw37 hr ?_
  refine XC.block [47] 60 ?_
  refine cl_noLog_a hs h60 (fun z => ?_) (fun s1 => ?_)
  · exact And.intro (fun w => absurd (show (1 : Int32) = 0 from w) (by decide)) (fun _ => ⟨trivial, hno z⟩)
  · exact And.intro (fun _ => c47 s1) (fun w => absurd (show (0 : Int32) = 0 from rfl) w)
theorem cl_sayOne_a (hM : clMd_a M I L F) (hm : mGd M) {S : pNs} (hS : clNs M S I F) (hs : 0 < nS S) (hy : nY S < 2 ^ 31)
    (hst : (pSo (nLo S) (mFa M 6) 0 = mFa M 8 ∨ nS S = 60) → ∀ J, clSJ I J → clNs M (pTel S (pSo (nLo S) (mFa M 6) 0)) J F → Q (some (.int 0)) (shG (clXX (some 38) s0) (md1 T), J, L, F))
    (hgo : ¬ (pSo (nLo S) (mFa M 6) 0 = mFa M 8 ∨ nS S = 60) → ∀ J G, clSJ I J → clSG F G → clNs M (pStp M (pTel S (pSo (nLo S) (mFa M 6) 0)) (pSo (nLo S) (mFa M 6) 0)) J G → Q (some (.int 1)) (shG (clXX (some 38) s0) (md1 T), J, L, G)) : XM xE0 (d + 5) 20 [.ref 0] (shG (clXX (some 38) s0) (md1 T), I, L, F) Q := by
  have h6 := hm.1.2.2.2.2.2.2.1
  have h8 := hm.1.2.2.2.2.2.2.2.2.1
  have v0 : vp_in (0 : Int32) 16 := rf_in (j := 0) rfl (by decide) (by decide)
  have v6 : vp_in (6 : Int32) 12 := rf_in (j := 6) rfl (by decide) (by decide)
  have v8 : vp_in (8 : Int32) 12 := rf_in (j := 8) rfl (by decide) (by decide)
  obtain ⟨n60, n60l, nkv, nlo, ntl, n61⟩ := hS
  have eso : pSo (F 26) (mFa M 6) = pSo (nLo S) (mFa M 6) := pSo_ext _ (fun k hk => (nlo hs k hk).1)
  have tlt : pSo (nLo S) (mFa M 6) 0 < mFa M 6 := pSo_lt _ 0 (by omega)
  have c42 : ∀ J2, (∀ b k, b ≠ 34 → b ≠ 37 → ¬ (b = 36 ∧ k = 1) → J2 b k = I b k) → (∀ k, k < 32 → J2 37 k = nI (nTl (pTel S (pSo (nLo S) (mFa M 6) 0)) k)) → J2 36 1 = nI (nY S + 1) → ∀ t, t = nI (pSo (nLo S) (mFa M 6) 0) → XC xE0 (d + 5) xM_20 (42, [some (.ref 0), some (.int t)], [], (shG (clXX (some 38) s0) (md1 T), J2, L, F)) Q := by
    intro J2 D2 t2 y2 t et
    have DJ : clSJ I J2 := fun b k h1 h2 h3 h4 => D2 b k h1 h2 h4
    have GM : clMd_a M J2 L F := hM.ag (fun b k hb => D2 b k (by omega) (by omega) (by omega))
    have e60 : J2 18 10 = nI (nS S) := (D2 18 10 (by decide) (by decide) (by decide)).trans n60
    have e8 : J2 39 8 = nI (mFa M 8) := GM.1 8 (by decide)
    have ce : t = J2 39 8 ↔ pSo (nLo S) (mFa M 6) 0 = mFa M 8 := by rw [et, e8, nI_eq (by omega) (by omega)]
    have c60 : J2 18 10 < 60 ↔ nS S < 60 := by rw [e60, show (60 : Int32) = nI 60 from rfl, nI_ltI (by omega) (by decide)]
    have N2 : clNs M (pTel S (pSo (nLo S) (mFa M 6) 0)) J2 F := ⟨e60, n60l, nkv, nlo, t2, y2⟩
    have stop : (pSo (nLo S) (mFa M 6) 0 = mFa M 8 ∨ ¬ nS S < 60) → Q (some (.int 0)) (shG (clXX (some 38) s0) (md1 T), J2, L, F) := fun z => hst (z.elim Or.inl (fun w => Or.inr (by omega))) J2 DJ N2
    have c70 : ¬ pSo (nLo S) (mFa M 6) 0 = mFa M 8 → nS S < 60 → XC xE0 (d + 5) xM_20 (70, [some (.ref 0), some (.int t)], [], (shG (clXX (some 38) s0) (md1 T), J2, L, F)) Q := fun z w => by
      have go : ∀ G, (∀ b k, ¬ (19 ≤ b ∧ b ≤ 32) → G b k = F b k) → clKV (pKs M (nS S) (pSo (nLo S) (mFa M 6) 0) (nK S) (nV S)) (pVs M (nS S) (pSo (nLo S) (mFa M 6) 0) (nK S) (nV S)) G → (∀ i, i < mFa M 6 → G 26 i = pLo M (nS S) (pSo (nLo S) (mFa M 6) 0) (nK S) (nV S) i ∧ fB 172 (G 26 i)) → Q (some (.int 1)) (shG (clXX (some 38) s0) (md1 T), x2 J2 18 10 (nI (nS S + 1)), L, G) := fun G D kv lo => by
        refine hgo (fun y => y.elim z (fun y => by omega)) _ G (fun b k h1 h2 h3 h4 => ?_) D ⟨x2_same _ _ _ _, show nS S + 1 ≤ 60 from w, kv, fun _ => lo, fun k hk => ?_, ?_⟩
        · rw [x2_o _ _ h3]; exact D2 b k h1 h2 h4
        · rw [x2_o _ _ (by omega)]; exact t2 k hk
        · rw [x2_o _ _ (by omega)]; exact y2
      refine XC.block [] 60 ?_
      exact cl_advance_a GM hm w e60 nkv tlt et (fun G D kv lo => ⟨by decide, go G D kv lo⟩)
    refine XC.block [70] 60 ?_
    refine And.intro v8 ?_
    refine And.intro (fun z => ⟨by decide, stop (Or.inl (ce.mp z))⟩) (fun z => ?_)
    exact And.intro (fun w => c70 (fun y => z (ce.mpr y)) (c60.mp w)) (fun w => ⟨by decide, stop (Or.inr (fun y => w (c60.mpr y)))⟩)
  have c34 : ∀ J1, (∀ b k, b ≠ 34 → J1 b k = I b k) → ∀ t, t = nI (pSo (nLo S) (mFa M 6) 0) → XC xE0 (d + 5) xM_20 (34, [some (.ref 0), some (.int t)], [], (shG (clXX (some 38) s0) (md1 T), J1, L, F)) Q := by
    intro J1 D1 t et
    have lt : nY S % 32 < 32 := Nat.mod_lt _ (by decide)
    have e61 : J1 36 1 = nI (nY S) := (D1 36 1 (by decide)).trans n61
    have k := c42 (x2 (x2 J1 37 (nY S % 32) t) 36 1 (nI (nY S + 1))) (fun b k h1 h2 h3 => by rw [x2_o _ _ h3, x2_o _ _ (fun e => h2 e.1)]; exact D1 b k h1) (fun k hk => by
      rw [x2_o _ _ (by omega)]
      show _ = nI (if k = nY S % 32 then pSo (nLo S) (mFa M 6) 0 else nTl S k)
      split
      · rename_i y
        rw [y, x2_same]; exact et
      · rename_i y
        rw [x2_o _ _ (fun e => y e.2), D1 37 k (by decide)]; exact ntl k hk) (x2_same _ _ _ _) t et
    refine XC.block [42] 60 ?_
    exact cl_add hy e61 k
  have e0 : ∀ J1 : Nat → Nat → Int32, (∀ k, k < mFa M 6 → J1 34 k = nI (pSo (F 26) (mFa M 6) k)) → J1 34 0 = nI (pSo (nLo S) (mFa M 6) 0) := fun J1 ho => by rw [ho 0 (by omega), eso]
  refine XC.block [34] 60 ?_
  refine And.intro v6 ?_
  refine cl_sort (N := mFa M 6) h6.2 (hM.1 6 (by decide)) (fun J1 D1 ho => ?_)
  exact And.intro v0 (c34 J1 D1 _ (e0 J1 ho))
theorem clMd_a.agS (h : clMd_a M I L F) (a : clSJ I J) (g : clSG F G) : clMd_a M J L G := (h.fl (fun b k hb => g b k (by omega))).ag (fun b k hb => a b k (by omega) (by omega) (by omega) (by omega))
theorem cl_say_a (hM : clMd_a M I L F) (hm : mGd M) {S : pNs} (hS : clNs M S I F) (hy : nY S + 17 < 2 ^ 31) {a : Int32} {n : Nat} (n1 : 1 ≤ n) (n16 : n ≤ 16) (ha : a = nI n)
    (hno : nS S = 0 → Q (some (.int (-3))) (shG (clXX (some 38) s0) (md1 T), I, L, F))
    (hok : 0 < nS S → ∀ J G, clSJ I J → clSG F G → clNs M (pSy M n 1 S).2 J G → Q (some (.int (nI (pSy M n 1 S).1))) (shG (clXX (some 38) s0) (md1 T), J, L, G)) : XM xE0 (d + 6) 19 [.ref 0, .int a] (shG (clXX (some 38) s0) (md1 T), I, L, F) Q := by
  have c47 : ∀ J G i, (∀ x, x = nI i → Q (some (.int x)) (shG (clXX (some 38) s0) (md1 T), J, L, G)) → ∀ x, x = nI i → XC xE0 (d + 6) xM_19 (27, [some (.ref 0), some (.int a), some (.int x), some (.int 0)], [], (shG (clXX (some 38) s0) (md1 T), J, L, G)) Q := by
    intro J G i q x hx
    refine XC.block [27] 60 ?_
    exact And.intro (fun _ => ⟨trivial, q x hx⟩) (fun w => absurd (show (0 : Int32) = 0 from rfl) w)
  have loop : 0 < nS S → ∀ (u i : Nat), i + u = n + 1 → 1 ≤ i → ∀ S1, pSy M u i S1 = pSy M n 1 S → nY S1 + u < 2 ^ 31 → 0 < nS S1 → ∀ J G, clSJ I J → clSG F G → clNs M S1 J G → ∀ x, x = nI (i - 1) → XC xE0 (d + 6) xM_19 (27, [some (.ref 0), some (.int a), some (.int x), some (.int 1)], [], (shG (clXX (some 38) s0) (md1 T), J, L, G)) Q := by
    intro s1 u
    induction u with
    | zero =>
      intro i hi i1 S1 hE hyy hs1 J G DJ DG N x hx
      have c : Q (some (.int x)) (shG (clXX (some 38) s0) (md1 T), J, L, G) := by
        have f := hok s1 J G DJ DG
        rw [← hE] at f
        have f := f N
        rw [hx]
        exact f
      have ge : a ≤ x := by rw [ha, hx]; exact nI_le (by omega) (by omega)
      refine XC.block [27] 60 ?_
      refine And.intro (fun w => absurd (show (1 : Int32) = 0 from w) (by decide)) (fun _ => ?_)
      exact And.intro (fun _ => ⟨trivial, c⟩) (fun z => absurd ge z)
    | succ u ih =>
      intro i hi i1 S1 hE hyy hs1 J G DJ DG N x hx
      have lt : ¬ a ≤ x := by rw [ha, hx]; exact nI_ge (by omega) (by omega)
      have x1 : x + 1 = nI i := by rw [hx, nI_1]; congr 1; omega
      have x1' : x + 1 = nI (i + 1 - 1) := x1
      have GM : clMd_a M J L G := hM.agS DJ DG
      have stop : (pSo (nLo S1) (mFa M 6) 0 = mFa M 8 ∨ nS S1 = 60) → ∀ J2, clSJ J J2 → clNs M (pTel S1 (pSo (nLo S1) (mFa M 6) 0)) J2 G → XC xE0 (d + 6) xM_19 (27, [some (.ref 0), some (.int a), some (.int (x + 1)), some (.int 0)], [], (shG (clXX (some 38) s0) (md1 T), J2, L, G)) Q := fun z J2 D2 N2 => by
        have e : pSy M n 1 S = (i, pTel S1 (pSo (nLo S1) (mFa M 6) 0)) := hE.symm.trans (if_pos z)
        have f := hok s1 J2 G (fun b k h1 h2 h3 h4 => (D2 b k h1 h2 h3 h4).trans (DJ b k h1 h2 h3 h4)) DG
        rw [e] at f
        have f := f N2
        exact c47 J2 G i (fun y hy => by rw [hy]; exact f) _ x1
      have go : ¬ (pSo (nLo S1) (mFa M 6) 0 = mFa M 8 ∨ nS S1 = 60) → ∀ J2 G2, clSJ J J2 → clSG G G2 → clNs M (pStp M (pTel S1 (pSo (nLo S1) (mFa M 6) 0)) (pSo (nLo S1) (mFa M 6) 0)) J2 G2 → XC xE0 (d + 6) xM_19 (27, [some (.ref 0), some (.int a), some (.int (x + 1)), some (.int 1)], [], (shG (clXX (some 38) s0) (md1 T), J2, L, G2)) Q := fun z J2 G2 D2 E2 N2 => by
        have e : pSy M u (i + 1) (pStp M (pTel S1 (pSo (nLo S1) (mFa M 6) 0)) (pSo (nLo S1) (mFa M 6) 0)) = pSy M n 1 S := (if_neg z).symm.trans hE
        exact ih (i + 1) (by omega) (by omega) _ e (show nY S1 + 1 + u < 2 ^ 31 by omega) (show 0 < nS S1 + 1 by omega) J2 G2 (fun b k h1 h2 h3 h4 => (D2 b k h1 h2 h3 h4).trans (DJ b k h1 h2 h3 h4)) (fun b k hb => (E2 b k hb).trans (DG b k hb)) N2 _ x1'
      refine XC.block [27] 60 ?_
      refine And.intro (fun w => absurd (show (1 : Int32) = 0 from w) (by decide)) (fun _ => ?_)
      refine And.intro (fun z => absurd z lt) (fun _ => ?_)
      exact cl_sayOne_a GM hm N hs1 (by omega) (fun z J2 D2 N2 => stop z J2 D2 N2) (fun z J2 G2 D2 E2 N2 => go z J2 G2 D2 E2 N2)
  have r1 : ¬ a < 1 := by rw [ha, show (1 : Int32) = nI 1 from rfl, nI_ltI (by omega) (by decide)]; omega
  have r2 : a ≤ 16 := by rw [ha, show (16 : Int32) = nI 16 from rfl, nI_leI (by omega) (by decide)]; exact n16
  refine cl_say13 r1 r2 ?_
  refine XC.block [27] 60 ?_
  refine cl_noLog_a hS.2.1 hS.1 (fun z => ?_) (fun s1 => ?_)
  · exact And.intro (fun w => absurd (show (1 : Int32) = 0 from w) (by decide)) (fun _ => ⟨trivial, hno z⟩)
  · exact And.intro (fun _ => loop s1 n 1 (by omega) (Nat.le_refl _) S rfl (by omega) s1 I F (fun _ _ _ _ _ _ => rfl) (fun _ _ _ => rfl) hS _ rfl) (fun w => absurd (show (0 : Int32) = 0 from rfl) w)
end CAD_a
section CAD_b
variable {X : List (Option Nat)} {T : List xS} {M : pMd} {I J : Nat → Nat → Int32} {L : Nat → Nat → Int64} {F G : Nat → Nat → UInt32} {d : Nat} {Q : xP} {s0 : Option Nat}
theorem cl_draw_b (hM : clMd_b M I L F) (hm : mGd M) {s : Nat} (hs : s ≤ 60) (h60 : I 18 10 = nI s) (hB : 0 < s → ∀ i, i < mFa M 6 → fB 172 (F 26 i)) {a b c : Int32} (hr : drR a b c)
    (hno : s = 0 → Q (some (.int (-3))) (shG (clXX (some 51) s0) (md2 T), I, L, F))
    (h0 : 0 < s → a = 0 → ∀ J, (∀ b k, b ≠ 34 → J b k = I b k) → Q (some (.int (nI (pSo (F 26) (mFa M 6) 0)))) (shG (clXX (some 51) s0) (md2 T), J, L, F))
    (hok : 0 < s → ∀ ta k cc, 0 < ta → ta < 401 → a = nI ta → 1 ≤ k → k ≤ 16 → b = nI k → c = nI cc → ∀ J, (∀ b k, b ≠ 34 → J b k = I b k) → ∀ G, fO 35 F G → ∀ L', (∀ b k, ¬ (b = 33 ∧ k = 2) → L' b k = L b k) → L' 33 2 = pSd (L 33 2) → Q (some (.int (nI (pDw (F 26) (mFa M 6) a k c (pSd (L 33 2)))))) (shG (clXX (some 51) s0) (md2 T), J, L', G)) : XM xE0 (d + 3) 18 [.ref 0, .int a, .int b, .int c] (shG (clXX (some 51) s0) (md2 T), I, L, F) Q := by
  have h6 := hm.1.2.2.2.2.2.2.1
  have v0 : vp_in (0 : Int32) 16 := rf_in (j := 0) rfl (by decide) (by decide)
  have v6 : vp_in (6 : Int32) 12 := rf_in (j := 6) rfl (by decide) (by decide)
  obtain ⟨ta, k, cc, t4, ea, k1, k2, eb, c4, ec⟩ := hr.rng
  have az : a = 0 ↔ ta = 0 := by rw [ea, show (0 : Int32) = nI 0 from rfl, nI_eq (by omega) (by decide)]
  have c85 : 0 < s → ¬ a = 0 → ∀ J, (∀ b k, b ≠ 34 → J b k = I b k) → (∀ k, k < mFa M 6 → J 34 k = nI (pSo (F 26) (mFa M 6) k)) → XC xE0 (d + 3) xM_18 (85, [some (.ref 0), some (.int a), some (.int b), some (.int c)], [], (shG (clXX (some 51) s0) (md2 T), J, L, F)) Q := by
    intro s1 z J D ho
    have e6 : J 52 6 = nI (mFa M 6) := (D 52 6 (by decide)).trans (hM.1 6 (by decide))
    have t0 : 0 < ta := Nat.pos_of_ne_zero (fun w => z (az.mpr w))
    have en : (if J 52 6 < b then J 52 6 else b) = nI (min k (mFa M 6)) := by
      rw [e6, eb]
      split
      · rename_i y
        rw [nI_ltI (by omega) (by omega)] at y
        congr 1; omega
      · rename_i y
        rw [nI_ltI (by omega) (by omega)] at y
        congr 1; omega
    refine XC.block [] 60 ?_
    refine And.intro v6 ?_
    exact cl_pick (N := mFa M 6) (n := min k (mFa M 6)) (o := pSo (F 26) (mFa M 6)) (by omega) h6.2 (by omega) (by omega) ho (fun k hk => pSo_lt _ k hk) (hB s1) t0 t4 c4 ea en ec (fun G D2 L' hL hw => ⟨trivial, hok s1 ta k cc t0 t4 ea k1 k2 eb ec J D G D2 L' hL hw⟩)
  have c47 : 0 < s → XC xE0 (d + 3) xM_18 (47, [some (.ref 0), some (.int a), some (.int b), some (.int c)], [], (shG (clXX (some 51) s0) (md2 T), I, L, F)) Q := by
    intro s1
    have f0 : a = 0 → ∀ J, (∀ b k, b ≠ 34 → J b k = I b k) → (∀ k, k < mFa M 6 → J 34 k = nI (pSo (F 26) (mFa M 6) k)) → Q (some (.int (J 34 0))) (shG (clXX (some 51) s0) (md2 T), J, L, F) := fun z J D ho => by rw [ho 0 (by omega)]; exact h0 s1 z J D
    refine XC.block [85] 60 ?_
    refine And.intro v6 ?_
    refine cl_sort (N := mFa M 6) h6.2 (hM.1 6 (by decide)) (fun J D ho => ?_)
    exact And.intro (fun z => c85 s1 z J D ho) (fun z => And.intro v0 ⟨trivial, f0 (Classical.not_not.mp z) J D ho⟩)
  refine cl_draw37 hr ?_
  refine XC.block [47] 60 ?_
  refine cl_noLog_b hs h60 (fun z => ?_) (fun s1 => ?_)
  · exact And.intro (fun w => absurd (show (1 : Int32) = 0 from w) (by decide)) (fun _ => ⟨trivial, hno z⟩)
  · exact And.intro (fun _ => c47 s1) (fun w => absurd (show (0 : Int32) = 0 from rfl) w)
theorem cl_sayOne_b (hM : clMd_b M I L F) (hm : mGd M) {S : pNs} (hS : clNs M S I F) (hs : 0 < nS S) (hy : nY S < 2 ^ 31)
    (hst : (pSo (nLo S) (mFa M 6) 0 = mFa M 8 ∨ nS S = 60) → ∀ J, clSJ I J → clNs M (pTel S (pSo (nLo S) (mFa M 6) 0)) J F → Q (some (.int 0)) (shG (clXX (some 51) s0) (md2 T), J, L, F))
    (hgo : ¬ (pSo (nLo S) (mFa M 6) 0 = mFa M 8 ∨ nS S = 60) → ∀ J G, clSJ I J → clSG F G → clNs M (pStp M (pTel S (pSo (nLo S) (mFa M 6) 0)) (pSo (nLo S) (mFa M 6) 0)) J G → Q (some (.int 1)) (shG (clXX (some 51) s0) (md2 T), J, L, G)) : XM xE0 (d + 5) 20 [.ref 0] (shG (clXX (some 51) s0) (md2 T), I, L, F) Q := by
  have h6 := hm.1.2.2.2.2.2.2.1
  have h8 := hm.1.2.2.2.2.2.2.2.2.1
  have v0 : vp_in (0 : Int32) 16 := rf_in (j := 0) rfl (by decide) (by decide)
  have v6 : vp_in (6 : Int32) 12 := rf_in (j := 6) rfl (by decide) (by decide)
  have v8 : vp_in (8 : Int32) 12 := rf_in (j := 8) rfl (by decide) (by decide)
  obtain ⟨n60, n60l, nkv, nlo, ntl, n61⟩ := hS
  have eso : pSo (F 26) (mFa M 6) = pSo (nLo S) (mFa M 6) := pSo_ext _ (fun k hk => (nlo hs k hk).1)
  have tlt : pSo (nLo S) (mFa M 6) 0 < mFa M 6 := pSo_lt _ 0 (by omega)
  have c42 : ∀ J2, (∀ b k, b ≠ 34 → b ≠ 37 → ¬ (b = 36 ∧ k = 1) → J2 b k = I b k) → (∀ k, k < 32 → J2 37 k = nI (nTl (pTel S (pSo (nLo S) (mFa M 6) 0)) k)) → J2 36 1 = nI (nY S + 1) → ∀ t, t = nI (pSo (nLo S) (mFa M 6) 0) → XC xE0 (d + 5) xM_20 (42, [some (.ref 0), some (.int t)], [], (shG (clXX (some 51) s0) (md2 T), J2, L, F)) Q := by
    intro J2 D2 t2 y2 t et
    have DJ : clSJ I J2 := fun b k h1 h2 h3 h4 => D2 b k h1 h2 h4
    have GM : clMd_b M J2 L F := hM.ag (fun b k hb => D2 b k (by omega) (by omega) (by omega))
    have e60 : J2 18 10 = nI (nS S) := (D2 18 10 (by decide) (by decide) (by decide)).trans n60
    have e8 : J2 52 8 = nI (mFa M 8) := GM.1 8 (by decide)
    have ce : t = J2 52 8 ↔ pSo (nLo S) (mFa M 6) 0 = mFa M 8 := by rw [et, e8, nI_eq (by omega) (by omega)]
    have c60 : J2 18 10 < 60 ↔ nS S < 60 := by rw [e60, show (60 : Int32) = nI 60 from rfl, nI_ltI (by omega) (by decide)]
    have N2 : clNs M (pTel S (pSo (nLo S) (mFa M 6) 0)) J2 F := ⟨e60, n60l, nkv, nlo, t2, y2⟩
    have stop : (pSo (nLo S) (mFa M 6) 0 = mFa M 8 ∨ ¬ nS S < 60) → Q (some (.int 0)) (shG (clXX (some 51) s0) (md2 T), J2, L, F) := fun z => hst (z.elim Or.inl (fun w => Or.inr (by omega))) J2 DJ N2
    have c70 : ¬ pSo (nLo S) (mFa M 6) 0 = mFa M 8 → nS S < 60 → XC xE0 (d + 5) xM_20 (70, [some (.ref 0), some (.int t)], [], (shG (clXX (some 51) s0) (md2 T), J2, L, F)) Q := fun z w => by
      have go : ∀ G, (∀ b k, ¬ (19 ≤ b ∧ b ≤ 32) → G b k = F b k) → clKV (pKs M (nS S) (pSo (nLo S) (mFa M 6) 0) (nK S) (nV S)) (pVs M (nS S) (pSo (nLo S) (mFa M 6) 0) (nK S) (nV S)) G → (∀ i, i < mFa M 6 → G 26 i = pLo M (nS S) (pSo (nLo S) (mFa M 6) 0) (nK S) (nV S) i ∧ fB 172 (G 26 i)) → Q (some (.int 1)) (shG (clXX (some 51) s0) (md2 T), x2 J2 18 10 (nI (nS S + 1)), L, G) := fun G D kv lo => by
        refine hgo (fun y => y.elim z (fun y => by omega)) _ G (fun b k h1 h2 h3 h4 => ?_) D ⟨x2_same _ _ _ _, show nS S + 1 ≤ 60 from w, kv, fun _ => lo, fun k hk => ?_, ?_⟩
        · rw [x2_o _ _ h3]; exact D2 b k h1 h2 h4
        · rw [x2_o _ _ (by omega)]; exact t2 k hk
        · rw [x2_o _ _ (by omega)]; exact y2
      refine XC.block [] 60 ?_
      exact cl_advance_b GM hm w e60 nkv tlt et (fun G D kv lo => ⟨by decide, go G D kv lo⟩)
    refine XC.block [70] 60 ?_
    refine And.intro v8 ?_
    refine And.intro (fun z => ⟨by decide, stop (Or.inl (ce.mp z))⟩) (fun z => ?_)
    exact And.intro (fun w => c70 (fun y => z (ce.mpr y)) (c60.mp w)) (fun w => ⟨by decide, stop (Or.inr (fun y => w (c60.mpr y)))⟩)
  have c34 : ∀ J1, (∀ b k, b ≠ 34 → J1 b k = I b k) → ∀ t, t = nI (pSo (nLo S) (mFa M 6) 0) → XC xE0 (d + 5) xM_20 (34, [some (.ref 0), some (.int t)], [], (shG (clXX (some 51) s0) (md2 T), J1, L, F)) Q := by
    intro J1 D1 t et
    have lt : nY S % 32 < 32 := Nat.mod_lt _ (by decide)
    have e61 : J1 36 1 = nI (nY S) := (D1 36 1 (by decide)).trans n61
    have k := c42 (x2 (x2 J1 37 (nY S % 32) t) 36 1 (nI (nY S + 1))) (fun b k h1 h2 h3 => by rw [x2_o _ _ h3, x2_o _ _ (fun e => h2 e.1)]; exact D1 b k h1) (fun k hk => by
      rw [x2_o _ _ (by omega)]
      show _ = nI (if k = nY S % 32 then pSo (nLo S) (mFa M 6) 0 else nTl S k)
      split
      · rename_i y
        rw [y, x2_same]; exact et
      · rename_i y
        rw [x2_o _ _ (fun e => y e.2), D1 37 k (by decide)]; exact ntl k hk) (x2_same _ _ _ _) t et
    refine XC.block [42] 60 ?_
    exact cl_add hy e61 k
  have e0 : ∀ J1 : Nat → Nat → Int32, (∀ k, k < mFa M 6 → J1 34 k = nI (pSo (F 26) (mFa M 6) k)) → J1 34 0 = nI (pSo (nLo S) (mFa M 6) 0) := fun J1 ho => by rw [ho 0 (by omega), eso]
  refine XC.block [34] 60 ?_
  refine And.intro v6 ?_
  refine cl_sort (N := mFa M 6) h6.2 (hM.1 6 (by decide)) (fun J1 D1 ho => ?_)
  exact And.intro v0 (c34 J1 D1 _ (e0 J1 ho))
theorem clMd_b.agS (h : clMd_b M I L F) (a : clSJ I J) (g : clSG F G) : clMd_b M J L G := (h.fl (fun b k hb => g b k (by omega))).ag (fun b k hb => a b k (by omega) (by omega) (by omega) (by omega))
theorem cl_say_b (hM : clMd_b M I L F) (hm : mGd M) {S : pNs} (hS : clNs M S I F) (hy : nY S + 17 < 2 ^ 31) {a : Int32} {n : Nat} (n1 : 1 ≤ n) (n16 : n ≤ 16) (ha : a = nI n)
    (hno : nS S = 0 → Q (some (.int (-3))) (shG (clXX (some 51) s0) (md2 T), I, L, F))
    (hok : 0 < nS S → ∀ J G, clSJ I J → clSG F G → clNs M (pSy M n 1 S).2 J G → Q (some (.int (nI (pSy M n 1 S).1))) (shG (clXX (some 51) s0) (md2 T), J, L, G)) : XM xE0 (d + 6) 19 [.ref 0, .int a] (shG (clXX (some 51) s0) (md2 T), I, L, F) Q := by
  have c47 : ∀ J G i, (∀ x, x = nI i → Q (some (.int x)) (shG (clXX (some 51) s0) (md2 T), J, L, G)) → ∀ x, x = nI i → XC xE0 (d + 6) xM_19 (27, [some (.ref 0), some (.int a), some (.int x), some (.int 0)], [], (shG (clXX (some 51) s0) (md2 T), J, L, G)) Q := by
    intro J G i q x hx
    refine XC.block [27] 60 ?_
    exact And.intro (fun _ => ⟨trivial, q x hx⟩) (fun w => absurd (show (0 : Int32) = 0 from rfl) w)
  have loop : 0 < nS S → ∀ (u i : Nat), i + u = n + 1 → 1 ≤ i → ∀ S1, pSy M u i S1 = pSy M n 1 S → nY S1 + u < 2 ^ 31 → 0 < nS S1 → ∀ J G, clSJ I J → clSG F G → clNs M S1 J G → ∀ x, x = nI (i - 1) → XC xE0 (d + 6) xM_19 (27, [some (.ref 0), some (.int a), some (.int x), some (.int 1)], [], (shG (clXX (some 51) s0) (md2 T), J, L, G)) Q := by
    intro s1 u
    induction u with
    | zero =>
      intro i hi i1 S1 hE hyy hs1 J G DJ DG N x hx
      have c : Q (some (.int x)) (shG (clXX (some 51) s0) (md2 T), J, L, G) := by
        have f := hok s1 J G DJ DG
        rw [← hE] at f
        have f := f N
        rw [hx]
        exact f
      have ge : a ≤ x := by rw [ha, hx]; exact nI_le (by omega) (by omega)
      refine XC.block [27] 60 ?_
      refine And.intro (fun w => absurd (show (1 : Int32) = 0 from w) (by decide)) (fun _ => ?_)
      exact And.intro (fun _ => ⟨trivial, c⟩) (fun z => absurd ge z)
    | succ u ih =>
      intro i hi i1 S1 hE hyy hs1 J G DJ DG N x hx
      have lt : ¬ a ≤ x := by rw [ha, hx]; exact nI_ge (by omega) (by omega)
      have x1 : x + 1 = nI i := by rw [hx, nI_1]; congr 1; omega
      have x1' : x + 1 = nI (i + 1 - 1) := x1
      have GM : clMd_b M J L G := hM.agS DJ DG
      have stop : (pSo (nLo S1) (mFa M 6) 0 = mFa M 8 ∨ nS S1 = 60) → ∀ J2, clSJ J J2 → clNs M (pTel S1 (pSo (nLo S1) (mFa M 6) 0)) J2 G → XC xE0 (d + 6) xM_19 (27, [some (.ref 0), some (.int a), some (.int (x + 1)), some (.int 0)], [], (shG (clXX (some 51) s0) (md2 T), J2, L, G)) Q := fun z J2 D2 N2 => by
        have e : pSy M n 1 S = (i, pTel S1 (pSo (nLo S1) (mFa M 6) 0)) := hE.symm.trans (if_pos z)
        have f := hok s1 J2 G (fun b k h1 h2 h3 h4 => (D2 b k h1 h2 h3 h4).trans (DJ b k h1 h2 h3 h4)) DG
        rw [e] at f
        have f := f N2
        exact c47 J2 G i (fun y hy => by rw [hy]; exact f) _ x1
      have go : ¬ (pSo (nLo S1) (mFa M 6) 0 = mFa M 8 ∨ nS S1 = 60) → ∀ J2 G2, clSJ J J2 → clSG G G2 → clNs M (pStp M (pTel S1 (pSo (nLo S1) (mFa M 6) 0)) (pSo (nLo S1) (mFa M 6) 0)) J2 G2 → XC xE0 (d + 6) xM_19 (27, [some (.ref 0), some (.int a), some (.int (x + 1)), some (.int 1)], [], (shG (clXX (some 51) s0) (md2 T), J2, L, G2)) Q := fun z J2 G2 D2 E2 N2 => by
        have e : pSy M u (i + 1) (pStp M (pTel S1 (pSo (nLo S1) (mFa M 6) 0)) (pSo (nLo S1) (mFa M 6) 0)) = pSy M n 1 S := (if_neg z).symm.trans hE
        exact ih (i + 1) (by omega) (by omega) _ e (show nY S1 + 1 + u < 2 ^ 31 by omega) (show 0 < nS S1 + 1 by omega) J2 G2 (fun b k h1 h2 h3 h4 => (D2 b k h1 h2 h3 h4).trans (DJ b k h1 h2 h3 h4)) (fun b k hb => (E2 b k hb).trans (DG b k hb)) N2 _ x1'
      refine XC.block [27] 60 ?_
      refine And.intro (fun w => absurd (show (1 : Int32) = 0 from w) (by decide)) (fun _ => ?_)
      refine And.intro (fun z => absurd z lt) (fun _ => ?_)
      exact cl_sayOne_b GM hm N hs1 (by omega) (fun z J2 D2 N2 => stop z J2 D2 N2) (fun z J2 G2 D2 E2 N2 => go z J2 G2 D2 E2 N2)
  have r1 : ¬ a < 1 := by rw [ha, show (1 : Int32) = nI 1 from rfl, nI_ltI (by omega) (by decide)]; omega
  have r2 : a ≤ 16 := by rw [ha, show (16 : Int32) = nI 16 from rfl, nI_leI (by omega) (by decide)]; exact n16
  refine cl_say13 r1 r2 ?_
  refine XC.block [27] 60 ?_
  refine cl_noLog_b hS.2.1 hS.1 (fun z => ?_) (fun s1 => ?_)
  · exact And.intro (fun w => absurd (show (1 : Int32) = 0 from w) (by decide)) (fun _ => ⟨trivial, hno z⟩)
  · exact And.intro (fun _ => loop s1 n 1 (by omega) (Nat.le_refl _) S rfl (by omega) s1 I F (fun _ _ _ _ _ _ => rfl) (fun _ _ _ => rfl) hS _ rfl) (fun w => absurd (show (0 : Int32) = 0 from rfl) w)
end CAD_b
