/-! the class on paper: takeWeights, takeWords -/
theorem nI_p1 {a : Nat} (h : 1 ≤ a) : nI a - 1 = nI (a - 1) := by
  obtain ⟨c, rfl⟩ : ∃ c, a = c + 1 := ⟨a - 1, by omega⟩
  rw [← nI_1, Nat.add_sub_cancel, Int32.add_sub_cancel]
section CLT_a
variable {X : List (Option Nat)} {T : List xS} {f : Nat → Nat} {n b t k : Nat} {I J : Nat → Nat → Int32} {L : Nat → Nat → Int64} {F G : Nat → Nat → UInt32} {d : Nat} {Q : xP}
def clSt_a (I I' : Nat → Nat → Int32) : Prop := ∀ b k, b ≠ 46 → I' b k = I b k
def clGw_a (F F' : Nat → Nat → UInt32) : Prop := ∀ b k, b ≠ 50 → F' b k = F b k
theorem clU.agS_a (h : clU f n b t I) (a : clSt_a I J) : clU f n b t J := by
  refine ⟨(a 5 10 (by decide)).trans h.1, h.2.1, fun j hj => ?_⟩
  obtain ⟨h1, h2, h3, h4, h5⟩ := h.2.2 j hj
  exact ⟨⟨(a 9 j (by decide)).trans h1.1, h1.2⟩, ⟨(a 10 j (by decide)).trans h2.1, h2.2⟩, ⟨(a 11 j (by decide)).trans h3.1, h3.2⟩, ⟨(a 12 j (by decide)).trans h4.1, h4.2⟩, (a 13 j (by decide)).trans h5.1, h5.2⟩
theorem clF.agS_a (h : clF f n I) (a : clSt_a I J) : clF f n J := ⟨fun k hk => by rw [a 2 k (by decide)]; exact h.1 k hk, (a 1 1 (by decide)).trans h.2⟩
theorem clCR_a.agS (h : clCR_a f n b t I) (a : clSt_a I J) : clCR_a f n b t J := ⟨(a 45 5 (by decide)).trans h.1, fun i hi => ⟨(a 47 i (by decide)).trans (h.2 i hi).1, (a 48 i (by decide)).trans (h.2 i hi).2.1, (h.2 i hi).2.2⟩⟩
def clWs_a (f : Nat → Nat) (n b B : Nat) (J : Nat → Nat → Int32) (G : Nat → Nat → UInt32) (i : Nat) : Prop := J 46 i = nI (sBg f n b i) ∧ ∀ l, l < sCo f n b i * sRo f n b i → G 50 (sBg f n b i + l) = clWg f n b B i l
theorem cl_takeWeights_a (hG : rfG f n) (hF : clF f n I) (hU : clU f n b t I) (hC : clCR_a f n b t I) {A B : Nat} (hB : B ≤ 1500) (hpl : ∀ i, i < t → sPl f n b B A i) {bb : Int32} (hbb : bb = nI B)
    (hok : (∀ i, i < t → clWt f n b B i) → ∀ J' G', clSt_a I J' → clGw_a F G' → (∀ i, i < t → clWs_a f n b B J' G' i) → Q (some (.int 1)) (shG X (md1 T), J', L, G'))
    (hbad : ¬ (∀ i, i < t → clWt f n b B i) → ∀ J' G', clSt_a I J' → clGw_a F G' → Q (some (.int 0)) (shG X (md1 T), J', L, G')) : XM xE0 (d + 4) 107 [.ref 14, .ref 45, .int bb] (shG X (md1 T), I, L, F) Q := by
  have hn := hG.2
  have ht := hU.2.1
  have h8 : ∀ i, i < t → 0 < sPk f n b i → sCo f n b i % 8 = 0 := fun i hi => (hU.2.2 i hi).2.2.2.1.2.2
  have hle := sBg_le hn hpl h8
  have loop : ∀ (u i : Nat), i + u = t → ∀ J G, clSt_a I J → clGw_a F G → (∀ l, l < i → clWs_a f n b B J G l) → (∀ l, l < i → clWt f n b B l) → ∀ s x, s = nI (sBg f n b i) → x = nI i → XC xE0 (d + 4) xM_107 (5, [some (.ref 14), some (.ref 45), some (.int bb), some (.int s), some (.int x)], [], (shG X (md1 T), J, L, G)) Q := by
    intro u
    induction u with
    | zero =>
      intro i hi J G DJ DG hv hw s x hs hx
      have : i = t := by omega
      subst this
      have e5 : J 45 5 = nI i := (DJ 45 5 (by decide)).trans hC.1
      refine XC.block [5] 60 ?_
      exact And.intro (fun _ => ⟨(show (1 : Int32) &&& 1 = 1 by decide), hok hw J G DJ DG hv⟩) (fun z => absurd (show J 45 5 ≤ x by rw [e5, hx]; exact nI_le (by omega) (by omega)) z)
    | succ u ih =>
      intro i hi J G DJ DG hv hw s x hs hx
      have it : i < t := by omega
      have e5 : J 45 5 = nI t := (DJ 45 5 (by decide)).trans hC.1
      have ek : x.toNatClampNeg = i := by rw [hx, nI_clamp (by omega)]
      have vin : vp_in x 24 := rf_in hx (by omega) (by decide)
      have i1 : i + 1 + u = t := by omega
      have hx1 : x + 1 = nI (i + 1) := by rw [hx, nI_1]
      have DJ2 : clSt_a I (x2 J 46 x.toNatClampNeg s) := fun b k hb => (x2_o _ _ (fun e => hb e.1)).trans (DJ b k hb)
      have est : x2 J 46 x.toNatClampNeg s 46 i = nI (sBg f n b i) := by rw [ek, x2_same]; exact hs
      have hle2 : sBg f n b i + sCo f n b i * sRo f n b i ≤ 1866 := hle (i + 1) (by omega)
      have hp := (hpl i it).1.2
      have eof : J 13 x.toNatClampNeg = nI (sOf f n b i) := by rw [ek, DJ 13 i (by decide)]; exact (hU.2.2 i it).2.2.2.2.1
      have epp : bb + J 13 x.toNatClampNeg = nI (B + sOf f n b i) := by rw [eof, hbb, nI_add]
      have es : s + J 47 x.toNatClampNeg * J 48 x.toNatClampNeg = nI (sBg f n b (i + 1)) := by
        rw [ek, DJ 47 i (by decide), DJ 48 i (by decide), (hC.2 i it).1, (hC.2 i it).2.1, hs, nI_mul, nI_add]; rfl
      have hv2 : ∀ G', clG_a (sBg f n b i) (sCo f n b i * sRo f n b i) G G' → (∀ l, l < sCo f n b i * sRo f n b i → G' 50 (sBg f n b i + l) = clWg f n b B i l) → ∀ l, l < i + 1 → clWs_a f n b B (x2 J 46 x.toNatClampNeg s) G' l := by
        intro G' a hv' l hl
        rcases Nat.lt_or_ge l i with y | y
        · have mono : ∀ m, l + 1 + m ≤ i → sBg f n b (l + 1) ≤ sBg f n b (l + 1 + m) := by
            intro m
            induction m with
            | zero => intro _; exact Nat.le_refl _
            | succ m ihm => intro hm; exact Nat.le_trans (ihm (by omega)) (Nat.le_add_right _ _)
          have mm := mono (i - (l + 1)) (by omega)
          rw [show l + 1 + (i - (l + 1)) = i by omega] at mm
          have mm : sBg f n b l + sCo f n b l * sRo f n b l ≤ sBg f n b i := mm
          refine ⟨?_, fun j hj => ?_⟩
          · rw [ek, x2_o _ _ (by omega)]; exact (hv l y).1
          · rw [a 50 (sBg f n b l + j) (by omega)]; exact (hv l y).2 j hj
        · have : l = i := by omega
          subst this
          exact ⟨est, hv'⟩
      have hw2 : clWt f n b B i → ∀ l, l < i + 1 → clWt f n b B l := by
        intro h l hl
        rcases Nat.lt_or_ge l i with y | y
        · exact hw l y
        · have : l = i := by omega
          subst this
          exact h
      have DG2 : ∀ G', clG_a (sBg f n b i) (sCo f n b i * sRo f n b i) G G' → clGw_a F G' := fun G' a b k hb => (a b k (fun e => hb e.1)).trans (DG b k hb)
      refine XC.block [5] 60 ?_
      refine And.intro (fun z => absurd (show J 45 5 ≤ x from z) (by rw [e5, hx]; exact nI_ge (by omega) (by omega))) (fun _ => ?_)
      refine And.intro vin ?_
      refine And.intro vin ?_
      refine cl_unpack_a (t := t) hG (hF.agS_a DJ2) (hU.agS_a DJ2) (hC.agS DJ2) it est hle2 hp hx epp (fun w G' a hv' => ?_) (fun w G' a => ?_)
      · refine And.intro (fun _ => ?_) (fun z => absurd (show ¬ (1 : Int32) = 0 by decide) z)
        refine And.intro vin ?_
        refine And.intro vin ?_
        exact ih (i + 1) i1 _ G' DJ2 (DG2 G' a) (hv2 G' a hv') (hw2 w) _ _ es hx1
      · exact And.intro (fun z => absurd (show (0 : Int32) = 0 from rfl) z) (fun _ => ⟨(show (0 : Int32) &&& 1 = 0 by decide), hbad (fun q => w (q i it)) _ G' DJ2 (DG2 G' a)⟩)
  refine XC.block [5] 60 ?_
  exact loop t 0 (Nat.zero_add _) I F (fun _ _ _ => rfl) (fun _ _ _ => rfl) (fun l hl => absurd hl (Nat.not_lt_zero _)) (fun l hl => absurd hl (Nat.not_lt_zero _)) _ _ rfl rfl
/-- nothing changes but the words and three facts -/
def clWW_a (I I' : Nat → Nat → Int32) : Prop := ∀ b k, ¬ (b = 39 ∧ (k = 6 ∨ k = 7 ∨ k = 8)) → ¬ (b = 40 ∧ (k = 4 ∨ k = 5)) → b ≠ 42 → b ≠ 43 → b ≠ 44 → I' b k = I b k
def clWd_a (f : Nat → Nat) (p q r : Nat) (J : Nat → Nat → Int32) (L : Nat → Nat → Int64) : Prop := J 39 6 = nI (f (p + 1)) ∧ J 39 7 = nI (f (q + 1)) ∧ J 39 8 = nI (sNum f r 4) ∧ J 40 4 = nI (f (p + 1)) ∧ J 40 5 = nI (f (q + 1)) ∧ (∀ i, i < f (p + 1) → L 41 i = lN (sTw f (sTp f p i))) ∧ ∀ i, i < f (q + 1) → clMg_a f (sTp f p) (f (p + 1)) (q + 2 + 10 * i) J i
theorem cl_takeWords_a (hG : rfG f n) (hF : clF f n I) {p q r e e' : Nat} (h6 : I 15 6 = nI p) (hA : sA1 f n p = .inr e) (hT : f (p + 1) = 0 ∨ f p = 2) (h7 : I 15 7 = nI q) (hA' : sA1 f n q = .inr e') (hT' : f (q + 1) = 0 ∨ (f q = 3 ∧ sTf f (f (q + 1)) (q + 2) = true)) (h8 : I 15 8 = nI r) (hr : r + 4 ≤ n)
    (hok : sTx f p → sMg f (sTp f p) (f (p + 1)) q → sNum f r 4 < f (p + 1) → ∀ J' L', clWW_a I J' → (∀ b k, b ≠ 41 → L' b k = L b k) → clWd_a f p q r J' L' → Q (some (.int 1)) (shG X (md1 T), J', L', F))
    (hbad : ¬ (sTx f p ∧ sMg f (sTp f p) (f (p + 1)) q ∧ sNum f r 4 < f (p + 1)) → ∀ J' L', clWW_a I J' → (∀ b k, b ≠ 41 → L' b k = L b k) → Q (some (.int 0)) (shG X (md1 T), J', L', F)) : XM xE0 (d + 5) 98 [.ref 14, .ref 38] (shG X (md1 T), I, L, F) Q := by
  have bad : ∀ J' L', clWW_a I J' → (∀ b k, b ≠ 41 → L' b k = L b k) → ¬ (sTx f p ∧ sMg f (sTp f p) (f (p + 1)) q ∧ sNum f r 4 < f (p + 1)) → XC xE0 (d + 5) xM_98 (40, [some (.ref 14), some (.ref 38)], [], (shG X (md1 T), J', L', F)) Q := by
    intro J' L' a1 a2 z
    refine XC.block [] 60 ?_
    exact ⟨(show (0 : Int32) &&& 1 = 0 by decide), hbad z J' L' a1 a2⟩
  have fr : ∀ J', (∀ b k, ¬ (b = 40 ∧ k = 4) → ¬ (b = 39 ∧ k = 6) → J' b k = I b k) → clWW_a I J' := fun J' a b k h1 h2 _ _ _ => a b k (fun e => h2 ⟨e.1, Or.inl e.2⟩) (fun e => h1 ⟨e.1, Or.inl e.2⟩)
  have frF : ∀ J', clWW_a I J' → clF f n J' := fun J' a => ⟨fun k hk => by rw [a 2 k (by omega) (by omega) (by decide) (by decide) (by decide)]; exact hF.1 k hk, (a 1 1 (by omega) (by omega) (by decide) (by decide) (by decide)).trans hF.2⟩
  have c16 : ∀ J1 L1, clWW_a I J1 → (∀ b k, b ≠ 41 → L1 b k = L b k) → sTx f p → sMg f (sTp f p) (f (p + 1)) q → J1 39 6 = nI (f (p + 1)) → J1 39 7 = nI (f (q + 1)) → J1 40 4 = nI (f (p + 1)) → J1 40 5 = nI (f (q + 1)) → (∀ i, i < f (p + 1) → L1 41 i = lN (sTw f (sTp f p i))) → (∀ i, i < f (q + 1) → clMg_a f (sTp f p) (f (p + 1)) (q + 2 + 10 * i) J1 i) → XC xE0 (d + 5) xM_98 (16, [some (.ref 14), some (.ref 38)], [], (shG X (md1 T), J1, L1, F)) Q := by
    intro J1 L1 a1 aL t1 t2 q6 q7 w4 w5 hL hM
    have e6 : J1 39 6 - 1 = nI (f (p + 1) - 1) := by rw [q6, nI_p1 (by have := t1.2.1; omega)]
    have hh : f (p + 1) - 1 < 2 ^ 31 := by have := t1.2.2.1; omega
    have e8 : J1 15 8 = nI r := (a1 15 8 (by omega) (by omega) (by decide) (by decide) (by decide)).trans h8
    have hlt : sNum f r 4 ≤ f (p + 1) - 1 ↔ sNum f r 4 < f (p + 1) := by have := t1.2.1; omega
    refine XC.block [40] 60 ?_
    refine And.intro (rf_in (j := 6) rfl (by decide) (by decide)) ?_
    refine cl_tn_a (frF J1 a1) hG (q := 8) (lo := 0) (hi := f (p + 1) - 1) e8 hr (by decide) (by decide) hh rfl rfl e6 (fun y1 y2 => ?_) (fun y => ?_)
    · refine And.intro (fun z => absurd (show (1 : Int32) = 0 from z) (by decide)) (fun _ => ⟨(show (1 : Int32) &&& 1 = 1 by decide), ?_⟩)
      refine hok t1 t2 (hlt.mp y2) _ L1 (fun b k k1 k2 k3 k4 k5 => (x2_o _ _ (fun e => k1 ⟨e.1, Or.inr (Or.inr e.2)⟩)).trans (a1 b k k1 k2 k3 k4 k5)) aL ⟨?_, ?_, x2_same _ _ _ _, ?_, ?_, hL, ?_⟩
      · rw [x2_o _ _ (by omega)]; exact q6
      · rw [x2_o _ _ (by omega)]; exact q7
      · rw [x2_o _ _ (by omega)]; exact w4
      · rw [x2_o _ _ (by omega)]; exact w5
      · intro i hi
        obtain ⟨m1, m2, m3⟩ := hM i hi
        exact ⟨(x2_o _ _ (by omega)).trans m1, (x2_o _ _ (by omega)).trans m2, (x2_o _ _ (by omega)).trans m3⟩
    · exact And.intro (fun _ => bad J1 L1 a1 aL (fun w => y ⟨Nat.zero_le _, hlt.mpr w.2.2⟩)) (fun z => absurd (show (0 : Int32) = 0 from rfl) z)
  have c8 : ∀ J1 L1, clWW_a I J1 → (∀ b k, b ≠ 41 → L1 b k = L b k) → sTx f p → J1 39 6 = nI (f (p + 1)) → J1 40 4 = nI (f (p + 1)) → (∀ i, i < f (p + 1) → L1 41 i = lN (sTw f (sTp f p i))) → XC xE0 (d + 5) xM_98 (8, [some (.ref 14), some (.ref 38)], [], (shG X (md1 T), J1, L1, F)) Q := by
    intro J1 L1 a1 aL t1 q6 w4 hL
    have e7 : J1 15 7 = nI q := (a1 15 7 (by omega) (by omega) (by decide) (by decide) (by decide)).trans h7
    have hL2 : ∀ i, i < f (p + 1) → L1 41 i = lN (sTw f (sTp f p i)) ∧ 1 ≤ f (sTp f p i) ∧ f (sTp f p i) ≤ 4 := fun i hi => ⟨hL i hi, (t1.2.2.2 i hi).1, (t1.2.2.2 i hi).2.1⟩
    refine XC.block [16, 40] 60 ?_
    refine cl_takeMerges_a (K := sTp f p) (m := f (p + 1)) (frF J1 a1) hG e7 hA' hT' t1.2.2.1 w4 hL2 (fun g J' a' q7 w5 hM => ?_) (fun g J' a' => ?_)
    · refine And.intro (fun z => absurd (show (1 : Int32) = 0 from z) (by decide)) (fun _ => ?_)
      exact c16 J' L1 (fun b k k1 k2 k3 k4 k5 => (a' b k (fun e => k2 ⟨e.1, Or.inr e.2⟩) (fun e => k1 ⟨e.1, Or.inr (Or.inl e.2)⟩) k3 k4 k5).trans (a1 b k k1 k2 k3 k4 k5)) aL t1 g ((a' 39 6 (by omega) (by omega) (by decide) (by decide) (by decide)).trans q6) q7 ((a' 40 4 (by omega) (by omega) (by decide) (by decide) (by decide)).trans w4) w5 hL hM
    · exact And.intro (fun _ => bad J' L1 (fun b k k1 k2 k3 k4 k5 => (a' b k (fun e => k2 ⟨e.1, Or.inr e.2⟩) (fun e => k1 ⟨e.1, Or.inr (Or.inl e.2)⟩) k3 k4 k5).trans (a1 b k k1 k2 k3 k4 k5)) aL (fun w => g w.2.1)) (fun z => absurd (show (0 : Int32) = 0 from rfl) z)
  refine XC.block [8, 40] 60 ?_
  refine cl_takeTokens_a hF hG h6 hA hT (fun t1 J' L' a aL q6 w4 hL => ?_) (fun t1 J' L' a aL => ?_)
  · exact And.intro (fun z => absurd (show (1 : Int32) = 0 from z) (by decide)) (fun _ => c8 J' L' (fr J' a) aL t1 q6 w4 hL)
  · exact And.intro (fun _ => bad J' L' (fr J' a) aL (fun w => t1 w.1)) (fun z => absurd (show (0 : Int32) = 0 from rfl) z)
end CLT_a
section CLT_b
variable {X : List (Option Nat)} {T : List xS} {f : Nat → Nat} {n b t k : Nat} {I J : Nat → Nat → Int32} {L : Nat → Nat → Int64} {F G : Nat → Nat → UInt32} {d : Nat} {Q : xP}
def clSt_b (I I' : Nat → Nat → Int32) : Prop := ∀ b k, b ≠ 59 → I' b k = I b k
def clGw_b (F F' : Nat → Nat → UInt32) : Prop := ∀ b k, b ≠ 63 → F' b k = F b k
theorem clU.agS_b (h : clU f n b t I) (a : clSt_b I J) : clU f n b t J := by
  refine ⟨(a 5 10 (by decide)).trans h.1, h.2.1, fun j hj => ?_⟩
  obtain ⟨h1, h2, h3, h4, h5⟩ := h.2.2 j hj
  exact ⟨⟨(a 9 j (by decide)).trans h1.1, h1.2⟩, ⟨(a 10 j (by decide)).trans h2.1, h2.2⟩, ⟨(a 11 j (by decide)).trans h3.1, h3.2⟩, ⟨(a 12 j (by decide)).trans h4.1, h4.2⟩, (a 13 j (by decide)).trans h5.1, h5.2⟩
theorem clF.agS_b (h : clF f n I) (a : clSt_b I J) : clF f n J := ⟨fun k hk => by rw [a 2 k (by decide)]; exact h.1 k hk, (a 1 1 (by decide)).trans h.2⟩
theorem clCR_b.agS (h : clCR_b f n b t I) (a : clSt_b I J) : clCR_b f n b t J := ⟨(a 58 5 (by decide)).trans h.1, fun i hi => ⟨(a 60 i (by decide)).trans (h.2 i hi).1, (a 61 i (by decide)).trans (h.2 i hi).2.1, (h.2 i hi).2.2⟩⟩
def clWs_b (f : Nat → Nat) (n b B : Nat) (J : Nat → Nat → Int32) (G : Nat → Nat → UInt32) (i : Nat) : Prop := J 59 i = nI (sBg f n b i) ∧ ∀ l, l < sCo f n b i * sRo f n b i → G 63 (sBg f n b i + l) = clWg f n b B i l
theorem cl_takeWeights_b (hG : rfG f n) (hF : clF f n I) (hU : clU f n b t I) (hC : clCR_b f n b t I) {A B : Nat} (hB : B ≤ 1500) (hpl : ∀ i, i < t → sPl f n b B A i) {bb : Int32} (hbb : bb = nI B)
    (hok : (∀ i, i < t → clWt f n b B i) → ∀ J' G', clSt_b I J' → clGw_b F G' → (∀ i, i < t → clWs_b f n b B J' G' i) → Q (some (.int 1)) (shG X (md2 T), J', L, G'))
    (hbad : ¬ (∀ i, i < t → clWt f n b B i) → ∀ J' G', clSt_b I J' → clGw_b F G' → Q (some (.int 0)) (shG X (md2 T), J', L, G')) : XM xE0 (d + 4) 107 [.ref 14, .ref 58, .int bb] (shG X (md2 T), I, L, F) Q := by
  have hn := hG.2
  have ht := hU.2.1
  have h8 : ∀ i, i < t → 0 < sPk f n b i → sCo f n b i % 8 = 0 := fun i hi => (hU.2.2 i hi).2.2.2.1.2.2
  have hle := sBg_le hn hpl h8
  have loop : ∀ (u i : Nat), i + u = t → ∀ J G, clSt_b I J → clGw_b F G → (∀ l, l < i → clWs_b f n b B J G l) → (∀ l, l < i → clWt f n b B l) → ∀ s x, s = nI (sBg f n b i) → x = nI i → XC xE0 (d + 4) xM_107 (5, [some (.ref 14), some (.ref 58), some (.int bb), some (.int s), some (.int x)], [], (shG X (md2 T), J, L, G)) Q := by
    intro u
    induction u with
    | zero =>
      intro i hi J G DJ DG hv hw s x hs hx
      have : i = t := by omega
      subst this
      have e5 : J 58 5 = nI i := (DJ 58 5 (by decide)).trans hC.1
      refine XC.block [5] 60 ?_
      exact And.intro (fun _ => ⟨(show (1 : Int32) &&& 1 = 1 by decide), hok hw J G DJ DG hv⟩) (fun z => absurd (show J 58 5 ≤ x by rw [e5, hx]; exact nI_le (by omega) (by omega)) z)
    | succ u ih =>
      intro i hi J G DJ DG hv hw s x hs hx
      have it : i < t := by omega
      have e5 : J 58 5 = nI t := (DJ 58 5 (by decide)).trans hC.1
      have ek : x.toNatClampNeg = i := by rw [hx, nI_clamp (by omega)]
      have vin : vp_in x 24 := rf_in hx (by omega) (by decide)
      have i1 : i + 1 + u = t := by omega
      have hx1 : x + 1 = nI (i + 1) := by rw [hx, nI_1]
      have DJ2 : clSt_b I (x2 J 59 x.toNatClampNeg s) := fun b k hb => (x2_o _ _ (fun e => hb e.1)).trans (DJ b k hb)
      have est : x2 J 59 x.toNatClampNeg s 59 i = nI (sBg f n b i) := by rw [ek, x2_same]; exact hs
      have hle2 : sBg f n b i + sCo f n b i * sRo f n b i ≤ 1866 := hle (i + 1) (by omega)
      have hp := (hpl i it).1.2
      have eof : J 13 x.toNatClampNeg = nI (sOf f n b i) := by rw [ek, DJ 13 i (by decide)]; exact (hU.2.2 i it).2.2.2.2.1
      have epp : bb + J 13 x.toNatClampNeg = nI (B + sOf f n b i) := by rw [eof, hbb, nI_add]
      have es : s + J 60 x.toNatClampNeg * J 61 x.toNatClampNeg = nI (sBg f n b (i + 1)) := by
        rw [ek, DJ 60 i (by decide), DJ 61 i (by decide), (hC.2 i it).1, (hC.2 i it).2.1, hs, nI_mul, nI_add]; rfl
      have hv2 : ∀ G', clG_b (sBg f n b i) (sCo f n b i * sRo f n b i) G G' → (∀ l, l < sCo f n b i * sRo f n b i → G' 63 (sBg f n b i + l) = clWg f n b B i l) → ∀ l, l < i + 1 → clWs_b f n b B (x2 J 59 x.toNatClampNeg s) G' l := by
        intro G' a hv' l hl
        rcases Nat.lt_or_ge l i with y | y
        · have mono : ∀ m, l + 1 + m ≤ i → sBg f n b (l + 1) ≤ sBg f n b (l + 1 + m) := by
            intro m
            induction m with
            | zero => intro _; exact Nat.le_refl _
            | succ m ihm => intro hm; exact Nat.le_trans (ihm (by omega)) (Nat.le_add_right _ _)
          have mm := mono (i - (l + 1)) (by omega)
          rw [show l + 1 + (i - (l + 1)) = i by omega] at mm
          have mm : sBg f n b l + sCo f n b l * sRo f n b l ≤ sBg f n b i := mm
          refine ⟨?_, fun j hj => ?_⟩
          · rw [ek, x2_o _ _ (by omega)]; exact (hv l y).1
          · rw [a 63 (sBg f n b l + j) (by omega)]; exact (hv l y).2 j hj
        · have : l = i := by omega
          subst this
          exact ⟨est, hv'⟩
      have hw2 : clWt f n b B i → ∀ l, l < i + 1 → clWt f n b B l := by
        intro h l hl
        rcases Nat.lt_or_ge l i with y | y
        · exact hw l y
        · have : l = i := by omega
          subst this
          exact h
      have DG2 : ∀ G', clG_b (sBg f n b i) (sCo f n b i * sRo f n b i) G G' → clGw_b F G' := fun G' a b k hb => (a b k (fun e => hb e.1)).trans (DG b k hb)
      refine XC.block [5] 60 ?_
      refine And.intro (fun z => absurd (show J 58 5 ≤ x from z) (by rw [e5, hx]; exact nI_ge (by omega) (by omega))) (fun _ => ?_)
      refine And.intro vin ?_
      refine And.intro vin ?_
      refine cl_unpack_b (t := t) hG (hF.agS_b DJ2) (hU.agS_b DJ2) (hC.agS DJ2) it est hle2 hp hx epp (fun w G' a hv' => ?_) (fun w G' a => ?_)
      · refine And.intro (fun _ => ?_) (fun z => absurd (show ¬ (1 : Int32) = 0 by decide) z)
        refine And.intro vin ?_
        refine And.intro vin ?_
        exact ih (i + 1) i1 _ G' DJ2 (DG2 G' a) (hv2 G' a hv') (hw2 w) _ _ es hx1
      · exact And.intro (fun z => absurd (show (0 : Int32) = 0 from rfl) z) (fun _ => ⟨(show (0 : Int32) &&& 1 = 0 by decide), hbad (fun q => w (q i it)) _ G' DJ2 (DG2 G' a)⟩)
  refine XC.block [5] 60 ?_
  exact loop t 0 (Nat.zero_add _) I F (fun _ _ _ => rfl) (fun _ _ _ => rfl) (fun l hl => absurd hl (Nat.not_lt_zero _)) (fun l hl => absurd hl (Nat.not_lt_zero _)) _ _ rfl rfl
/-- nothing changes but the words and three facts -/
def clWW_b (I I' : Nat → Nat → Int32) : Prop := ∀ b k, ¬ (b = 52 ∧ (k = 6 ∨ k = 7 ∨ k = 8)) → ¬ (b = 53 ∧ (k = 4 ∨ k = 5)) → b ≠ 55 → b ≠ 56 → b ≠ 57 → I' b k = I b k
def clWd_b (f : Nat → Nat) (p q r : Nat) (J : Nat → Nat → Int32) (L : Nat → Nat → Int64) : Prop := J 52 6 = nI (f (p + 1)) ∧ J 52 7 = nI (f (q + 1)) ∧ J 52 8 = nI (sNum f r 4) ∧ J 53 4 = nI (f (p + 1)) ∧ J 53 5 = nI (f (q + 1)) ∧ (∀ i, i < f (p + 1) → L 54 i = lN (sTw f (sTp f p i))) ∧ ∀ i, i < f (q + 1) → clMg_b f (sTp f p) (f (p + 1)) (q + 2 + 10 * i) J i
theorem cl_takeWords_b (hG : rfG f n) (hF : clF f n I) {p q r e e' : Nat} (h6 : I 15 6 = nI p) (hA : sA1 f n p = .inr e) (hT : f (p + 1) = 0 ∨ f p = 2) (h7 : I 15 7 = nI q) (hA' : sA1 f n q = .inr e') (hT' : f (q + 1) = 0 ∨ (f q = 3 ∧ sTf f (f (q + 1)) (q + 2) = true)) (h8 : I 15 8 = nI r) (hr : r + 4 ≤ n)
    (hok : sTx f p → sMg f (sTp f p) (f (p + 1)) q → sNum f r 4 < f (p + 1) → ∀ J' L', clWW_b I J' → (∀ b k, b ≠ 54 → L' b k = L b k) → clWd_b f p q r J' L' → Q (some (.int 1)) (shG X (md2 T), J', L', F))
    (hbad : ¬ (sTx f p ∧ sMg f (sTp f p) (f (p + 1)) q ∧ sNum f r 4 < f (p + 1)) → ∀ J' L', clWW_b I J' → (∀ b k, b ≠ 54 → L' b k = L b k) → Q (some (.int 0)) (shG X (md2 T), J', L', F)) : XM xE0 (d + 5) 98 [.ref 14, .ref 51] (shG X (md2 T), I, L, F) Q := by
  have bad : ∀ J' L', clWW_b I J' → (∀ b k, b ≠ 54 → L' b k = L b k) → ¬ (sTx f p ∧ sMg f (sTp f p) (f (p + 1)) q ∧ sNum f r 4 < f (p + 1)) → XC xE0 (d + 5) xM_98 (40, [some (.ref 14), some (.ref 51)], [], (shG X (md2 T), J', L', F)) Q := by
    intro J' L' a1 a2 z
    refine XC.block [] 60 ?_
    exact ⟨(show (0 : Int32) &&& 1 = 0 by decide), hbad z J' L' a1 a2⟩
  have fr : ∀ J', (∀ b k, ¬ (b = 53 ∧ k = 4) → ¬ (b = 52 ∧ k = 6) → J' b k = I b k) → clWW_b I J' := fun J' a b k h1 h2 _ _ _ => a b k (fun e => h2 ⟨e.1, Or.inl e.2⟩) (fun e => h1 ⟨e.1, Or.inl e.2⟩)
  have frF : ∀ J', clWW_b I J' → clF f n J' := fun J' a => ⟨fun k hk => by rw [a 2 k (by omega) (by omega) (by decide) (by decide) (by decide)]; exact hF.1 k hk, (a 1 1 (by omega) (by omega) (by decide) (by decide) (by decide)).trans hF.2⟩
  have c16 : ∀ J1 L1, clWW_b I J1 → (∀ b k, b ≠ 54 → L1 b k = L b k) → sTx f p → sMg f (sTp f p) (f (p + 1)) q → J1 52 6 = nI (f (p + 1)) → J1 52 7 = nI (f (q + 1)) → J1 53 4 = nI (f (p + 1)) → J1 53 5 = nI (f (q + 1)) → (∀ i, i < f (p + 1) → L1 54 i = lN (sTw f (sTp f p i))) → (∀ i, i < f (q + 1) → clMg_b f (sTp f p) (f (p + 1)) (q + 2 + 10 * i) J1 i) → XC xE0 (d + 5) xM_98 (16, [some (.ref 14), some (.ref 51)], [], (shG X (md2 T), J1, L1, F)) Q := by
    intro J1 L1 a1 aL t1 t2 q6 q7 w4 w5 hL hM
    have e6 : J1 52 6 - 1 = nI (f (p + 1) - 1) := by rw [q6, nI_p1 (by have := t1.2.1; omega)]
    have hh : f (p + 1) - 1 < 2 ^ 31 := by have := t1.2.2.1; omega
    have e8 : J1 15 8 = nI r := (a1 15 8 (by omega) (by omega) (by decide) (by decide) (by decide)).trans h8
    have hlt : sNum f r 4 ≤ f (p + 1) - 1 ↔ sNum f r 4 < f (p + 1) := by have := t1.2.1; omega
    refine XC.block [40] 60 ?_
    refine And.intro (rf_in (j := 6) rfl (by decide) (by decide)) ?_
    refine cl_tn_b (frF J1 a1) hG (q := 8) (lo := 0) (hi := f (p + 1) - 1) e8 hr (by decide) (by decide) hh rfl rfl e6 (fun y1 y2 => ?_) (fun y => ?_)
    · refine And.intro (fun z => absurd (show (1 : Int32) = 0 from z) (by decide)) (fun _ => ⟨(show (1 : Int32) &&& 1 = 1 by decide), ?_⟩)
      refine hok t1 t2 (hlt.mp y2) _ L1 (fun b k k1 k2 k3 k4 k5 => (x2_o _ _ (fun e => k1 ⟨e.1, Or.inr (Or.inr e.2)⟩)).trans (a1 b k k1 k2 k3 k4 k5)) aL ⟨?_, ?_, x2_same _ _ _ _, ?_, ?_, hL, ?_⟩
      · rw [x2_o _ _ (by omega)]; exact q6
      · rw [x2_o _ _ (by omega)]; exact q7
      · rw [x2_o _ _ (by omega)]; exact w4
      · rw [x2_o _ _ (by omega)]; exact w5
      · intro i hi
        obtain ⟨m1, m2, m3⟩ := hM i hi
        exact ⟨(x2_o _ _ (by omega)).trans m1, (x2_o _ _ (by omega)).trans m2, (x2_o _ _ (by omega)).trans m3⟩
    · exact And.intro (fun _ => bad J1 L1 a1 aL (fun w => y ⟨Nat.zero_le _, hlt.mpr w.2.2⟩)) (fun z => absurd (show (0 : Int32) = 0 from rfl) z)
  have c8 : ∀ J1 L1, clWW_b I J1 → (∀ b k, b ≠ 54 → L1 b k = L b k) → sTx f p → J1 52 6 = nI (f (p + 1)) → J1 53 4 = nI (f (p + 1)) → (∀ i, i < f (p + 1) → L1 54 i = lN (sTw f (sTp f p i))) → XC xE0 (d + 5) xM_98 (8, [some (.ref 14), some (.ref 51)], [], (shG X (md2 T), J1, L1, F)) Q := by
    intro J1 L1 a1 aL t1 q6 w4 hL
    have e7 : J1 15 7 = nI q := (a1 15 7 (by omega) (by omega) (by decide) (by decide) (by decide)).trans h7
    have hL2 : ∀ i, i < f (p + 1) → L1 54 i = lN (sTw f (sTp f p i)) ∧ 1 ≤ f (sTp f p i) ∧ f (sTp f p i) ≤ 4 := fun i hi => ⟨hL i hi, (t1.2.2.2 i hi).1, (t1.2.2.2 i hi).2.1⟩
    refine XC.block [16, 40] 60 ?_
    refine cl_takeMerges_b (K := sTp f p) (m := f (p + 1)) (frF J1 a1) hG e7 hA' hT' t1.2.2.1 w4 hL2 (fun g J' a' q7 w5 hM => ?_) (fun g J' a' => ?_)
    · refine And.intro (fun z => absurd (show (1 : Int32) = 0 from z) (by decide)) (fun _ => ?_)
      exact c16 J' L1 (fun b k k1 k2 k3 k4 k5 => (a' b k (fun e => k2 ⟨e.1, Or.inr e.2⟩) (fun e => k1 ⟨e.1, Or.inr (Or.inl e.2)⟩) k3 k4 k5).trans (a1 b k k1 k2 k3 k4 k5)) aL t1 g ((a' 52 6 (by omega) (by omega) (by decide) (by decide) (by decide)).trans q6) q7 ((a' 53 4 (by omega) (by omega) (by decide) (by decide) (by decide)).trans w4) w5 hL hM
    · exact And.intro (fun _ => bad J' L1 (fun b k k1 k2 k3 k4 k5 => (a' b k (fun e => k2 ⟨e.1, Or.inr e.2⟩) (fun e => k1 ⟨e.1, Or.inr (Or.inl e.2)⟩) k3 k4 k5).trans (a1 b k k1 k2 k3 k4 k5)) aL (fun w => g w.2.1)) (fun z => absurd (show (0 : Int32) = 0 from rfl) z)
  refine XC.block [8, 40] 60 ?_
  refine cl_takeTokens_b hF hG h6 hA hT (fun t1 J' L' a aL q6 w4 hL => ?_) (fun t1 J' L' a aL => ?_)
  · exact And.intro (fun z => absurd (show (1 : Int32) = 0 from z) (by decide)) (fun _ => c8 J' L' (fr J' a) aL t1 q6 w4 hL)
  · exact And.intro (fun _ => bad J' L' (fr J' a) aL (fun w => t1 w.1)) (fun z => absurd (show (0 : Int32) = 0 from rfl) z)
end CLT_b
