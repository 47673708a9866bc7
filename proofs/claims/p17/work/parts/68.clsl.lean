/-! the class on paper: takeTokens, takeMerges -/
section CLM_a
variable {X : List (Option Nat)} {T : List xS} {f : Nat → Nat} {n k : Nat} {I J : Nat → Nat → Int32} {L : Nat → Nat → Int64} {F : Nat → Nat → UInt32} {d : Nat} {Q : xP}
theorem cl_takeTokens_a (hF : clF f n I) (hG : rfG f n) {p e : Nat} (h6 : I 15 6 = nI p) (hA : sA1 f n p = .inr e) (hT : f (p + 1) = 0 ∨ f p = 2)
    (hok : sTx f p → ∀ J' L', (∀ b k, ¬ (b = 40 ∧ k = 4) → ¬ (b = 39 ∧ k = 6) → J' b k = I b k) → (∀ b k, b ≠ 41 → L' b k = L b k) → J' 39 6 = nI (f (p + 1)) → J' 40 4 = nI (f (p + 1)) → (∀ i, i < f (p + 1) → L' 41 i = lN (sTw f (sTp f p i))) → Q (some (.int 1)) (shG X (md1 T), J', L', F))
    (hbad : ¬ sTx f p → ∀ J' L', (∀ b k, ¬ (b = 40 ∧ k = 4) → ¬ (b = 39 ∧ k = 6) → J' b k = I b k) → (∀ b k, b ≠ 41 → L' b k = L b k) → Q (some (.int 0)) (shG X (md1 T), J', L', F)) : XM xE0 (d + 3) 99 [.ref 14, .ref 38] (shG X (md1 T), I, L, F) Q := by
  obtain ⟨u1, u2, u3, u4⟩ := sArr_un hA
  have hn := hG.2
  have b1 := hG.1 (p + 1)
  refine XC.block [30] 60 ?_
  refine And.intro (rf_in (j := 6) rfl (by decide) (by decide)) ?_
  refine cl_at hF hG (p := p + 1) (by omega) (show I 15 6 + 1 = nI (p + 1) by rw [h6, nI_1]) (fun _ v hv => ?_) (fun z => absurd z (by omega))
  refine And.intro (fun z => ⟨(show (0 : Int32) &&& 1 = 0 by decide), hbad (fun w => ?_) I L (fun _ _ _ _ => rfl) (fun _ _ _ => rfl)⟩) (fun z1 => ?_)
  · have z : v < 2 := z
    rw [hv, show (2 : Int32) = nI 2 from rfl, nI_ltI (by omega) (by omega)] at z
    have := w.2.1
    omega
  · have z1 : ¬ v < 2 := z1
    rw [hv, show (2 : Int32) = nI 2 from rfl, nI_ltI (by omega) (by omega)] at z1
    refine And.intro (fun z2 => ?_) (fun z => ⟨(show (0 : Int32) &&& 1 = 0 by decide), hbad (fun w => ?_) I L (fun _ _ _ _ => rfl) (fun _ _ _ => rfl)⟩)
    · have z2 : v ≤ 16 := z2
      rw [hv, show (16 : Int32) = nI 16 from rfl, nI_leI (by omega) (by omega)] at z2
      have h2 : f p = 2 := hT.resolve_left (by omega)
      refine XC.block [59] 60 ?_
      refine And.intro (rf_in (j := 6) rfl (by decide) (by decide)) ?_
      refine And.intro (rf_in (j := 6) rfl (by decide) (by decide)) ?_
      have go : ∀ hh, hh = nI (p + 2) → XC xE0 (d + 3) xM_99 (59, [some (.ref 14), some (.ref 38), some (.int v), some (.int hh), some (.int 0), none], [], (shG X (md1 T), x2 (x2 I 39 6 v) 40 4 0, L, F)) Q := by
        intro hh hhh
        have D : ∀ J' : Nat → Nat → Int32, (∀ b k, ¬ (b = 40 ∧ k = 4) → J' b k = x2 (x2 I 39 6 v) 40 4 0 b k) → ∀ b k, ¬ (b = 40 ∧ k = 4) → ¬ (b = 39 ∧ k = 6) → J' b k = I b k := fun J' h b k h1 h2 => by
          rw [h b k h1, x2_o _ _ h1, x2_o _ _ h2]
        have F2 : clF f n (x2 (x2 I 39 6 v) 40 4 0) := (hF.st (by decide) (by decide)).st (by decide) (by decide)
        refine cl_tt59_a (I := x2 (x2 I 39 6 v) 40 4 0) (L := L) hG (p := p) (m := f (p + 1)) (e := e) z2 F2 hv (fun hall J' L' DJ DL g4 gL => ?_) (fun hex J' L' DJ DL => ?_) (f (p + 1)) 0 (by omega) _ L (fun _ _ _ => rfl) (fun _ _ _ => rfl) rfl (fun j hj => absurd hj (by omega)) (fun j hj => absurd hj (by omega)) ?_ _ _ _ hhh rfl
        · refine hok ⟨h2, by omega, z2, hall⟩ J' L' (D J' DJ) DL ?_ g4 gL
          rw [DJ 39 6 (by omega), x2_o _ _ (by omega), x2_same]; exact hv
        · refine hbad (fun w => ?_) J' L' (D J' DJ) DL
          obtain ⟨i, hi, y⟩ := hex
          exact y (w.2.2.2 i hi)
        · rw [h2] at u4
          exact u4
      exact go _ (show I 15 6 + 2 = nI (p + 2) by rw [h6, show (2 : Int32) = nI 2 from rfl, nI_add])
    · have z : ¬ v ≤ 16 := z
      rw [hv, show (16 : Int32) = nI 16 from rfl, nI_leI (by omega) (by omega)] at z
      have := w.2.2.1
      omega
theorem cl_addMerge_a (hG : rfG f n) {K : Nat → Nat} {c g s t : Nat} (hc : c ≤ 16) (hg : g < 12) (h4 : I 40 4 = nI c) (h5 : I 40 5 = nI g) (hw : ∀ i, i < c → L 41 i = lN (sTw f (K i)) ∧ 1 ≤ f (K i) ∧ f (K i) ≤ 4) (hs : s < 2 ^ 32) (ht : t < 2 ^ 32) {a b : Int64} (ha : a = lN s) (hb : b = lN t)
    (h1 : s < c → t < c → ∀ j, sTgt f K (K s) (K t) c 0 = some j → Q (some (.int 1)) (shG X (md1 T), x2 (x2 (x2 (x2 I 42 g (nI s)) 43 g (nI t)) 44 g (nI j)) 40 5 (nI (g + 1)), L, F))
    (h0 : ¬ (s < c ∧ t < c ∧ sTgt f K (K s) (K t) c 0 ≠ none) → Q (some (.int 0)) (shG X (md1 T), I, L, F)) : XM xE0 (d + 3) 167 [.ref 40, .long a, .long b] (shG X (md1 T), I, L, F) Q := by
  have ek : (I 40 5).toNatClampNeg = g := by rw [h5, nI_clamp (by omega)]
  have ec : (I 40 4).toInt64 = lN c := by rw [h4, nI_l (by omega)]
  have bad : ¬ (s < c ∧ t < c ∧ sTgt f K (K s) (K t) c 0 ≠ none) → XC xE0 (d + 3) xM_167 (41, [some (.ref 40), some (.long a), none, some (.long b), none, none], [], (shG X (md1 T), I, L, F)) Q := fun z => by
    refine XC.block [] 60 ?_
    exact ⟨(show (0 : Int32) &&& 1 = 0 by decide), h0 z⟩
  refine XC.block [41, 43] 60 ?_
  refine And.intro (fun z => absurd (show (12 : Int32) ≤ I 40 5 from z) (by rw [h5, show (12 : Int32) = nI 12 from rfl]; exact nI_ge (by omega) (by omega))) (fun _ => ?_)
  refine And.intro (fun z => absurd (show lg_cmp a 0 < 0 from z) (by rw [ha, show (0 : Int64) = lN 0 from rfl, lg_lt (by omega) (by omega)]; omega)) (fun _ => ?_)
  refine And.intro (fun z => bad (fun w => ?_)) (fun z1 => ?_)
  · have z : 0 ≤ lg_cmp a (I 40 4).toInt64 := z
    rw [ha, ec] at z
    exact absurd ((lg_lt (by omega) (by omega)).mpr w.1) (Int32.not_lt.mpr z)
  · have z1 : ¬ 0 ≤ lg_cmp a (I 40 4).toInt64 := z1
    rw [ha, ec] at z1
    have z1 := (lg_lt (a := s) (b := c) (by omega) (by omega)).mp (Int32.not_le.mp z1)
    refine And.intro (fun z => absurd (show lg_cmp b 0 < 0 from z) (by rw [hb, show (0 : Int64) = lN 0 from rfl, lg_lt (by omega) (by omega)]; omega)) (fun _ => ?_)
    refine And.intro (fun z2 => ?_) (fun z => bad (fun w => ?_))
    · have z2 : lg_cmp b (I 40 4).toInt64 < 0 := z2
      rw [hb, ec, lg_lt (by omega) (by omega)] at z2
      refine XC.block [53] 60 ?_
      refine cl_join_a hG (K := K) (a := s) (b := t) hc h4 hw z1 z2 (show a.toInt32 = nI s by rw [ha, lN_i]) (show b.toInt32 = nI t by rw [hb, lN_i]) (fun v hv => ?_)
      have hlt := sTgt_lt (f := f) (K := K) (p := K s) (q := K t) c 0
      have go : ∀ o : Option Nat, o = sTgt f K (K s) (K t) c 0 → v = rfO o → XC xE0 (d + 3) xM_167 (53, [some (.ref 40), some (.long a), none, some (.long b), none, some (.int v)], [], (shG X (md1 T), I, L, F)) Q := by
        intro o ho hvo
        rw [← ho] at h1 h0 hlt
        match o, ho, hvo with
        | none, _, hvo =>
          have hvo : v = -1 := hvo
          refine XC.block [] 60 ?_
          refine And.intro (fun z => absurd (show (0 : Int32) ≤ v from z) (by rw [hvo]; decide)) (fun _ => ⟨(show (0 : Int32) &&& 1 = 0 by decide), h0 (fun w => w.2.2 rfl)⟩)
        | some j, _, hvo =>
          have hvo : v = nI j := hvo
          have hj : j < 16 := by have := hlt j rfl; omega
          have fin : Q (some (.int 1)) (shG X (md1 T), x2 (x2 (x2 (x2 I 42 (I 40 5).toNatClampNeg a.toInt32) 43 (I 40 5).toNatClampNeg b.toInt32) 44 (I 40 5).toNatClampNeg v) 40 5 (I 40 5 + 1), L, F) := by
            have := h1 z1 z2 j rfl
            rw [ek, ha, hb, lN_i, lN_i, hvo, h5, nI_1]
            exact this
          refine XC.block [] 60 ?_
          refine And.intro (fun _ => ?_) (fun z => absurd (show (0 : Int32) ≤ v by rw [hvo]; exact nI_pos' (by omega)) z)
          refine And.intro (rf_in h5 (by omega) (by decide)) ?_
          refine And.intro (rf_in h5 (by omega) (by decide)) ?_
          exact And.intro (rf_in h5 (by omega) (by decide)) ⟨(show (1 : Int32) &&& 1 = 1 by decide), fin⟩
      exact go _ rfl hv
    · have z : ¬ lg_cmp b (I 40 4).toInt64 < 0 := z
      rw [hb, ec, lg_lt (by omega) (by omega)] at z
      exact z w.2.1
/-- what is noted of merge i -/
def clMg_a (f K : Nat → Nat) (m h : Nat) (J : Nat → Nat → Int32) (i : Nat) : Prop := J 42 i = nI (sNum f (h + 2) 4) ∧ J 43 i = nI (sNum f (h + 6) 4) ∧ J 44 i = rfO (sTgt f K (K (sNum f (h + 2) 4)) (K (sNum f (h + 6) 4)) m 0)
theorem cl_tm54_a (hG : rfG f n) {K : Nat → Nat} {m g p e : Nat} (hm : m ≤ 16) (hg : g ≤ 12) (hFI : clF f n I) (hL : ∀ i, i < m → L 41 i = lN (sTw f (K i)) ∧ 1 ≤ f (K i) ∧ f (K i) ≤ 4) {gg : Int32} (hgg : gg = nI g)
    (hok : (∀ i, i < g → sMg1 f K m (p + 2 + 10 * i)) → ∀ J', (∀ b k, ¬ (b = 40 ∧ k = 5) → b ≠ 42 → b ≠ 43 → b ≠ 44 → J' b k = I b k) → J' 40 5 = nI g → (∀ i, i < g → clMg_a f K m (p + 2 + 10 * i) J' i) → Q (some (.int 1)) (shG X (md1 T), J', L, F))
    (hbad : (∃ i, i < g ∧ ¬ sMg1 f K m (p + 2 + 10 * i)) → ∀ J', (∀ b k, ¬ (b = 40 ∧ k = 5) → b ≠ 42 → b ≠ 43 → b ≠ 44 → J' b k = I b k) → Q (some (.int 0)) (shG X (md1 T), J', L, F)) (h4 : I 40 4 = nI m) :
    ∀ (u i : Nat), i + u = g → ∀ J, (∀ b k, ¬ (b = 40 ∧ k = 5) → b ≠ 42 → b ≠ 43 → b ≠ 44 → J b k = I b k) → J 40 5 = nI i → (∀ j, j < i → clMg_a f K m (p + 2 + 10 * j) J j) → (∀ j, j < i → sMg1 f K m (p + 2 + 10 * j)) → (0 < u → sRep (sA2 f n) u (p + 2 + 10 * i) = .inr e ∧ sTf f u (p + 2 + 10 * i) = true) →
    ∀ hh ii, hh = nI (p + 2 + 10 * i) → ii = nI i → XC xE0 (d + 4) xM_100 (54, [some (.ref 14), some (.ref 38), some (.int gg), some (.int hh), some (.int ii)], [], (shG X (md1 T), J, L, F)) Q := by
  have hn := hG.2
  intro u
  induction u with
  | zero =>
    intro i hi J D h5 hM hg1 hr hh ii hhh hii
    have : i = g := by omega
    subst this
    refine XC.block [54] 60 ?_
    exact And.intro (fun _ => ⟨(show (1 : Int32) &&& 1 = 1 by decide), hok hg1 J D h5 hM⟩) (fun z => absurd (show gg ≤ ii by rw [hgg, hii]; exact nI_le (by omega) (by omega)) z)
  | succ u ih =>
    intro i hi J D h5 hM hg1 hr hh ii hhh hii
    obtain ⟨hr, ht⟩ := hr (by omega)
    have FJ : clF f n J := ⟨fun k hk => by rw [D 2 k (by omega) (by decide) (by decide) (by decide)]; exact hFI.1 k hk, (D 1 1 (by omega) (by decide) (by decide) (by decide)).trans hFI.2⟩
    have hHx : ∃ h, h = p + 2 + 10 * i := ⟨_, rfl⟩
    obtain ⟨h, hH⟩ := hHx
    rw [← hH] at hr ht hhh
    have ht0 : ¬ (0 < f (h + 1) ∧ f h ≠ 0) ∧ sTf f u (h + 2 + 4 * f (h + 1)) = true := by
      have ht : (if 0 < f (h + 1) ∧ f h ≠ 0 then false else sTf f u (h + 2 + 4 * f (h + 1))) = true := ht
      split at ht
      · cases ht
      · exact ⟨by assumption, ht⟩
    unfold sRep at hr
    split at hr
    · cases hr
    · rename_i r hs
      have hle := sA2_in hs
      have hnx := sA2_num hs (by have := ht0.1; omega)
      have b1 := hG.1 (h + 1)
      refine XC.block [54] 60 ?_
      refine And.intro (fun z => absurd (show gg ≤ ii from z) (by rw [hgg, hii]; exact nI_ge (by omega) (by omega))) (fun _ => ?_)
      refine cl_at FJ hG (p := h + 1) (by omega) (show hh + 1 = nI (h + 1) by rw [hhh, nI_1]) (fun _ v hv => ?_) (fun z => absurd z (by omega))
      refine And.intro (fun z => ⟨(show (0 : Int32) &&& 1 = 0 by decide), hbad ⟨i, by omega, fun w => ?_⟩ J D⟩) (fun z => ?_)
      · have z : ¬ v = 2 := z
        rw [hv, show (2 : Int32) = nI 2 from rfl, nI_eq (by omega) (by omega)] at z
        rw [← hH] at w
        exact z w.1
      · have z : ¬ ¬ v = 2 := z
        have z := Classical.not_not.mp z
        rw [hv, show (2 : Int32) = nI 2 from rfl, nI_eq (by omega) (by omega)] at z
        have B1 := sNum_lt hG.1 4 (h + 2)
        have B2 := sNum_lt hG.1 4 (h + 6)
        refine cl_number FJ hG (p := h + 2) (k := 4) (by decide) (by omega) (show hh + 2 = nI (h + 2) by rw [hhh, show (2 : Int32) = nI 2 from rfl, nI_add]) rfl (fun v1 hv1 => ?_)
        refine cl_number FJ hG (p := h + 6) (k := 4) (by decide) (by omega) (show hh + 6 = nI (h + 6) by rw [hhh, show (6 : Int32) = nI 6 from rfl, nI_add]) rfl (fun v2 hv2 => ?_)
        refine cl_addMerge_a hG (K := K) (c := m) (g := i) hm (by omega) ((D 40 4 (by omega) (by decide) (by decide) (by decide)).trans h4) h5 hL (by omega) (by omega) hv1 hv2 (fun c1 c2 j hj => ?_) (fun c => ?_)
        · refine And.intro (fun _ => ?_) (fun z => absurd (show ¬ (1 : Int32) = 0 by decide) z)
          have hmg : sMg1 f K m (p + 2 + 10 * i) := by
            rw [← hH]; exact ⟨z, c1, c2, by rw [hj]; exact fun y => by cases y⟩
          refine ih (i + 1) (by omega) (x2 (x2 (x2 (x2 J 42 i (nI (sNum f (h + 2) 4))) 43 i (nI (sNum f (h + 6) 4))) 44 i (nI j)) 40 5 (nI (i + 1))) (fun b k k1 k2 k3 k4 => ?_) (x2_same _ _ _ _) (fun l hl => ?_) (fun l hl => ?_) (fun hu => ?_) _ _ ?_ (show ii + 1 = nI (i + 1) by rw [hii, nI_1])
          · rw [x2_o _ _ k1, x2_o _ _ (fun e => k4 e.1), x2_o _ _ (fun e => k3 e.1), x2_o _ _ (fun e => k2 e.1)]
            exact D b k k1 k2 k3 k4
          · rcases Nat.lt_or_ge l i with y | y
            · obtain ⟨m1, m2, m3⟩ := hM l y
              refine ⟨?_, ?_, ?_⟩
              · rw [x2_o _ _ (by omega), x2_o _ _ (by omega), x2_o _ _ (by omega), x2_o _ _ (by omega)]; exact m1
              · rw [x2_o _ _ (by omega), x2_o _ _ (by omega), x2_o _ _ (by omega), x2_o _ _ (by omega)]; exact m2
              · rw [x2_o _ _ (by omega), x2_o _ _ (by omega), x2_o _ _ (by omega), x2_o _ _ (by omega)]; exact m3
            · have : l = i := by omega
              subst this
              refine ⟨?_, ?_, ?_⟩
              · rw [x2_o _ _ (by omega), x2_o _ _ (by omega), x2_o _ _ (by omega), x2_same, hH]
              · rw [x2_o _ _ (by omega), x2_o _ _ (by omega), x2_same, hH]
              · rw [x2_o _ _ (by omega), x2_same, ← hH, hj]; rfl
          · rcases Nat.lt_or_ge l i with y | y
            · exact hg1 l y
            · have : l = i := by omega
              subst this
              exact hmg
          · have e10 : p + 2 + 10 * (i + 1) = r := by omega
            rw [e10]
            exact ⟨hr, by rw [hnx]; exact ht0.2⟩
          · show hh + 10 = _
            rw [hhh, show (10 : Int32) = nI 10 from rfl, nI_add]
            congr 1
            omega
        · refine And.intro (fun z => absurd (show (0 : Int32) = 0 from rfl) z) (fun _ => ⟨(show (0 : Int32) &&& 1 = 0 by decide), hbad ⟨i, by omega, fun w => c ?_⟩ J D⟩)
          rw [← hH] at w
          exact ⟨w.2.1, w.2.2.1, w.2.2.2⟩
end CLM_a
section CLM_b
variable {X : List (Option Nat)} {T : List xS} {f : Nat → Nat} {n k : Nat} {I J : Nat → Nat → Int32} {L : Nat → Nat → Int64} {F : Nat → Nat → UInt32} {d : Nat} {Q : xP}
theorem cl_takeTokens_b (hF : clF f n I) (hG : rfG f n) {p e : Nat} (h6 : I 15 6 = nI p) (hA : sA1 f n p = .inr e) (hT : f (p + 1) = 0 ∨ f p = 2)
    (hok : sTx f p → ∀ J' L', (∀ b k, ¬ (b = 53 ∧ k = 4) → ¬ (b = 52 ∧ k = 6) → J' b k = I b k) → (∀ b k, b ≠ 54 → L' b k = L b k) → J' 52 6 = nI (f (p + 1)) → J' 53 4 = nI (f (p + 1)) → (∀ i, i < f (p + 1) → L' 54 i = lN (sTw f (sTp f p i))) → Q (some (.int 1)) (shG X (md2 T), J', L', F))
    (hbad : ¬ sTx f p → ∀ J' L', (∀ b k, ¬ (b = 53 ∧ k = 4) → ¬ (b = 52 ∧ k = 6) → J' b k = I b k) → (∀ b k, b ≠ 54 → L' b k = L b k) → Q (some (.int 0)) (shG X (md2 T), J', L', F)) : XM xE0 (d + 3) 99 [.ref 14, .ref 51] (shG X (md2 T), I, L, F) Q := by
  obtain ⟨u1, u2, u3, u4⟩ := sArr_un hA
  have hn := hG.2
  have b1 := hG.1 (p + 1)
  refine XC.block [30] 60 ?_
  refine And.intro (rf_in (j := 6) rfl (by decide) (by decide)) ?_
  refine cl_at hF hG (p := p + 1) (by omega) (show I 15 6 + 1 = nI (p + 1) by rw [h6, nI_1]) (fun _ v hv => ?_) (fun z => absurd z (by omega))
  refine And.intro (fun z => ⟨(show (0 : Int32) &&& 1 = 0 by decide), hbad (fun w => ?_) I L (fun _ _ _ _ => rfl) (fun _ _ _ => rfl)⟩) (fun z1 => ?_)
  · have z : v < 2 := z
    rw [hv, show (2 : Int32) = nI 2 from rfl, nI_ltI (by omega) (by omega)] at z
    have := w.2.1
    omega
  · have z1 : ¬ v < 2 := z1
    rw [hv, show (2 : Int32) = nI 2 from rfl, nI_ltI (by omega) (by omega)] at z1
    refine And.intro (fun z2 => ?_) (fun z => ⟨(show (0 : Int32) &&& 1 = 0 by decide), hbad (fun w => ?_) I L (fun _ _ _ _ => rfl) (fun _ _ _ => rfl)⟩)
    · have z2 : v ≤ 16 := z2
      rw [hv, show (16 : Int32) = nI 16 from rfl, nI_leI (by omega) (by omega)] at z2
      have h2 : f p = 2 := hT.resolve_left (by omega)
      refine XC.block [59] 60 ?_
      refine And.intro (rf_in (j := 6) rfl (by decide) (by decide)) ?_
      refine And.intro (rf_in (j := 6) rfl (by decide) (by decide)) ?_
      have go : ∀ hh, hh = nI (p + 2) → XC xE0 (d + 3) xM_99 (59, [some (.ref 14), some (.ref 51), some (.int v), some (.int hh), some (.int 0), none], [], (shG X (md2 T), x2 (x2 I 52 6 v) 53 4 0, L, F)) Q := by
        intro hh hhh
        have D : ∀ J' : Nat → Nat → Int32, (∀ b k, ¬ (b = 53 ∧ k = 4) → J' b k = x2 (x2 I 52 6 v) 53 4 0 b k) → ∀ b k, ¬ (b = 53 ∧ k = 4) → ¬ (b = 52 ∧ k = 6) → J' b k = I b k := fun J' h b k h1 h2 => by
          rw [h b k h1, x2_o _ _ h1, x2_o _ _ h2]
        have F2 : clF f n (x2 (x2 I 52 6 v) 53 4 0) := (hF.st (by decide) (by decide)).st (by decide) (by decide)
        refine cl_tt59_b (I := x2 (x2 I 52 6 v) 53 4 0) (L := L) hG (p := p) (m := f (p + 1)) (e := e) z2 F2 hv (fun hall J' L' DJ DL g4 gL => ?_) (fun hex J' L' DJ DL => ?_) (f (p + 1)) 0 (by omega) _ L (fun _ _ _ => rfl) (fun _ _ _ => rfl) rfl (fun j hj => absurd hj (by omega)) (fun j hj => absurd hj (by omega)) ?_ _ _ _ hhh rfl
        · refine hok ⟨h2, by omega, z2, hall⟩ J' L' (D J' DJ) DL ?_ g4 gL
          rw [DJ 52 6 (by omega), x2_o _ _ (by omega), x2_same]; exact hv
        · refine hbad (fun w => ?_) J' L' (D J' DJ) DL
          obtain ⟨i, hi, y⟩ := hex
          exact y (w.2.2.2 i hi)
        · rw [h2] at u4
          exact u4
      exact go _ (show I 15 6 + 2 = nI (p + 2) by rw [h6, show (2 : Int32) = nI 2 from rfl, nI_add])
    · have z : ¬ v ≤ 16 := z
      rw [hv, show (16 : Int32) = nI 16 from rfl, nI_leI (by omega) (by omega)] at z
      have := w.2.2.1
      omega
theorem cl_addMerge_b (hG : rfG f n) {K : Nat → Nat} {c g s t : Nat} (hc : c ≤ 16) (hg : g < 12) (h4 : I 53 4 = nI c) (h5 : I 53 5 = nI g) (hw : ∀ i, i < c → L 54 i = lN (sTw f (K i)) ∧ 1 ≤ f (K i) ∧ f (K i) ≤ 4) (hs : s < 2 ^ 32) (ht : t < 2 ^ 32) {a b : Int64} (ha : a = lN s) (hb : b = lN t)
    (h1 : s < c → t < c → ∀ j, sTgt f K (K s) (K t) c 0 = some j → Q (some (.int 1)) (shG X (md2 T), x2 (x2 (x2 (x2 I 55 g (nI s)) 56 g (nI t)) 57 g (nI j)) 53 5 (nI (g + 1)), L, F))
    (h0 : ¬ (s < c ∧ t < c ∧ sTgt f K (K s) (K t) c 0 ≠ none) → Q (some (.int 0)) (shG X (md2 T), I, L, F)) : XM xE0 (d + 3) 167 [.ref 53, .long a, .long b] (shG X (md2 T), I, L, F) Q := by
  have ek : (I 53 5).toNatClampNeg = g := by rw [h5, nI_clamp (by omega)]
  have ec : (I 53 4).toInt64 = lN c := by rw [h4, nI_l (by omega)]
  have bad : ¬ (s < c ∧ t < c ∧ sTgt f K (K s) (K t) c 0 ≠ none) → XC xE0 (d + 3) xM_167 (41, [some (.ref 53), some (.long a), none, some (.long b), none, none], [], (shG X (md2 T), I, L, F)) Q := fun z => by
    refine XC.block [] 60 ?_
    exact ⟨(show (0 : Int32) &&& 1 = 0 by decide), h0 z⟩
  refine XC.block [41, 43] 60 ?_
  refine And.intro (fun z => absurd (show (12 : Int32) ≤ I 53 5 from z) (by rw [h5, show (12 : Int32) = nI 12 from rfl]; exact nI_ge (by omega) (by omega))) (fun _ => ?_)
  refine And.intro (fun z => absurd (show lg_cmp a 0 < 0 from z) (by rw [ha, show (0 : Int64) = lN 0 from rfl, lg_lt (by omega) (by omega)]; omega)) (fun _ => ?_)
  refine And.intro (fun z => bad (fun w => ?_)) (fun z1 => ?_)
  · have z : 0 ≤ lg_cmp a (I 53 4).toInt64 := z
    rw [ha, ec] at z
    exact absurd ((lg_lt (by omega) (by omega)).mpr w.1) (Int32.not_lt.mpr z)
  · have z1 : ¬ 0 ≤ lg_cmp a (I 53 4).toInt64 := z1
    rw [ha, ec] at z1
    have z1 := (lg_lt (a := s) (b := c) (by omega) (by omega)).mp (Int32.not_le.mp z1)
    refine And.intro (fun z => absurd (show lg_cmp b 0 < 0 from z) (by rw [hb, show (0 : Int64) = lN 0 from rfl, lg_lt (by omega) (by omega)]; omega)) (fun _ => ?_)
    refine And.intro (fun z2 => ?_) (fun z => bad (fun w => ?_))
    · have z2 : lg_cmp b (I 53 4).toInt64 < 0 := z2
      rw [hb, ec, lg_lt (by omega) (by omega)] at z2
      refine XC.block [53] 60 ?_
      refine cl_join_b hG (K := K) (a := s) (b := t) hc h4 hw z1 z2 (show a.toInt32 = nI s by rw [ha, lN_i]) (show b.toInt32 = nI t by rw [hb, lN_i]) (fun v hv => ?_)
      have hlt := sTgt_lt (f := f) (K := K) (p := K s) (q := K t) c 0
      have go : ∀ o : Option Nat, o = sTgt f K (K s) (K t) c 0 → v = rfO o → XC xE0 (d + 3) xM_167 (53, [some (.ref 53), some (.long a), none, some (.long b), none, some (.int v)], [], (shG X (md2 T), I, L, F)) Q := by
        intro o ho hvo
        rw [← ho] at h1 h0 hlt
        match o, ho, hvo with
        | none, _, hvo =>
          have hvo : v = -1 := hvo
          refine XC.block [] 60 ?_
          refine And.intro (fun z => absurd (show (0 : Int32) ≤ v from z) (by rw [hvo]; decide)) (fun _ => ⟨(show (0 : Int32) &&& 1 = 0 by decide), h0 (fun w => w.2.2 rfl)⟩)
        | some j, _, hvo =>
          have hvo : v = nI j := hvo
          have hj : j < 16 := by have := hlt j rfl; omega
          have fin : Q (some (.int 1)) (shG X (md2 T), x2 (x2 (x2 (x2 I 55 (I 53 5).toNatClampNeg a.toInt32) 56 (I 53 5).toNatClampNeg b.toInt32) 57 (I 53 5).toNatClampNeg v) 53 5 (I 53 5 + 1), L, F) := by
            have := h1 z1 z2 j rfl
            rw [ek, ha, hb, lN_i, lN_i, hvo, h5, nI_1]
            exact this
          refine XC.block [] 60 ?_
          refine And.intro (fun _ => ?_) (fun z => absurd (show (0 : Int32) ≤ v by rw [hvo]; exact nI_pos' (by omega)) z)
          refine And.intro (rf_in h5 (by omega) (by decide)) ?_
          refine And.intro (rf_in h5 (by omega) (by decide)) ?_
          exact And.intro (rf_in h5 (by omega) (by decide)) ⟨(show (1 : Int32) &&& 1 = 1 by decide), fin⟩
      exact go _ rfl hv
    · have z : ¬ lg_cmp b (I 53 4).toInt64 < 0 := z
      rw [hb, ec, lg_lt (by omega) (by omega)] at z
      exact z w.2.1
/-- what is noted of merge i -/
def clMg_b (f K : Nat → Nat) (m h : Nat) (J : Nat → Nat → Int32) (i : Nat) : Prop := J 55 i = nI (sNum f (h + 2) 4) ∧ J 56 i = nI (sNum f (h + 6) 4) ∧ J 57 i = rfO (sTgt f K (K (sNum f (h + 2) 4)) (K (sNum f (h + 6) 4)) m 0)
theorem cl_tm54_b (hG : rfG f n) {K : Nat → Nat} {m g p e : Nat} (hm : m ≤ 16) (hg : g ≤ 12) (hFI : clF f n I) (hL : ∀ i, i < m → L 54 i = lN (sTw f (K i)) ∧ 1 ≤ f (K i) ∧ f (K i) ≤ 4) {gg : Int32} (hgg : gg = nI g)
    (hok : (∀ i, i < g → sMg1 f K m (p + 2 + 10 * i)) → ∀ J', (∀ b k, ¬ (b = 53 ∧ k = 5) → b ≠ 55 → b ≠ 56 → b ≠ 57 → J' b k = I b k) → J' 53 5 = nI g → (∀ i, i < g → clMg_b f K m (p + 2 + 10 * i) J' i) → Q (some (.int 1)) (shG X (md2 T), J', L, F))
    (hbad : (∃ i, i < g ∧ ¬ sMg1 f K m (p + 2 + 10 * i)) → ∀ J', (∀ b k, ¬ (b = 53 ∧ k = 5) → b ≠ 55 → b ≠ 56 → b ≠ 57 → J' b k = I b k) → Q (some (.int 0)) (shG X (md2 T), J', L, F)) (h4 : I 53 4 = nI m) :
    ∀ (u i : Nat), i + u = g → ∀ J, (∀ b k, ¬ (b = 53 ∧ k = 5) → b ≠ 55 → b ≠ 56 → b ≠ 57 → J b k = I b k) → J 53 5 = nI i → (∀ j, j < i → clMg_b f K m (p + 2 + 10 * j) J j) → (∀ j, j < i → sMg1 f K m (p + 2 + 10 * j)) → (0 < u → sRep (sA2 f n) u (p + 2 + 10 * i) = .inr e ∧ sTf f u (p + 2 + 10 * i) = true) →
    ∀ hh ii, hh = nI (p + 2 + 10 * i) → ii = nI i → XC xE0 (d + 4) xM_100 (54, [some (.ref 14), some (.ref 51), some (.int gg), some (.int hh), some (.int ii)], [], (shG X (md2 T), J, L, F)) Q := by
  have hn := hG.2
  intro u
  induction u with
  | zero =>
    intro i hi J D h5 hM hg1 hr hh ii hhh hii
    have : i = g := by omega
    subst this
    refine XC.block [54] 60 ?_
    exact And.intro (fun _ => ⟨(show (1 : Int32) &&& 1 = 1 by decide), hok hg1 J D h5 hM⟩) (fun z => absurd (show gg ≤ ii by rw [hgg, hii]; exact nI_le (by omega) (by omega)) z)
  | succ u ih =>
    intro i hi J D h5 hM hg1 hr hh ii hhh hii
    obtain ⟨hr, ht⟩ := hr (by omega)
    have FJ : clF f n J := ⟨fun k hk => by rw [D 2 k (by omega) (by decide) (by decide) (by decide)]; exact hFI.1 k hk, (D 1 1 (by omega) (by decide) (by decide) (by decide)).trans hFI.2⟩
    have hHx : ∃ h, h = p + 2 + 10 * i := ⟨_, rfl⟩
    obtain ⟨h, hH⟩ := hHx
    rw [← hH] at hr ht hhh
    have ht0 : ¬ (0 < f (h + 1) ∧ f h ≠ 0) ∧ sTf f u (h + 2 + 4 * f (h + 1)) = true := by
      have ht : (if 0 < f (h + 1) ∧ f h ≠ 0 then false else sTf f u (h + 2 + 4 * f (h + 1))) = true := ht
      split at ht
      · cases ht
      · exact ⟨by assumption, ht⟩
    unfold sRep at hr
    split at hr
    · cases hr
    · rename_i r hs
      have hle := sA2_in hs
      have hnx := sA2_num hs (by have := ht0.1; omega)
      have b1 := hG.1 (h + 1)
      refine XC.block [54] 60 ?_
      refine And.intro (fun z => absurd (show gg ≤ ii from z) (by rw [hgg, hii]; exact nI_ge (by omega) (by omega))) (fun _ => ?_)
      refine cl_at FJ hG (p := h + 1) (by omega) (show hh + 1 = nI (h + 1) by rw [hhh, nI_1]) (fun _ v hv => ?_) (fun z => absurd z (by omega))
      refine And.intro (fun z => ⟨(show (0 : Int32) &&& 1 = 0 by decide), hbad ⟨i, by omega, fun w => ?_⟩ J D⟩) (fun z => ?_)
      · have z : ¬ v = 2 := z
        rw [hv, show (2 : Int32) = nI 2 from rfl, nI_eq (by omega) (by omega)] at z
        rw [← hH] at w
        exact z w.1
      · have z : ¬ ¬ v = 2 := z
        have z := Classical.not_not.mp z
        rw [hv, show (2 : Int32) = nI 2 from rfl, nI_eq (by omega) (by omega)] at z
        have B1 := sNum_lt hG.1 4 (h + 2)
        have B2 := sNum_lt hG.1 4 (h + 6)
        refine cl_number FJ hG (p := h + 2) (k := 4) (by decide) (by omega) (show hh + 2 = nI (h + 2) by rw [hhh, show (2 : Int32) = nI 2 from rfl, nI_add]) rfl (fun v1 hv1 => ?_)
        refine cl_number FJ hG (p := h + 6) (k := 4) (by decide) (by omega) (show hh + 6 = nI (h + 6) by rw [hhh, show (6 : Int32) = nI 6 from rfl, nI_add]) rfl (fun v2 hv2 => ?_)
        refine cl_addMerge_b hG (K := K) (c := m) (g := i) hm (by omega) ((D 53 4 (by omega) (by decide) (by decide) (by decide)).trans h4) h5 hL (by omega) (by omega) hv1 hv2 (fun c1 c2 j hj => ?_) (fun c => ?_)
        · refine And.intro (fun _ => ?_) (fun z => absurd (show ¬ (1 : Int32) = 0 by decide) z)
          have hmg : sMg1 f K m (p + 2 + 10 * i) := by
            rw [← hH]; exact ⟨z, c1, c2, by rw [hj]; exact fun y => by cases y⟩
          refine ih (i + 1) (by omega) (x2 (x2 (x2 (x2 J 55 i (nI (sNum f (h + 2) 4))) 56 i (nI (sNum f (h + 6) 4))) 57 i (nI j)) 53 5 (nI (i + 1))) (fun b k k1 k2 k3 k4 => ?_) (x2_same _ _ _ _) (fun l hl => ?_) (fun l hl => ?_) (fun hu => ?_) _ _ ?_ (show ii + 1 = nI (i + 1) by rw [hii, nI_1])
          · rw [x2_o _ _ k1, x2_o _ _ (fun e => k4 e.1), x2_o _ _ (fun e => k3 e.1), x2_o _ _ (fun e => k2 e.1)]
            exact D b k k1 k2 k3 k4
          · rcases Nat.lt_or_ge l i with y | y
            · obtain ⟨m1, m2, m3⟩ := hM l y
              refine ⟨?_, ?_, ?_⟩
              · rw [x2_o _ _ (by omega), x2_o _ _ (by omega), x2_o _ _ (by omega), x2_o _ _ (by omega)]; exact m1
              · rw [x2_o _ _ (by omega), x2_o _ _ (by omega), x2_o _ _ (by omega), x2_o _ _ (by omega)]; exact m2
              · rw [x2_o _ _ (by omega), x2_o _ _ (by omega), x2_o _ _ (by omega), x2_o _ _ (by omega)]; exact m3
            · have : l = i := by omega
              subst this
              refine ⟨?_, ?_, ?_⟩
              · rw [x2_o _ _ (by omega), x2_o _ _ (by omega), x2_o _ _ (by omega), x2_same, hH]
              · rw [x2_o _ _ (by omega), x2_o _ _ (by omega), x2_same, hH]
              · rw [x2_o _ _ (by omega), x2_same, ← hH, hj]; rfl
          · rcases Nat.lt_or_ge l i with y | y
            · exact hg1 l y
            · have : l = i := by omega
              subst this
              exact hmg
          · have e10 : p + 2 + 10 * (i + 1) = r := by omega
            rw [e10]
            exact ⟨hr, by rw [hnx]; exact ht0.2⟩
          · show hh + 10 = _
            rw [hhh, show (10 : Int32) = nI 10 from rfl, nI_add]
            congr 1
            omega
        · refine And.intro (fun z => absurd (show (0 : Int32) = 0 from rfl) z) (fun _ => ⟨(show (0 : Int32) &&& 1 = 0 by decide), hbad ⟨i, by omega, fun w => c ?_⟩ J D⟩)
          rw [← hH] at w
          exact ⟨w.2.1, w.2.2.1, w.2.2.2⟩
end CLM_b
