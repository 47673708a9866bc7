/-! what a sound file says of its PAIRS; merges, ALIGN -/
theorem sPrs_ok {f : Nat → Nat} {n : Nat} : ∀ (k i b : Nat), sPrs f n k i = .inr b → b = sKey f n (i + k) ∧ ∀ j, i ≤ j → j < i + k → sStr f n true (sKey f n j) = .inr (sKey f n j + 1 + f (sKey f n j)) ∧ sDup f (sKey f n) j = false ∧ sTy f n j ≤ 3 ∧ sVal f n (sTy f n j) (sVa f n j) = .inr (sKey f n (j + 1))
  | 0, i, b, h => by
    injection h with h
    exact ⟨h.symm, fun j h1 h2 => by omega⟩
  | k + 1, i, b, h => by
    unfold sPrs at h
    split at h
    · cases h
    · rename_i q e1
      have l1 := sStr_le e1
      split at h
      · cases h
      · rename_i hd
        have hd : sDup f (sKey f n) i = false := by
          cases hx : sDup f (sKey f n) i with
          | false => rfl
          | true => exact absurd hx hd
        split at h
        · cases h
        · rename_i t r e2
          have l2 := sSml_le e2
          have ht : t = f q := congrArg Prod.fst l2.1
          have hr : r = q + 1 := congrArg Prod.snd l2.1
          split at h
          · cases h
          · rename_i q2 e3
            have hty : sTy f n i = t := by
              show f (sKey f n i + 1 + f (sKey f n i)) = t
              rw [l1.1, ht]
            have hva : sVa f n i = r := by
              show sKey f n i + 2 + f (sKey f n i) = r
              omega
            have hK : sKey f n (i + 1) = q2 := by
              show (match sPr f n (sKey f n i) with | .inl _ => 0 | .inr q => q) = q2
              simp only [sPr, e1, e2, e3]
            obtain ⟨c1, c2⟩ := sPrs_ok k (i + 1) b h
            refine ⟨by rw [c1]; congr 1; omega, fun j h1 h2 => ?_⟩
            rcases Nat.lt_or_ge i j with hj | hj
            · exact c2 j hj (by omega)
            · have : j = i := by omega
              subst this
              refine ⟨by rw [l1.1]; exact e1, hd, by omega, ?_⟩
              rw [hty, hva, hK]; exact e3
/-- the letters of align -/
def sWd (l : List Nat) (i : Nat) : Nat := l.getD i 0
def sWa : List Nat := [97, 108, 105, 103, 110]
def sAv (f : Nat → Nat) (n i : Nat) : Nat := if sTy f n i = 0 then sNum f (sVa f n i) 4 else 0
/-- ALIGN, as the reference looks for it: u PAIRS from i on -/
def sAlF (f : Nat → Nat) (n : Nat) : Nat → Nat → Nat → Option Nat
  | 0, _, acc => some acc
  | u + 1, i, acc => bif sIsB f (sKey f n i) (sWd sWa) 5 then (if 1 ≤ (sAv f n i) ∧ (sAv f n i) ≤ 64 then sAlF f n u (i + 1) (sAv f n i) else none) else sAlF f n u (i + 1) acc
theorem sAlF_in {f : Nat → Nat} {n : Nat} : ∀ (u i acc A : Nat), 1 ≤ acc ∧ acc ≤ 64 → sAlF f n u i acc = some A → 1 ≤ A ∧ A ≤ 64
  | 0, i, acc, A, h, e => by injection e with e; omega
  | u + 1, i, acc, A, h, e => by
    unfold sAlF at e
    cases hb : sIsB f (sKey f n i) (sWd sWa) 5 with
    | true =>
      rw [hb, cond_true] at e
      split at e
      · exact sAlF_in u (i + 1) _ A (by assumption) e
      · cases e
    | false =>
      rw [hb, cond_false] at e
      exact sAlF_in u (i + 1) acc A h e
theorem rfW_al : rfW 474181364833 (sWd sWa) 5 := by
  show ∀ i, i < 5 → _
  decide +kernel
section RFL
variable {f : Nat → Nat} {n : Nat} {I J : Nat → Nat → Int32} {L : Nat → Nat → Int64} {F : Nat → Nat → UInt32} {d : Nat} {Q : xP}
theorem rf_pairsOf (hG : rfG f n) (hF : rfF f n I) {K : Nat → Nat} {m p e : Nat} {a : Int32} (hm : m ≤ 16) (hA : sA1 f n p = .inr e) (hT : f (p + 1) = 0 ∨ (f p = 3 ∧ sTf f (f (p + 1)) (p + 2) = true)) (ha : a = nI p) (h22 : I 0 22 = nI m) (hK : ∀ j, j < m → I 11 j = nI (K j) ∧ K j + f (K j) < 1400)
    (hok : sMg f K m p → ∀ J', rfE I J' → J' 0 22 = nI m → (∀ j, j < m → J' 11 j = nI (K j)) → J' 0 23 = nI (f (p + 1)) → (∀ i, i < f (p + 1) → rfM f K m (p + 2 + 10 * i) J' i) → Q (some (.int 1)) (sh2, J', L, F))
    (hbad : ¬ sMg f K m p → ∀ J', rfE I J' → Q (some (.int 0)) (sh2, J', L, F)) : XM xE0 (d + 1) 46 [.ref 0, .int a] (sh2, I, L, F) Q := by
  obtain ⟨u1, u2, u3, u4⟩ := sArr_un hA
  have hn := hG.2
  have e1 : a + 1 = nI (p + 1) := by rw [ha, nI_1]
  have b1 := hG.1 (p + 1)
  have b2 := hG.1 p
  have g1 : I 1 (a + 1).toNatClampNeg = nI (f (p + 1)) := rf_at hF e1 (by omega)
  have g2 : I 1 a.toNatClampNeg = nI (f p) := rf_at hF ha (by omega)
  have D1 : rfE I (x2 I 0 23 (I 1 (a + 1).toNatClampNeg)) := rfE.rf.st0 (by decide)
  refine XC.block [48] 60 ?_
  refine And.intro (rf_in e1 (by omega) (by decide)) ?_
  refine And.intro (fun z => ?_) (fun z => ⟨by decide, hok (Or.inl ?_) _ D1 h22 (fun j hj => (hK j hj).1) g1 (fun i hi => absurd hi ?_)⟩)
  · have z : ¬ I 1 (a + 1).toNatClampNeg = 0 := z
    rw [g1, show (0 : Int32) = nI 0 from rfl, nI_eq (by omega) (by omega)] at z
    have hT := hT.resolve_left z
    refine And.intro (rf_in ha (by omega) (by decide)) ?_
    refine And.intro (fun w => absurd (show I 1 a.toNatClampNeg = 3 by rw [g2, hT.1]; rfl) w) (fun _ => ?_)
    refine And.intro (fun w => ?_) (fun w => ⟨by decide, hbad (fun q => ?_) _ D1⟩)
    · have w : I 1 (a + 1).toNatClampNeg ≤ 12 := w
      rw [g1, show (12 : Int32) = nI 12 from rfl, nI_leI (by omega) (by omega)] at w
      refine rf_po48 (I := I) hG (K := K) (m := m) (g := f (p + 1)) (p := p) (e := e) hm w hF (fun hall => hok (Or.inr ⟨hT.1, w, hall⟩)) (fun hex J' D' => hbad (fun q => ?_) J' D') (fun j hj => (hK j hj).2) (f (p + 1)) 0 (by omega) _ D1 h22 (fun j hj => (hK j hj).1) g1 (fun j hj => absurd hj (by omega)) (fun j hj => absurd hj (by omega)) (fun _ => ⟨?_, hT.2⟩) _ _ ?_ rfl
      · obtain ⟨i, hi, y⟩ := hex
        rcases q with q | q
        · exact z q
        · exact y (q.2.2 i hi)
      · have u4 : sRep (fun x => if f p < 3 then sPln f n (f p) x else sA2 f n x) (f (p + 1)) (p + 2) = .inr e := u4
        rw [show (fun x => if f p < 3 then sPln f n (f p) x else sA2 f n x) = sA2 f n from funext (fun x => if_neg (by omega))] at u4
        exact u4
      · show a + 2 = nI (p + 2 + 10 * 0)
        rw [ha, show (2 : Int32) = nI 2 from rfl, nI_add]
    · have w : ¬ I 1 (a + 1).toNatClampNeg ≤ 12 := w
      rw [g1, show (12 : Int32) = nI 12 from rfl, nI_leI (by omega) (by omega)] at w
      rcases q with q | q
      · exact z q
      · exact w q.2.1
  · have z : ¬ ¬ I 1 (a + 1).toNatClampNeg = 0 := z
    have z := Classical.not_not.mp z
    rw [g1, show (0 : Int32) = nI 0 from rfl, nI_eq (by omega) (by omega)] at z
    exact z
  · have z : ¬ ¬ I 1 (a + 1).toNatClampNeg = 0 := z
    have z := Classical.not_not.mp z
    rw [g1, show (0 : Int32) = nI 0 from rfl, nI_eq (by omega) (by omega)] at z
    omega
/-- what LOADING knows of PAIRS -/
def rfV (f : Nat → Nat) (n k : Nat) (J : Nat → Nat → Int32) : Prop := J 0 13 = nI k ∧ k ≤ 24 ∧ (∀ j, j < k → rfP1 f n J j) ∧ ∀ j, j < k → sTy f n j ≤ 3 ∧ sVal f n (sTy f n j) (sVa f n j) = .inr (sKey f n (j + 1))
theorem rfV.ag {k : Nat} (h : rfV f n k I) (a : rfD I J) : rfV f n k J := by
  obtain ⟨h1, h2, h3, h4⟩ := h
  refine ⟨(a 0 13 (by omega) (by omega)).trans h1, h2, fun j hj => ?_, h4⟩
  obtain ⟨g1, g2, g3, g4⟩ := h3 j hj
  exact ⟨(a 2 j (by omega) (by omega)).trans g1, (a 3 j (by omega) (by omega)).trans g2, (a 4 j (by omega) (by omega)).trans g3, g4⟩
theorem sVal_0 {p q : Nat} (h : sVal f n 0 p = .inr q) : q = p + 4 ∧ q ≤ n := by
  have h : sSkip n 4 p = .inr q := h
  have := sSkip_le h
  omega
theorem sVal_1 {p q : Nat} (h : sVal f n 1 p = .inr q) : q = p + 2 ∧ q ≤ n := by
  have h : sSkip n 2 p = .inr q := h
  have := sSkip_le h
  omega
theorem sVal_3 {p q : Nat} (h : sVal f n 3 p = .inr q) : sA1 f n p = .inr q := h
/-- from 89 of align on, say[11] being there -/
theorem rf_al36 (hG : rfG f n) (hF : rfF f n J) {i : Nat} {k : Nat} (hV : rfV f n k J) (hi : i < k) {x : Int32} (hx : x = nI i)
    (hgo : ∀ v, v = nI (sAv f n i) → XC xE0 (d + 2) xM_44 (67, [some (.ref 0), some (.int x)], [], (sh2, x2 J 10 11 v, L, F)) Q) : XC xE0 (d + 2) xM_44 (36, [some (.ref 0), some (.int x)], [], (sh2, J, L, F)) Q := by
  obtain ⟨h1, h2, h3, h4⟩ := hV
  obtain ⟨g1, g2, g3, g4⟩ := h3 i hi
  have hn := hG.2
  have ek : x.toNatClampNeg = i := by rw [hx, nI_clamp (by omega)]
  have e3 : J 3 x.toNatClampNeg = nI (sTy f n i) := by rw [ek]; exact g2
  have e4 : J 4 x.toNatClampNeg = nI (sVa f n i) := by rw [ek]; exact g3
  have hty := (h4 i hi).1
  refine XC.block [67] 60 ?_
  refine And.intro (rf_in hx (by omega) (by decide)) ?_
  refine And.intro (fun z => ?_) (fun z => ?_)
  · have z : ¬ J 3 x.toNatClampNeg = 0 := z
    rw [e3, show (0 : Int32) = nI 0 from rfl, nI_eq (by omega) (by omega)] at z
    refine And.intro (rf_in (j := 11) rfl (by decide) (by decide)) (hgo 0 ?_)
    rw [show sAv f n i = 0 from if_neg z]
    rfl
  · have z : ¬ ¬ J 3 x.toNatClampNeg = 0 := z
    have z := Classical.not_not.mp z
    rw [e3, show (0 : Int32) = nI 0 from rfl, nI_eq (by omega) (by omega)] at z
    have hv := (h4 i hi).2
    rw [z] at hv
    have hv := sVal_0 hv
    refine And.intro (rf_in hx (by omega) (by decide)) ?_
    refine rf_u hF hG.1 (p := sVa f n i) (k := 4) (by omega) e4 rfl (fun s hs => ?_)
    refine And.intro (rf_in (j := 11) rfl (by decide) (by decide)) (hgo s ?_)
    rw [show sAv f n i = sNum f (sVa f n i) 4 from if_pos z]
    exact hs
theorem rf_alF (hG : rfG f n) {k : Nat} (hFI : rfF f n I) (hVI : rfV f n k I) {c : Int32} (hc : ¬ c ≤ 0) (hQ : ∀ J', rfD I J' → J' 0 3 = c → Q none (sh2, J', L, F)) :
    ∀ (u i : Nat), i + u = k → ∀ J, rfD I J → J 0 3 = c → ∀ x, x = nI i → XC xE0 (d + 2) xM_44 (11, [some (.ref 0), some (.int x)], [], (sh2, J, L, F)) Q := by
  have hk := hVI.2.1
  intro u
  induction u with
  | zero =>
    intro i hi J D h3 x hx
    refine XC.block [11] 60 ?_
    exact And.intro (fun z => ⟨trivial, hQ J D h3⟩) (fun z => absurd (show J 0 13 ≤ x by rw [(hVI.ag D).1, hx]; exact nI_le (by omega) (by omega)) z)
  | succ u ih =>
    intro i hi J D h3 x hx
    have hV := hVI.ag D
    have hF := hFI.agD D
    have hx1 : x + 1 = nI (i + 1) := by rw [hx, nI_1]
    obtain ⟨g1, g2, g3, g4⟩ := hV.2.2.1 i (by omega)
    have e2 : J 2 x.toNatClampNeg = nI (sKey f n i) := by rw [hx, nI_clamp (by omega)]; exact g1
    refine XC.block [11, 36] 60 ?_
    refine And.intro (fun z => absurd (show J 0 13 ≤ x from z) (by rw [hV.1, hx]; exact nI_ge (by omega) (by omega))) (fun z => ?_)
    refine And.intro (rf_in hx (by omega) (by decide)) ?_
    refine rf_is hF hG.1 g4 (m := 5) (by decide) rfW_al e2 rfl (fun h => ?_) (fun h => ?_)
    · refine And.intro (fun z => absurd (show (1 : Int32) = 0 from z) (by decide)) (fun _ => ?_)
      refine rf_al36 hG hF hV (by omega) hx (fun v hv => ?_)
      have D2 : rfD I (x2 J 10 11 v) := D.st (by decide) (by decide)
      have f2 : ¬ x2 J 10 11 v 0 3 ≤ 0 := by rw [show x2 J 10 11 v 0 3 = J 0 3 from rfl, h3]; exact hc
      refine XC.block [11] 60 ?_
      refine And.intro (rf_in (j := 11) rfl (by decide) (by decide)) ?_
      refine fr_in (fun c1 c2 => ?_) (fun c1 => ?_)
      · exact And.intro (fun _ => rf_badF f2 (ih (i + 1) (by omega) _ D2 h3 _ hx1)) (fun _ => rf_badF f2 (ih (i + 1) (by omega) _ D2 h3 _ hx1))
      · exact And.intro (fun _ => rf_badF f2 (ih (i + 1) (by omega) _ D2 h3 _ hx1)) (fun _ => rf_badF f2 (ih (i + 1) (by omega) _ D2 h3 _ hx1))
    · refine And.intro (fun _ => ?_) (fun z => absurd (show (0 : Int32) = 0 from rfl) z)
      exact ih (i + 1) (by omega) J D h3 _ hx1
theorem rf_al11 (hG : rfG f n) {k : Nat} (hFI : rfF f n I) (hVI : rfV f n k I) :
    ∀ (u i acc : Nat), i + u = k → (∀ A, sAlF f n u i acc = some A → ∀ J', rfD I J' → J' 0 3 = 0 → J' 10 11 = nI A → (∀ b k, b ≠ 0 → ¬ (b = 10 ∧ k = 11) → J' b k = I b k) → (∀ k, 4 < k → J' 0 k = I 0 k) → Q none (sh2, J', L, F)) →
    (sAlF f n u i acc = none → ∀ J', rfD I J' → J' 0 3 = 9 → Q none (sh2, J', L, F)) →
    ∀ J, rfD I J → J 0 3 = 0 → J 10 11 = nI acc → (∀ b k, b ≠ 0 → ¬ (b = 10 ∧ k = 11) → J b k = I b k) → (∀ k, 4 < k → J 0 k = I 0 k) → ∀ x, x = nI i → XC xE0 (d + 2) xM_44 (11, [some (.ref 0), some (.int x)], [], (sh2, J, L, F)) Q := by
  have hk := hVI.2.1
  intro u
  induction u with
  | zero =>
    intro i acc hi ok bd J D h3 h10 hfr hf0 x hx
    refine XC.block [11] 60 ?_
    exact And.intro (fun z => ⟨trivial, ok acc rfl J D h3 h10 hfr hf0⟩) (fun z => absurd (show J 0 13 ≤ x by rw [(hVI.ag D).1, hx]; exact nI_le (by omega) (by omega)) z)
  | succ u ih =>
    intro i acc hi ok bd J D h3 h10 hfr hf0 x hx
    have hV := hVI.ag D
    have hF := hFI.agD D
    have hx1 : x + 1 = nI (i + 1) := by rw [hx, nI_1]
    obtain ⟨g1, g2, g3, g4⟩ := hV.2.2.1 i (by omega)
    have e2 : J 2 x.toNatClampNeg = nI (sKey f n i) := by rw [hx, nI_clamp (by omega)]; exact g1
    refine XC.block [11, 36] 60 ?_
    refine And.intro (fun z => absurd (show J 0 13 ≤ x from z) (by rw [hV.1, hx]; exact nI_ge (by omega) (by omega))) (fun z => ?_)
    refine And.intro (rf_in hx (by omega) (by decide)) ?_
    refine rf_is hF hG.1 g4 (m := 5) (by decide) rfW_al e2 rfl (fun h => ?_) (fun h => ?_)
    · refine And.intro (fun z => absurd (show (1 : Int32) = 0 from z) (by decide)) (fun _ => ?_)
      refine rf_al36 hG hF hV (by omega) hx (fun v hv => ?_)
      have hW : ∃ w, w = (sAv f n i) := ⟨_, rfl⟩
      obtain ⟨w, hW⟩ := hW
      rw [← hW] at hv
      have hw : w < 2 ^ 32 := by
        rw [hW]
        unfold sAv
        split
        · have := sNum_lt hG.1 4 (sVa f n i); omega
        · omega
      have eS : sAlF f n (u + 1) i acc = (if 1 ≤ w ∧ w ≤ 64 then sAlF f n u (i + 1) w else none) := by
        show (bif sIsB f (sKey f n i) (sWd sWa) 5 then _ else _) = _
        rw [h, hW]
        rfl
      have D2 : rfD I (x2 J 10 11 v) := D.st (by decide) (by decide)
      refine XC.block [11] 60 ?_
      refine And.intro (rf_in (j := 11) rfl (by decide) (by decide)) ?_
      refine fr_in (fun c1 c2 => ?_) (fun c1 => ?_)
      · have c1 : ¬ v < 1 := c1
        have c2 : v ≤ 64 := c2
        have c3 : 1 ≤ w ∧ w ≤ 64 := by
          rw [hv] at c1 c2
          exact (nI_rng hw (by omega) (by omega)).mp ⟨c1, c2⟩
        rw [eS, if_pos c3] at ok bd
        refine And.intro (fun _ => rf_bad0 ?_) (fun z => absurd (show ¬ (1 : Int32) = 0 by decide) z)
        refine ih (i + 1) w (by omega) ok bd (x2 J 10 11 v) D2 h3 hv (fun b k hb hbk => ?_) (fun k hk => ?_) _ hx1
        · rw [x2_o _ _ hbk]; exact hfr b k hb hbk
        · exact hf0 k hk
      · have c1 : v < 1 ∨ ¬ v ≤ 64 := c1
        have c3 : ¬ (1 ≤ w ∧ w ≤ 64) := by
          rw [hv] at c1
          intro c
          have := (nI_rng (lo := 1) (hi := 64) hw (by omega) (by omega)).mpr c
          exact c1.elim this.1 (fun y => y this.2)
        rw [eS, if_neg c3] at bd
        refine And.intro (fun z => absurd (show (0 : Int32) = 0 from rfl) z) (fun _ => rf_bad1 h3 ?_)
        exact rf_alF hG (c := 9) hFI hVI (by decide) (bd rfl) u (i + 1) (by omega) _ D2.bad rfl _ hx1
    · refine And.intro (fun _ => ?_) (fun z => absurd (show (0 : Int32) = 0 from rfl) z)
      have eS : sAlF f n (u + 1) i acc = sAlF f n u (i + 1) acc := by
        show (bif sIsB f (sKey f n i) (sWd sWa) 5 then _ else _) = _
        rw [h]
        rfl
      rw [eS] at ok bd
      exact ih (i + 1) acc (by omega) ok bd J D h3 h10 hfr hf0 _ hx1
theorem rf_align (hG : rfG f n) {k : Nat} (hF : rfF f n I) (hV : rfV f n k I) (h3 : I 0 3 = 0)
    (hok : ∀ A, sAlF f n k 0 8 = some A → ∀ J', rfD I J' → J' 0 3 = 0 → J' 10 11 = nI A → (∀ b k, b ≠ 0 → ¬ (b = 10 ∧ k = 11) → J' b k = I b k) → (∀ k, 4 < k → J' 0 k = I 0 k) → Q none (sh2, J', L, F))
    (hbad : sAlF f n k 0 8 = none → ∀ J', rfD I J' → J' 0 3 = 9 → Q none (sh2, J', L, F)) : XM xE0 (d + 2) 44 [.ref 0] (sh2, I, L, F) Q := by
  refine XC.block [11] 60 ?_
  refine And.intro (rf_in (j := 11) rfl (by decide) (by decide)) ?_
  have D : rfD I (x2 I 10 11 8) := rfD.rf.st (by decide) (by decide)
  refine rf_al11 (I := I) hG hF hV k 0 8 (by omega) hok hbad (x2 I 10 11 8) D h3 rfl (fun b k hb hbk => ?_) (fun k hk => rfl) _ rfl
  exact x2_o _ _ hbk
theorem rf_alignF (hG : rfG f n) {k : Nat} (hF : rfF f n I) (hV : rfV f n k I) {c : Int32} (h3 : I 0 3 = c) (hc : ¬ c ≤ 0)
    (hQ : ∀ J', rfD I J' → J' 0 3 = c → Q none (sh2, J', L, F)) : XM xE0 (d + 2) 44 [.ref 0] (sh2, I, L, F) Q := by
  refine XC.block [11] 60 ?_
  refine And.intro (rf_in (j := 11) rfl (by decide) (by decide)) ?_
  exact rf_alF hG hF hV hc hQ k 0 (by omega) (x2 I 10 11 8) (rfD.rf.st (by decide) (by decide)) h3 _ rfl
end RFL
