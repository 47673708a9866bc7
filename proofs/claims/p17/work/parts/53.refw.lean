/-! take of the reference -/
theorem sBg_mono {f : Nat → Nat} {n b : Nat} : ∀ (i l : Nat), l < i → sBg f n b l + sCo f n b l * sRo f n b l ≤ sBg f n b i
  | 0, l, h => absurd h (by omega)
  | i + 1, l, h => by
    show _ ≤ sBg f n b i + sCo f n b i * sRo f n b i
    rcases Nat.lt_or_ge l i with q | q
    · have := sBg_mono (f := f) (n := n) (b := b) i l q; omega
    · have : l = i := by omega
      subst this
      exact Nat.le_refl _
section RFX
variable {f : Nat → Nat} {n b t : Nat} {I J : Nat → Nat → Int32} {L : Nat → Nat → Int64} {F G : Nat → Nat → UInt32} {d : Nat} {Q : xP}
abbrev rfLt (x : Int32) (y2 y3 : Option Value) : xL := [some (.ref 0), some (.int x), y2, y3]
theorem rf_tk7 (hgo : ∀ J' x, (∀ b k, b ≠ 17 → J' b k = I b k) → (∀ j, j < 6 → J' 17 j = I 10 j) → XC xE0 (d + 3) xM_53 (31, rfLt x none none, [], (sh2, J', L, F)) Q) :
    ∀ (u i : Nat), i + u = 6 → ∀ J, (∀ b k, b ≠ 17 → J b k = I b k) → (∀ j, j < i → J 17 j = I 10 j) → ∀ x, x = nI i → XC xE0 (d + 3) xM_53 (7, rfLt x none none, [], (sh2, J, L, F)) Q := by
  intro u
  induction u with
  | zero =>
    intro i hi J D h17 x hx
    refine XC.block [31] 60 ?_
    exact And.intro (fun _ => hgo J x D (fun j hj => h17 j (by omega))) (fun z => absurd (show (6 : Int32) ≤ x by rw [hx, show (6 : Int32) = nI 6 from rfl]; exact nI_le (by omega) (by omega)) z)
  | succ u ih =>
    intro i hi J D h17 x hx
    have ek : x.toNatClampNeg = i := by rw [hx, nI_clamp (by omega)]
    refine XC.block [7, 31] 60 ?_
    refine And.intro (fun z => absurd (show (6 : Int32) ≤ x from z) (by rw [hx, show (6 : Int32) = nI 6 from rfl]; exact nI_ge (by omega) (by omega))) (fun _ => ?_)
    refine And.intro (rf_in hx (by omega) (by decide)) ?_
    refine And.intro (rf_in hx (by omega) (by decide)) ?_
    refine ih (i + 1) (by omega) (x2 J 17 x.toNatClampNeg (J 10 x.toNatClampNeg)) (fun b k hb => by rw [x2_o _ _ (by omega)]; exact D b k hb) (fun j hj => ?_) _ (show x + 1 = nI (i + 1) by rw [hx, nI_1])
    rcases Nat.lt_or_ge j i with y | y
    · rw [x2_o _ _ (by omega)]; exact h17 j y
    · have : j = i := by omega
      subst this
      rw [ek, x2_same]; exact D 10 j (by decide)
theorem rf_tk31 {x : Int32} (hgo : ∀ J', (∀ b k, b ≠ 17 → J' b k = J b k) → (∀ j, j < 6 → J' 17 j = J 17 j) → J' 17 6 = J 0 22 → J' 17 7 = J 0 23 → J' 17 8 = J 10 10 → J' 17 9 = J 0 13 → J' 17 10 = J 0 14 → J' 17 11 = J 10 11 → XC xE0 (d + 3) xM_53 (121, rfLt 0 none none, [], (sh2, J', L, x2 (x2 F 0 39 (F 0 25)) 0 40 (F 0 26))) Q) : XC xE0 (d + 3) xM_53 (31, rfLt x none none, [], (sh2, J, L, F)) Q := by
  refine XC.block [67] 60 ?_
  refine And.intro (rf_in (j := 6) rfl (by decide) (by decide)) ?_
  refine And.intro (rf_in (j := 7) rfl (by decide) (by decide)) ?_
  refine And.intro (rf_in (j := 10) rfl (by decide) (by decide)) ?_
  refine And.intro (rf_in (j := 8) rfl (by decide) (by decide)) ?_
  have go : ∀ J1, (∀ b k, b ≠ 17 → J1 b k = J b k) → (∀ j, j < 6 → J1 17 j = J 17 j) → J1 17 6 = J 0 22 → J1 17 7 = J 0 23 → J1 17 8 = J 10 10 → XC xE0 (d + 3) xM_53 (67, rfLt x none none, [], (sh2, J1, L, F)) Q := by
    intro J1 D h6 g6 g7 g8
    refine XC.block [121] 60 ?_
    refine And.intro (rf_in (j := 9) rfl (by decide) (by decide)) ?_
    refine And.intro (rf_in (j := 10) rfl (by decide) (by decide)) ?_
    refine And.intro (rf_in (j := 11) rfl (by decide) (by decide)) ?_
    refine And.intro (rf_in (j := 11) rfl (by decide) (by decide)) ?_
    refine hgo (x2 (x2 (x2 J1 17 9 (J1 0 13)) 17 10 (J1 0 14)) 17 11 (J1 10 11)) (fun b k hb => ?_) (fun j hj => ?_) ?_ ?_ ?_ ?_ ?_ ?_
    · rw [x2_o _ _ (by omega), x2_o _ _ (by omega), x2_o _ _ (by omega)]; exact D b k hb
    · rw [x2_o _ _ (by omega), x2_o _ _ (by omega), x2_o _ _ (by omega)]; exact h6 j hj
    · rw [x2_o _ _ (by omega), x2_o _ _ (by omega), x2_o _ _ (by omega)]; exact g6
    · rw [x2_o _ _ (by omega), x2_o _ _ (by omega), x2_o _ _ (by omega)]; exact g7
    · rw [x2_o _ _ (by omega), x2_o _ _ (by omega), x2_o _ _ (by omega)]; exact g8
    · rw [x2_o _ _ (by omega), x2_o _ _ (by omega), x2_same]; exact D 0 13 (by decide)
    · rw [x2_o _ _ (by omega), x2_same]; exact D 0 14 (by decide)
    · rw [x2_same]; exact D 10 11 (by decide)
  refine go (x2 (x2 (x2 J 17 6 (J 0 22)) 17 7 (J 0 23)) 17 8 (J 10 10)) (fun b k hb => ?_) (fun j hj => ?_) ?_ ?_ ?_
  · rw [x2_o _ _ (by omega), x2_o _ _ (by omega), x2_o _ _ (by omega)]
  · rw [x2_o _ _ (by omega), x2_o _ _ (by omega), x2_o _ _ (by omega)]
  · rw [x2_o _ _ (by omega), x2_o _ _ (by omega), x2_same]
  · rw [x2_o _ _ (by omega), x2_same]
  · rw [x2_same]
/-- TOKEN i is copied -/
theorem rf_tk148 (hG : rfG f n) (hF : rfF f n I) {K : Nat → Nat} {i : Nat} (hi : i < 16) (hK : I 11 i = nI (K i)) (hKb : K i + f (K i) < 1400) (hK4 : f (K i) ≤ 4) {x : Int32} (hx : x = nI i) {y3 : Option Value}
    (hgo : ∀ J' y, (∀ b k, ¬ (b = 18 ∧ 4 * i ≤ k) → J' b k = J b k) → (∀ j, j < f (K i) → J' 18 (4 * i + j) = nI (f (K i + 1 + j))) → XC xE0 (d + 3) xM_53 (189, rfLt x (some (.int y)) y3, [], (sh2, J', L, F)) Q) (hJ : ∀ b k, b ≠ 18 → b ≠ 19 → J b k = I b k) (h19 : J 19 i = nI (f (K i))) :
    ∀ (u j : Nat), j + u = f (K i) → ∀ J1, (∀ b k, ¬ (b = 18 ∧ 4 * i ≤ k) → J1 b k = J b k) → (∀ l, l < j → J1 18 (4 * i + l) = nI (f (K i + 1 + l))) → ∀ y, y = nI j → XC xE0 (d + 3) xM_53 (148, rfLt x (some (.int y)) y3, [], (sh2, J1, L, F)) Q := by
  intro u
  have ekx : x.toNatClampNeg = i := by rw [hx, nI_clamp (by omega)]
  have hb := hG.1 (K i)
  induction u with
  | zero =>
    intro j hj J1 D h y hy
    have e19 : J1 19 x.toNatClampNeg = nI (f (K i)) := by rw [ekx, D 19 i (by omega)]; exact h19
    refine XC.block [189] 60 ?_
    refine And.intro (rf_in hx (by omega) (by decide)) ?_
    exact And.intro (fun _ => hgo J1 y D (fun l hl => h l (by omega))) (fun z => absurd (show J1 19 x.toNatClampNeg ≤ y by rw [e19, hy]; exact nI_le (by omega) (by omega)) z)
  | succ u ih =>
    intro j hj J1 D h y hy
    have e19 : J1 19 x.toNatClampNeg = nI (f (K i)) := by rw [ekx, D 19 i (by omega)]; exact h19
    have e11 : J1 11 x.toNatClampNeg = nI (K i) := by rw [ekx, D 11 i (by omega), hJ 11 i (by decide) (by decide)]; exact hK
    have F1 : rfF f n J1 := ⟨fun k hk => by rw [D 1 k (by omega), hJ 1 k (by decide) (by decide)]; exact hF.1 k hk, by rw [D 0 1 (by omega), hJ 0 1 (by decide) (by decide)]; exact hF.2⟩
    have ei : 4 * x + y = nI (4 * i + j) := by rw [hx, hy, show (4 : Int32) = nI 4 from rfl, nI_mul, nI_add]
    have ef : J1 11 x.toNatClampNeg + 1 + y = nI (K i + 1 + j) := by rw [e11, hy, nI_1, nI_add]
    have eck : (4 * x + y).toNatClampNeg = 4 * i + j := by rw [ei, nI_clamp (by omega)]
    refine XC.block [148, 189] 60 ?_
    refine And.intro (rf_in hx (by omega) (by decide)) ?_
    refine And.intro (fun z => absurd (show J1 19 x.toNatClampNeg ≤ y from z) (by rw [e19, hy]; exact nI_ge (by omega) (by omega))) (fun _ => ?_)
    refine And.intro (rf_in hx (by omega) (by decide)) ?_
    refine And.intro (rf_in ef (by omega) (by decide)) ?_
    refine And.intro (rf_in ei (by omega) (by decide)) ?_
    refine ih (j + 1) (by omega) (x2 J1 18 (4 * x + y).toNatClampNeg (J1 1 (J1 11 x.toNatClampNeg + 1 + y).toNatClampNeg)) (fun b k hbk => ?_) (fun l hl => ?_) _ (show y + 1 = nI (j + 1) by rw [hy, nI_1])
    · rw [x2_o _ _ (by omega)]; exact D b k hbk
    · rw [rf_at F1 ef (by omega), eck]
      rcases Nat.lt_or_ge l j with q | q
      · rw [x2_o _ _ (by omega)]; exact h l q
      · have : l = j := by omega
        subst this
        rw [x2_same]
theorem rf_tk121 (hG : rfG f n) (hF : rfF f n I) {K : Nat → Nat} {m : Nat} (hm : m ≤ 16) (h22 : I 0 22 = nI m) (hK : ∀ i, i < m → I 11 i = nI (K i) ∧ K i + f (K i) < 1400 ∧ f (K i) ≤ 4)
    (hgo : ∀ J' x y2, (∀ b k, b ≠ 18 → b ≠ 19 → J' b k = I b k) → (∀ i, i < m → J' 19 i = nI (f (K i)) ∧ ∀ j, j < f (K i) → J' 18 (4 * i + j) = nI (f (K i + 1 + j))) → XC xE0 (d + 3) xM_53 (195, rfLt x y2 none, [], (sh2, J', L, F)) Q) :
    ∀ (u i : Nat), i + u = m → ∀ J, (∀ b k, b ≠ 18 → b ≠ 19 → J b k = I b k) → (∀ l, l < i → J 19 l = nI (f (K l)) ∧ ∀ j, j < f (K l) → J 18 (4 * l + j) = nI (f (K l + 1 + j))) → ∀ x y2, x = nI i → XC xE0 (d + 3) xM_53 (121, rfLt x y2 none, [], (sh2, J, L, F)) Q := by
  intro u
  induction u with
  | zero =>
    intro i hi J D h x y2 hx
    have j22 : J 0 22 = nI m := (D 0 22 (by decide) (by decide)).trans h22
    refine XC.block [195] 60 ?_
    exact And.intro (fun _ => hgo J x _ D (fun l hl => h l (by omega))) (fun z => absurd (show J 0 22 ≤ x by rw [j22, hx]; exact nI_le (by omega) (by omega)) z)
  | succ u ih =>
    intro i hi J D h x y2 hx
    obtain ⟨k1, k2, k3⟩ := hK i (by omega)
    have ek : x.toNatClampNeg = i := by rw [hx, nI_clamp (by omega)]
    have j22 : J 0 22 = nI m := (D 0 22 (by decide) (by decide)).trans h22
    have e11 : J 11 x.toNatClampNeg = nI (K i) := by rw [ek, D 11 i (by decide) (by decide)]; exact k1
    have FJ : rfF f n J := ⟨fun k hk => by rw [D 1 k (by decide) (by decide)]; exact hF.1 k hk, by rw [D 0 1 (by decide) (by decide)]; exact hF.2⟩
    have eo : J 1 (J 11 x.toNatClampNeg).toNatClampNeg = nI (f (K i)) := rf_at FJ e11 (by omega)
    refine XC.block [148, 195] 60 ?_
    refine And.intro (fun z => absurd (show J 0 22 ≤ x from z) (by rw [j22, hx]; exact nI_ge (by omega) (by omega))) (fun _ => ?_)
    refine And.intro (rf_in hx (by omega) (by decide)) ?_
    refine And.intro (rf_in e11 (by omega) (by decide)) ?_
    refine And.intro (rf_in hx (by omega) (by decide)) ?_
    have go : ∀ v, v = nI (f (K i)) → XC xE0 (d + 3) xM_53 (148, rfLt x (some (.int 0)) none, [], (sh2, x2 J 19 x.toNatClampNeg v, L, F)) Q := by
      intro v hv
      have hJ2 : ∀ b k, b ≠ 18 → b ≠ 19 → x2 J 19 x.toNatClampNeg v b k = I b k := fun b k h1 h2 => by rw [x2_o _ _ (by omega)]; exact D b k h1 h2
      refine rf_tk148 (I := I) (J := x2 J 19 x.toNatClampNeg v) hG hF (K := K) (i := i) (by omega) k1 k2 k3 hx (fun J' y D' h' => ?_) hJ2 (by rw [ek, x2_same]; exact hv) (f (K i)) 0 (by omega) _ (fun _ _ _ => rfl) (fun l hl => absurd hl (by omega)) _ rfl
      refine XC.block [121] 60 ?_
      refine ih (i + 1) (by omega) J' (fun b k h1 h2 => by rw [D' b k (by omega)]; exact hJ2 b k h1 h2) (fun l hl => ?_) _ _ (show x + 1 = nI (i + 1) by rw [hx, nI_1])
      rcases Nat.lt_or_ge l i with q | q
      · obtain ⟨g1, g2⟩ := h l q
        have hl4 := (hK l (by omega)).2.2
        refine ⟨by rw [D' 19 l (by omega), x2_o _ _ (by omega)]; exact g1, fun j hj => ?_⟩
        rw [D' 18 (4 * l + j) (by omega), x2_o _ _ (by omega)]
        exact g2 j hj
      · have : l = i := by omega
        subst this
        exact ⟨by rw [D' 19 l (by omega), ek, x2_same]; exact hv, h'⟩
    exact go _ eo
theorem rf_tk197 {g : Nat} (hg : g ≤ 12) (h23 : I 0 23 = nI g)
    (hgo : ∀ J' x, (∀ b k, b ≠ 20 → b ≠ 21 → b ≠ 22 → J' b k = I b k) → (∀ i, i < g → J' 20 i = I 12 i ∧ J' 21 i = I 13 i ∧ J' 22 i = I 14 i) → ∀ y2, XC xE0 (d + 3) xM_53 (247, rfLt x y2 none, [], (sh2, J', L, F)) Q) :
    ∀ (u i : Nat), i + u = g → ∀ J, (∀ b k, b ≠ 20 → b ≠ 21 → b ≠ 22 → J b k = I b k) → (∀ l, l < i → J 20 l = I 12 l ∧ J 21 l = I 13 l ∧ J 22 l = I 14 l) → ∀ x y2, x = nI i → XC xE0 (d + 3) xM_53 (197, rfLt x y2 none, [], (sh2, J, L, F)) Q := by
  intro u
  induction u with
  | zero =>
    intro i hi J D h x y2 hx
    have j23 : J 0 23 = nI g := (D 0 23 (by decide) (by decide) (by decide)).trans h23
    refine XC.block [247] 60 ?_
    exact And.intro (fun _ => hgo J x D (fun l hl => h l (by omega)) _) (fun z => absurd (show J 0 23 ≤ x by rw [j23, hx]; exact nI_le (by omega) (by omega)) z)
  | succ u ih =>
    intro i hi J D h x y2 hx
    have ek : x.toNatClampNeg = i := by rw [hx, nI_clamp (by omega)]
    have j23 : J 0 23 = nI g := (D 0 23 (by decide) (by decide) (by decide)).trans h23
    refine XC.block [197, 247] 60 ?_
    refine And.intro (fun z => absurd (show J 0 23 ≤ x from z) (by rw [j23, hx]; exact nI_ge (by omega) (by omega))) (fun _ => ?_)
    refine And.intro (rf_in hx (by omega) (by decide)) ?_
    refine And.intro (rf_in hx (by omega) (by decide)) ?_
    refine And.intro (rf_in hx (by omega) (by decide)) ?_
    refine And.intro (rf_in hx (by omega) (by decide)) ?_
    refine And.intro (rf_in hx (by omega) (by decide)) ?_
    refine And.intro (rf_in hx (by omega) (by decide)) ?_
    refine ih (i + 1) (by omega) (x2 (x2 (x2 J 20 x.toNatClampNeg (J 12 x.toNatClampNeg)) 21 x.toNatClampNeg (J 13 x.toNatClampNeg)) 22 x.toNatClampNeg (J 14 x.toNatClampNeg)) (fun b k h1 h2 h3 => ?_) (fun l hl => ?_) _ _ (show x + 1 = nI (i + 1) by rw [hx, nI_1])
    · rw [x2_o _ _ (by omega), x2_o _ _ (by omega), x2_o _ _ (by omega)]; exact D b k h1 h2 h3
    · rcases Nat.lt_or_ge l i with q | q
      · obtain ⟨g1, g2, g3⟩ := h l q
        refine ⟨?_, ?_, ?_⟩
        · rw [x2_o _ _ (by omega), x2_o _ _ (by omega), x2_o _ _ (by omega)]; exact g1
        · rw [x2_o _ _ (by omega), x2_o _ _ (by omega), x2_o _ _ (by omega)]; exact g2
        · rw [x2_o _ _ (by omega), x2_o _ _ (by omega), x2_o _ _ (by omega)]; exact g3
      · have : l = i := by omega
        subst this
        refine ⟨?_, ?_, ?_⟩
        · rw [x2_o _ _ (by omega), x2_o _ _ (by omega), ek, x2_same]; exact D 12 l (by decide) (by decide) (by decide)
        · rw [x2_o _ _ (by omega), ek, x2_same]; exact D 13 l (by decide) (by decide) (by decide)
        · rw [ek, x2_same]; exact D 14 l (by decide) (by decide) (by decide)
theorem rf_tk249 {ly : Nat} (hly : ly ≤ 2) (h3 : I 10 3 = nI ly)
    (hgo : ∀ J' x y2, (∀ b k, b ≠ 23 → J' b k = I b k) → (∀ q, q < 3 + 9 * ly → J' 23 q = I 15 q) → XC xE0 (d + 3) xM_53 (282, rfLt x y2 none, [], (sh2, J', L, F)) Q) :
    ∀ (u i : Nat), i + u = 3 + 9 * ly → ∀ J, (∀ b k, b ≠ 23 → J b k = I b k) → (∀ l, l < i → J 23 l = I 15 l) → ∀ x y2, x = nI i → XC xE0 (d + 3) xM_53 (249, rfLt x y2 none, [], (sh2, J, L, F)) Q := by
  intro u
  have em : ∀ J : Nat → Nat → Int32, J 10 3 = nI ly → 3 + 9 * J 10 3 = nI (3 + 9 * ly) := fun J e => by
    rw [e, show (9 : Int32) = nI 9 from rfl, nI_mul, show (3 : Int32) = nI 3 from rfl, nI_add]
  induction u with
  | zero =>
    intro i hi J D h x y2 hx
    have e := em J ((D 10 3 (by decide)).trans h3)
    refine XC.block [282] 60 ?_
    refine And.intro (rf_in (j := 3) rfl (by decide) (by decide)) ?_
    exact And.intro (fun _ => hgo J x _ D (fun l hl => h l (by omega))) (fun z => absurd (show 3 + 9 * J 10 3 ≤ x by rw [e, hx]; exact nI_le (by omega) (by omega)) z)
  | succ u ih =>
    intro i hi J D h x y2 hx
    have e := em J ((D 10 3 (by decide)).trans h3)
    have ek : x.toNatClampNeg = i := by rw [hx, nI_clamp (by omega)]
    refine XC.block [249, 282] 60 ?_
    refine And.intro (rf_in (j := 3) rfl (by decide) (by decide)) ?_
    refine And.intro (fun z => absurd (show 3 + 9 * J 10 3 ≤ x from z) (by rw [e, hx]; exact nI_ge (by omega) (by omega))) (fun _ => ?_)
    refine And.intro (rf_in hx (by omega) (by decide)) ?_
    refine And.intro (rf_in hx (by omega) (by decide)) ?_
    refine ih (i + 1) (by omega) (x2 J 23 x.toNatClampNeg (J 15 x.toNatClampNeg)) (fun b k hb => by rw [x2_o _ _ (by omega)]; exact D b k hb) (fun l hl => ?_) _ _ (show x + 1 = nI (i + 1) by rw [hx, nI_1])
    rcases Nat.lt_or_ge l i with q | q
    · rw [x2_o _ _ (by omega)]; exact h l q
    · have : l = i := by omega
      subst this
      rw [ek, x2_same]; exact D 15 l (by decide)
/-- what is copied of TENSOR i -/
def rfTw (f : Nat → Nat) (n b B : Nat) (J : Nat → Nat → Int32) (G : Nat → Nat → UInt32) (i : Nat) : Prop := J 24 i = nI (sCo f n b i) ∧ J 25 i = nI (sRo f n b i) ∧ J 26 i = nI (sBg f n b i) ∧ ∀ s, s < sCo f n b i * sRo f n b i → G 27 (sBg f n b i + s) = rfWg f n b B i s
theorem rf_tk327 (hG : rfG f n) (hF : rfF f n J) (hU : rfU f n b t J) {B i : Nat} (h24 : J 0 24 = nI B) (hi : i < t) (hpl : B + (sOf f n b i + sOc f n b i) ≤ n) (hbg : sBg f n b i + sCo f n b i * sRo f n b i ≤ 1866) {x2' : Int32} (hx : x2' = nI i)
    (hgo : ∀ G' x1 x3, x1 = nI (sBg f n b (i + 1)) → (∀ b' k, ¬ (b' = 27 ∧ sBg f n b i ≤ k) → G' b' k = G b' k) → (∀ s, s < sCo f n b i * sRo f n b i → G' 27 (sBg f n b i + s) = rfWg f n b B i s) → XC xE0 (d + 3) xM_53 (365, [some (.ref 0), some (.int x1), some (.int x2'), some (.int x3)], [], (sh2, J, L, G')) Q) :
    ∀ (u j : Nat), j + u = sCo f n b i * sRo f n b i → ∀ G1, (∀ b' k, ¬ (b' = 27 ∧ sBg f n b i ≤ k) → G1 b' k = G b' k) → (∀ s, s < j → G1 27 (sBg f n b i + s) = rfWg f n b B i s) → ∀ x1 x3, x1 = nI (sBg f n b i + j) → x3 = nI j → XC xE0 (d + 3) xM_53 (327, [some (.ref 0), some (.int x1), some (.int x2'), some (.int x3)], [], (sh2, J, L, G1)) Q := by
  have ht := hU.2.1
  obtain ⟨-, ⟨h6, h6a, h6b⟩, ⟨h7, h7a, h7b⟩, -⟩ := hU.2.2 i hi
  have ek : x2'.toNatClampNeg = i := by rw [hx, nI_clamp (by omega)]
  have ec : J 6 x2'.toNatClampNeg * J 7 x2'.toNatClampNeg = nI (sCo f n b i * sRo f n b i) := by rw [ek, h6, h7, nI_mul]
  intro u
  induction u with
  | zero =>
    intro j hj G1 D h x1 x3 h1 h3
    refine XC.block [365] 60 ?_
    refine And.intro (rf_in hx (by omega) (by decide)) ?_
    refine And.intro (rf_in hx (by omega) (by decide)) ?_
    refine And.intro (fun _ => hgo G1 x1 x3 ?_ D (fun s hs => h s (by omega))) (fun z => absurd (show J 6 x2'.toNatClampNeg * J 7 x2'.toNatClampNeg ≤ x3 by rw [ec, h3]; exact nI_le (by omega) (by omega)) z)
    rw [h1]
    show nI (sBg f n b i + j) = nI (sBg f n b i + sCo f n b i * sRo f n b i)
    rw [← hj]
    rfl
  | succ u ih =>
    intro j hj G1 D h x1 x3 h1 h3
    have e1 : x1.toNatClampNeg = sBg f n b i + j := by rw [h1, nI_clamp (by omega)]
    refine XC.block [327, 365] 60 ?_
    refine And.intro (rf_in hx (by omega) (by decide)) ?_
    refine And.intro (rf_in hx (by omega) (by decide)) ?_
    refine And.intro (fun z => absurd (show J 6 x2'.toNatClampNeg * J 7 x2'.toNatClampNeg ≤ x3 from z) (by rw [ec, h3]; exact nI_ge (by omega) (by omega))) (fun _ => ?_)
    refine rf_weigh hG hF hU h24 hi hpl (jj := j) (by omega) hx h3 ?_
    refine And.intro (rf_in h1 (by omega) (by decide)) ?_
    refine ih (j + 1) (by omega) (x2 G1 27 x1.toNatClampNeg (rfWg f n b B i j)) (fun b' k hb => by rw [x2_o _ _ (by omega)]; exact D b' k hb) (fun s hs => ?_) _ _ (show x1 + 1 = _ by rw [h1, nI_1]; rfl) (show x3 + 1 = nI (j + 1) by rw [h3, nI_1])
    rw [e1]
    rcases Nat.lt_or_ge s j with q | q
    · rw [x2_o _ _ (by omega)]; exact h s q
    · have : s = j := by omega
      subst this
      rw [x2_same]
theorem rf_tk286 (hG : rfG f n) (hF : rfF f n I) (hU : rfU f n b t I) {B : Nat} (h24 : I 0 24 = nI B) (hpl : ∀ i, i < t → B + (sOf f n b i + sOc f n b i) ≤ n) (hbg : ∀ i, i ≤ t → sBg f n b i ≤ 1866)
    (hgo : ∀ J' G' x1 x2' y3, (∀ b k, b ≠ 24 → b ≠ 25 → b ≠ 26 → J' b k = I b k) → (∀ b k, b ≠ 27 → G' b k = F b k) → (∀ i, i < t → rfTw f n b B J' G' i) → XC xE0 (d + 3) xM_53 (371, [some (.ref 0), some (.int x1), some (.int x2'), y3], [], (sh2, J', L, G')) Q) :
    ∀ (u i : Nat), i + u = t → ∀ J G, (∀ b k, b ≠ 24 → b ≠ 25 → b ≠ 26 → J b k = I b k) → (∀ b k, b ≠ 27 → G b k = F b k) → (∀ l, l < i → rfTw f n b B J G l) → ∀ x1 x2' y3, x1 = nI (sBg f n b i) → x2' = nI i → XC xE0 (d + 3) xM_53 (286, [some (.ref 0), some (.int x1), some (.int x2'), y3], [], (sh2, J, L, G)) Q := by
  have ht := hU.2.1
  intro u
  induction u with
  | zero =>
    intro i hi J G D DG h x1 x2' y3 h1 hx
    have j14 : J 0 14 = nI t := (D 0 14 (by decide) (by decide) (by decide)).trans hU.1
    refine XC.block [371] 60 ?_
    exact And.intro (fun _ => hgo J G _ _ _ D DG (fun l hl => h l (by omega))) (fun z => absurd (show J 0 14 ≤ x2' by rw [j14, hx]; exact nI_le (by omega) (by omega)) z)
  | succ u ih =>
    intro i hi J G D DG h x1 x2' y3 h1 hx
    have ek : x2'.toNatClampNeg = i := by rw [hx, nI_clamp (by omega)]
    have j14 : J 0 14 = nI t := (D 0 14 (by decide) (by decide) (by decide)).trans hU.1
    obtain ⟨-, ⟨h6, h6a, h6b⟩, ⟨h7, h7a, h7b⟩, -⟩ := hU.2.2 i (by omega)
    refine XC.block [327, 371] 60 ?_
    refine And.intro (fun z => absurd (show J 0 14 ≤ x2' from z) (by rw [j14, hx]; exact nI_ge (by omega) (by omega))) (fun _ => ?_)
    refine And.intro (rf_in hx (by omega) (by decide)) ?_
    refine And.intro (rf_in hx (by omega) (by decide)) ?_
    refine And.intro (rf_in hx (by omega) (by decide)) ?_
    refine And.intro (rf_in hx (by omega) (by decide)) ?_
    refine And.intro (rf_in hx (by omega) (by decide)) ?_
    have go : ∀ J1, (∀ b k, ¬ ((b = 24 ∨ b = 25 ∨ b = 26) ∧ k = i) → J1 b k = J b k) → J1 24 i = nI (sCo f n b i) → J1 25 i = nI (sRo f n b i) → J1 26 i = nI (sBg f n b i) → XC xE0 (d + 3) xM_53 (327, [some (.ref 0), some (.int x1), some (.int x2'), some (.int 0)], [], (sh2, J1, L, G)) Q := by
      intro J1 D1 g24 g25 g26
      have D1' : ∀ b k, b ≠ 24 → b ≠ 25 → b ≠ 26 → J1 b k = I b k := fun b k k1 k2 k3 => (D1 b k (by omega)).trans (D b k k1 k2 k3)
      have U1 : rfU f n b t J1 := by
        refine ⟨(D1' 0 14 (by decide) (by decide) (by decide)).trans hU.1, ht, fun j hj => ?_⟩
        obtain ⟨a1, a2, a3, a4, a5⟩ := hU.2.2 j hj
        exact ⟨⟨(D1' 5 j (by decide) (by decide) (by decide)).trans a1.1, a1.2⟩, ⟨(D1' 6 j (by decide) (by decide) (by decide)).trans a2.1, a2.2⟩, ⟨(D1' 7 j (by decide) (by decide) (by decide)).trans a3.1, a3.2⟩, ⟨(D1' 8 j (by decide) (by decide) (by decide)).trans a4.1, a4.2⟩, (D1' 9 j (by decide) (by decide) (by decide)).trans a5.1, a5.2⟩
      have F1 : rfF f n J1 := ⟨fun k hk => (D1' 1 k (by decide) (by decide) (by decide)).trans (hF.1 k hk), (D1' 0 1 (by decide) (by decide) (by decide)).trans hF.2⟩
      refine rf_tk327 (G := G) hG F1 U1 ((D1' 0 24 (by decide) (by decide) (by decide)).trans h24) (by omega) (hpl i (by omega)) (hbg (i + 1) (by omega)) hx (fun G' y1 y3 hy1 DG' hw => ?_) (sCo f n b i * sRo f n b i) 0 (by omega) G (fun _ _ _ => rfl) (fun s hs => absurd hs (by omega)) _ _ h1 rfl
      refine XC.block [286] 60 ?_
      refine ih (i + 1) (by omega) J1 G' D1' (fun b k hb => by rw [DG' b k (by omega)]; exact DG b k hb) (fun l hl => ?_) _ _ _ hy1 (show x2' + 1 = nI (i + 1) by rw [hx, nI_1])
      rcases Nat.lt_or_ge l i with q | q
      · obtain ⟨a1, a2, a3, a4⟩ := h l q
        have hm := sBg_mono (f := f) (n := n) (b := b) i l q
        refine ⟨(D1 24 l (by omega)).trans a1, (D1 25 l (by omega)).trans a2, (D1 26 l (by omega)).trans a3, fun s hs => ?_⟩
        rw [DG' 27 _ (by omega)]
        exact a4 s hs
      · have : l = i := by omega
        subst this
        exact ⟨g24, g25, g26, hw⟩
    refine go (x2 (x2 (x2 J 24 x2'.toNatClampNeg (J 6 x2'.toNatClampNeg)) 25 x2'.toNatClampNeg (J 7 x2'.toNatClampNeg)) 26 x2'.toNatClampNeg x1) (fun b k hb => ?_) ?_ ?_ ?_
    · rw [x2_o _ _ (by omega), x2_o _ _ (by omega), x2_o _ _ (by omega)]
    · rw [x2_o _ _ (by omega), x2_o _ _ (by omega), ek, x2_same, D 6 i (by decide) (by decide) (by decide)]; exact h6
    · rw [x2_o _ _ (by omega), ek, x2_same, D 7 i (by decide) (by decide) (by decide)]; exact h7
    · rw [ek, x2_same]; exact h1
end RFX
