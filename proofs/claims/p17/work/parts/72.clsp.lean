/-! the class on paper: takeShapes, the whole -/
section CLQ_a
variable {X : List (Option Nat)} {T : List xS} {f : Nat → Nat} {n b t k : Nat} {I J : Nat → Nat → Int32} {L : Nat → Nat → Int64} {F : Nat → Nat → UInt32} {d : Nat} {Q : xP}
/-- nothing changes but COLUMNS, ROWS, needed and count of the MODEL's TENSORS -/
def clT_a (I I' : Nat → Nat → Int32) : Prop := ∀ b k, ¬ (b = 45 ∧ k = 5) → b ≠ 47 → b ≠ 48 → b ≠ 49 → I' b k = I b k
theorem clU.agT_a (h : clU f n b t I) (a : clT_a I J) : clU f n b t J := by
  refine ⟨(a 5 10 (by omega) (by decide) (by decide) (by decide)).trans h.1, h.2.1, fun j hj => ?_⟩
  obtain ⟨h1, h2, h3, h4, h5⟩ := h.2.2 j hj
  exact ⟨⟨(a 9 j (by omega) (by decide) (by decide) (by decide)).trans h1.1, h1.2⟩, ⟨(a 10 j (by omega) (by decide) (by decide) (by decide)).trans h2.1, h2.2⟩, ⟨(a 11 j (by omega) (by decide) (by decide) (by decide)).trans h3.1, h3.2⟩, ⟨(a 12 j (by omega) (by decide) (by decide) (by decide)).trans h4.1, h4.2⟩, (a 13 j (by omega) (by decide) (by decide) (by decide)).trans h5.1, h5.2⟩
theorem clF.agT_a (h : clF f n I) (a : clT_a I J) : clF f n J := ⟨fun k hk => by rw [a 2 k (by omega) (by decide) (by decide) (by decide)]; exact h.1 k hk, (a 1 1 (by omega) (by decide) (by decide) (by decide)).trans h.2⟩
def clCR_a (f : Nat → Nat) (n b t : Nat) (J : Nat → Nat → Int32) : Prop := J 45 5 = nI t ∧ ∀ i, i < t → J 47 i = nI (sCo f n b i) ∧ J 48 i = nI (sRo f n b i) ∧ sCo f n b i ≤ 16 ∧ sRo f n b i ≤ 16
theorem cl_ts18_a (hU : clU f n b t I) (hgo : ∀ J' x, clT_a I J' → clCR_a f n b t J' → (∀ k, J' 49 k = I 49 k) → XC xE0 (d + 3) xM_101 (62, [some (.ref 14), some (.ref 38), some (.ref 45), some (.int x), none, none, none, none, none], [], (shG X (md1 T), J', L, F)) Q) :
    ∀ (u i : Nat), i + u = t → ∀ J, clT_a I J → J 45 5 = nI t → (∀ k, J 49 k = I 49 k) → (∀ l, l < i → J 47 l = nI (sCo f n b l) ∧ J 48 l = nI (sRo f n b l)) → ∀ x, x = nI i → XC xE0 (d + 3) xM_101 (18, [some (.ref 14), some (.ref 38), some (.ref 45), some (.int x), none, none, none, none, none], [], (shG X (md1 T), J, L, F)) Q := by
  have ht := hU.2.1
  intro u
  induction u with
  | zero =>
    intro i hi J D h5 hN hC x hx
    have : i = t := by omega
    subst this
    refine XC.block [62] 60 ?_
    refine And.intro (fun _ => hgo J x D ⟨h5, fun l hl => ⟨(hC l hl).1, (hC l hl).2, (hU.2.2 l hl).2.1.2.2, (hU.2.2 l hl).2.2.1.2.2⟩⟩ hN) (fun z => absurd (show J 45 5 ≤ x by rw [h5, hx]; exact nI_le (by omega) (by omega)) z)
  | succ u ih =>
    intro i hi J D h5 hN hC x hx
    have ek : x.toNatClampNeg = i := by rw [hx, nI_clamp (by omega)]
    obtain ⟨-, ⟨c6, c6a, c6b⟩, ⟨c7, c7a, c7b⟩, -⟩ := hU.2.2 i (by omega)
    refine XC.block [18] 60 ?_
    refine And.intro (fun z => absurd (show J 45 5 ≤ x from z) (by rw [h5, hx]; exact nI_ge (by omega) (by omega))) (fun _ => ?_)
    refine And.intro (rf_in hx (by omega) (by decide)) ?_
    refine And.intro (rf_in hx (by omega) (by decide)) ?_
    refine And.intro (rf_in hx (by omega) (by decide)) ?_
    refine And.intro (rf_in hx (by omega) (by decide)) ?_
    refine ih (i + 1) (by omega) (x2 (x2 J 47 x.toNatClampNeg (J 10 x.toNatClampNeg)) 48 x.toNatClampNeg (J 11 x.toNatClampNeg)) (fun b k k1 k2 k3 k4 => ?_) ?_ (fun k => ?_) (fun l hl => ?_) _ (show x + 1 = nI (i + 1) by rw [hx, nI_1])
    · rw [x2_o _ _ (fun e => k3 e.1), x2_o _ _ (fun e => k2 e.1)]; exact D b k k1 k2 k3 k4
    · rw [x2_o _ _ (by omega), x2_o _ _ (by omega)]; exact h5
    · rw [x2_o _ _ (by omega), x2_o _ _ (by omega)]; exact hN k
    · rcases Nat.lt_or_ge l i with y | y
      · rw [x2_o _ _ (by omega), x2_o _ _ (by omega), x2_o _ _ (by omega), x2_o _ _ (by omega)]; exact hC l y
      · have : l = i := by omega
        subst this
        refine ⟨?_, ?_⟩
        · rw [x2_o _ _ (by omega), ek, x2_same, D 10 l (by omega) (by decide) (by decide) (by decide)]; exact c6
        · rw [ek, x2_same, D 11 l (by omega) (by decide) (by decide) (by decide)]; exact c7
abbrev clLs_a (x3 x4 x5 x6 : Int32) (y7 y8 : Option Value) : xL := [some (.ref 14), some (.ref 38), some (.ref 45), some (.int x3), some (.int x4), some (.int x5), some (.int x6), y7, y8]
theorem cl_ts159_a (hG : rfG f n) (hF : clF f n I) (hU : clU f n b t I) {dd kv ff tk ly : Nat} (hly : ly ≤ 2) (p0 : I 39 0 = nI dd) (p4 : I 39 4 = nI ff) (pkv : I 38 5 * I 39 2 = nI kv) (bd : dd < 2 ^ 31) (bk : kv < 2 ^ 31) (bf : ff < 2 ^ 31) {x3 x4 x5 : Int32} (h3 : x3 = nI dd) (h5 : x5 = nI (9 * ly))
    (hok : (∀ q, q < 3 + 9 * ly → sGg f n b t dd kv ff tk q) → ∀ J', clT_a I J' → clCR_a f n b t J' → (∀ q, q < 3 + 9 * ly → J' 49 q = rfO (sOg f n b t q)) → Q (some (.int 1)) (shG X (md1 T), J', L, F))
    (hbad : (∃ q, q < 3 + 9 * ly ∧ ¬ sGg f n b t dd kv ff tk q) → ∀ J', clT_a I J' → Q (some (.int 0)) (shG X (md1 T), J', L, F)) :
    ∀ (u i : Nat), i + u = 9 * ly → ∀ J, clT_a I J → clCR_a f n b t J → (∀ q, q < 3 + i → J 49 q = rfO (sOg f n b t q)) → (∀ q, q < 3 + i → sGg f n b t dd kv ff tk q) → ∀ x6 y7 y8, x6 = nI i → XC xE0 (d + 3) xM_101 (159, clLs_a x3 x4 x5 x6 y7 y8, [], (shG X (md1 T), J, L, F)) Q := by
  have ht := hU.2.1
  intro u
  induction u with
  | zero =>
    intro i hi J D C hN hg x6 y7 y8 h6
    refine XC.block [159] 60 ?_
    exact And.intro (fun _ => ⟨(show (1 : Int32) &&& 1 = 1 by decide), hok (fun q hq => hg q (by omega)) J D C (fun q hq => hN q (by omega))⟩) (fun z => absurd (show x5 ≤ x6 by rw [h5, h6]; exact nI_le (by omega) (by omega)) z)
  | succ u ih =>
    intro i hi J D C hN hg x6 y7 y8 h6
    have i18 : i < 18 := by omega
    obtain ⟨n1, n2⟩ := sNws_l i i18
    have hrq := sRq_l (dd := dd) (kv := kv) (ff := ff) (tk := tk) i i18
    have em : x6 - x6 / 9 * 9 = nI (i % 9) := by rw [h6]; exact pk_rem (d := 9) (by omega) (by omega) (by omega)
    have r9 : i % 9 < 9 := Nat.mod_lt _ (by decide)
    have j0 : J 39 0 = nI dd := (D 39 0 (by omega) (by decide) (by decide) (by decide)).trans p0
    have j4 : J 39 4 = nI ff := (D 39 4 (by omega) (by decide) (by decide) (by decide)).trans p4
    have jkv : J 38 5 * J 39 2 = nI kv := by
      rw [D 38 5 (by omega) (by decide) (by decide) (by decide), D 39 2 (by omega) (by decide) (by decide) (by decide)]; exact pkv
    have brw : sRw dd kv ff (i % 9) < 2 ^ 31 := by
      have : ∀ p, p < 9 → sRw dd kv ff p < 2 ^ 31 := by
        intro p hp
        match p, hp with
        | 0, _ => show 1 < 2 ^ 31; omega
        | 1, _ => exact bd
        | 2, _ => exact bk
        | 3, _ => exact bk
        | 4, _ => exact bd
        | 5, _ => show 1 < 2 ^ 31; omega
        | 6, _ => exact bf
        | 7, _ => exact bf
        | 8, _ => exact bd
        | p + 9, h => exact absurd h (by omega)
      exact this _ r9
    have sg : sGg f n b t dd kv ff tk (3 + i) ↔ ∃ j, sOg f n b t (3 + i) = some j ∧ sCo f n b j = (if i % 9 = 8 then ff else dd) ∧ sRo f n b j = sRw dd kv ff (i % 9) := by
      unfold sGg; rw [hrq]
    have hOlt : ∀ j, sOg f n b t (3 + i) = some j → j < t := fun j e => by have := sNg_lt _ _ _ e; omega
    have i1u : i + 1 + u = 9 * ly := by omega
    have h6' : x6 + 1 = nI (i + 1) := by rw [h6, nI_1]
    have nx : ∀ j, clT_a I (x2 J 49 (3 + i) (nI j)) ∧ clCR_a f n b t (x2 J 49 (3 + i) (nI j)) := fun j => ⟨fun b k k1 k2 k3 k4 => by rw [x2_o _ _ (fun e => k4 e.1)]; exact D b k k1 k2 k3 k4, by rw [x2_o _ _ (by omega)]; exact C.1, fun l hl => by rw [x2_o _ _ (by omega), x2_o _ _ (by omega)]; exact C.2 l hl⟩
    have nq : ∀ j, sOg f n b t (3 + i) = some j → ∀ q, q < 3 + (i + 1) → x2 J 49 (3 + i) (nI j) 49 q = rfO (sOg f n b t q) := by
      intro j e q hq
      rcases Nat.lt_or_ge q (3 + i) with y | y
      · rw [x2_o _ _ (by omega)]; exact hN q y
      · have : q = 3 + i := by omega
        subst this
        rw [x2_same, e]; rfl
    have ng : ∀ j, sOg f n b t (3 + i) = some j → sCo f n b j = (if i % 9 = 8 then ff else dd) → sRo f n b j = sRw dd kv ff (i % 9) → ∀ q, q < 3 + (i + 1) → sGg f n b t dd kv ff tk q := by
      intro j e e2 e3 q hq
      rcases Nat.lt_or_ge q (3 + i) with y | y
      · exact hg q y
      · have : q = 3 + i := by omega
        subst this
        exact sg.mpr ⟨j, e, e2, e3⟩
    have c213 : ∀ p v c, p = nI (i % 9) → v = rfO (sOg f n b t (3 + i)) → c = nI (if i % 9 = 8 then ff else dd) → XC xE0 (d + 3) xM_101 (213, clLs_a x3 x4 x5 x6 (some (.int p)) (some (.int v)), [.int c, .int v, .int (3 + x6), .ref 45], (shG X (md1 T), J, L, F)) Q := by
      intro p v c hp hv hc
      refine XC.block [159] 60 ?_
      refine cl_rowsOf_a j0 j4 jkv (i % 9) r9 hp (fun r hr => ?_)
      refine cl_need_a ht C.2 (o := sOg f n b t (3 + i)) hOlt (qq := 3 + i) (by omega) (show (if i % 9 = 8 then ff else dd) < 2 ^ 31 by split; exact bf; exact bd) brw (show 3 + x6 = nI (3 + i) by rw [h6, show (3 : Int32) = nI 3 from rfl, nI_add]) hv hc hr (fun j e e2 e3 => ?_) (fun hno => ?_)
      · refine And.intro (fun _ => ?_) (fun z => absurd (show ¬ (1 : Int32) = 0 by decide) z)
        exact ih (i + 1) i1u (x2 J 49 (3 + i) (nI j)) (nx j).1 (nx j).2 (nq j e) (ng j e e2 e3) _ _ _ h6'
      · exact And.intro (fun z => absurd (show (0 : Int32) = 0 from rfl) z) (fun _ => ⟨(show (0 : Int32) &&& 1 = 0 by decide), hbad ⟨3 + i, by omega, fun w => hno (sg.mp w)⟩ J D⟩)
    have c189 : ∀ p v, p = nI (i % 9) → v = rfO (sOg f n b t (3 + i)) → XC xE0 (d + 3) xM_101 (189, clLs_a x3 x4 x5 x6 (some (.int p)) (some (.int v)), [], (shG X (md1 T), J, L, F)) Q := by
      intro p v hp hv
      refine XC.block [213] 60 ?_
      refine And.intro (fun z => c213 p v x3 hp hv ?_) (fun z => ?_)
      · have z : ¬ p = 8 := z
        rw [hp, show (8 : Int32) = nI 8 from rfl, nI_eq (by omega) (by omega)] at z
        rw [h3, if_neg z]
      · have z : ¬ ¬ p = 8 := z
        have z := Classical.not_not.mp z
        rw [hp, show (8 : Int32) = nI 8 from rfl, nI_eq (by omega) (by omega)] at z
        refine And.intro (rf_in (j := 4) rfl (by decide) (by decide)) (c213 p v (J 39 4) hp hv ?_)
        rw [j4, if_pos z]
    have c173 : ∀ p, p = nI (i % 9) → XC xE0 (d + 3) xM_101 (173, clLs_a x3 x4 x5 x6 (some (.int p)) y8, [], (shG X (md1 T), J, L, F)) Q := by
      intro p hp
      refine XC.block [189] 60 ?_
      refine cl_to15 (hF.agT_a D) hG (hU.agT_a D) (m := 2) (fr := 2 * i) (by omega) (w := sWd (sNws.getD (3 + i) [])) n2 (show 2 * x6 = nI (2 * i) by rw [h6, show (2 : Int32) = nI 2 from rfl, nI_mul]) rfl (fun v hv => ?_)
      refine c189 p v hp ?_
      rw [hv]
      unfold sOg
      rw [n1]
    refine XC.block [173] 60 ?_
    refine And.intro (fun z => absurd (show x5 ≤ x6 from z) (by rw [h5, h6]; exact nI_ge (by omega) (by omega))) (fun _ => ?_)
    refine And.intro (show ¬ (9 : Int32) = 0 by decide) ?_
    exact c173 _ em
theorem cl_ts145_a (hG : rfG f n) (hF : clF f n I) (hU : clU f n b t I) {dd kv ff tk ly : Nat} (hly : ly ≤ 2) (p0 : I 39 0 = nI dd) (p3 : I 39 3 = nI ly) (p4 : I 39 4 = nI ff) (pkv : I 38 5 * I 39 2 = nI kv) (bd : dd < 2 ^ 31) (bk : kv < 2 ^ 31) (bf : ff < 2 ^ 31) {x3 x4 : Int32} (h3 : x3 = nI dd)
    (hok : (∀ q, q < 3 + 9 * ly → sGg f n b t dd kv ff tk q) → ∀ J', clT_a I J' → clCR_a f n b t J' → (∀ q, q < 3 + 9 * ly → J' 49 q = rfO (sOg f n b t q)) → Q (some (.int 1)) (shG X (md1 T), J', L, F))
    (hbad : (∃ q, q < 3 + 9 * ly ∧ ¬ sGg f n b t dd kv ff tk q) → ∀ J', clT_a I J' → Q (some (.int 0)) (shG X (md1 T), J', L, F)) {i0 i1 i2 : Nat} (e0 : sOg f n b t 0 = some i0) (e1 : sOg f n b t 1 = some i1) (e2 : sOg f n b t 2 = some i2) (a0 : sCo f n b i0 = dd) (b0 : sRo f n b i0 = tk) (a1 : sCo f n b i1 = dd) (b1 : sRo f n b i1 = 1) (a2 : sCo f n b i2 = dd) (b2 : sRo f n b i2 = tk)
    {J4 : Nat → Nat → Int32} (D4 : clT_a I J4) (C4 : clCR_a f n b t J4) (w0 : J4 49 0 = nI i0) (w1 : J4 49 1 = nI i1) (w2 : J4 49 2 = nI i2) : XC xE0 (d + 3) xM_101 (145, [some (.ref 14), some (.ref 38), some (.ref 45), some (.int x3), some (.int x4), none, none, none, none], [], (shG X (md1 T), J4, L, F)) Q := by
  have e5 : J4 39 3 * 9 = nI (9 * ly) := by
    rw [D4 39 3 (by omega) (by decide) (by decide) (by decide), p3, show (9 : Int32) = nI 9 from rfl, nI_mul, Nat.mul_comm]
  have hN : ∀ q, q < 3 + 0 → J4 49 q = rfO (sOg f n b t q) := by
    intro q hq
    match q, hq with
    | 0, _ => rw [w0, e0]; rfl
    | 1, _ => rw [w1, e1]; rfl
    | 2, _ => rw [w2, e2]; rfl
    | q + 3, h => exact absurd h (by omega)
  have hg : ∀ q, q < 3 + 0 → sGg f n b t dd kv ff tk q := by
    intro q hq
    match q, hq with
    | 0, _ => exact ⟨i0, e0, a0, b0⟩
    | 1, _ => exact ⟨i1, e1, a1, b1⟩
    | 2, _ => exact ⟨i2, e2, a2, b2⟩
    | q + 3, h => exact absurd h (by omega)
  refine XC.block [159] 60 ?_
  refine And.intro (rf_in (j := 3) rfl (by decide) (by decide)) ?_
  exact cl_ts159_a (I := I) (tk := tk) (ly := ly) hG hF hU hly p0 p4 pkv bd bk bf h3 e5 hok hbad (9 * ly) 0 (Nat.zero_add _) J4 D4 C4 hN hg _ _ _ rfl
theorem cl_ts78_a (hG : rfG f n) (hF : clF f n J) (hU : clU f n b t J) (C : clCR_a f n b t J) {dd tk : Nat} (bd : dd < 2 ^ 31) (bt : tk < 2 ^ 31) {x3 x4 : Int32} (h3 : x3 = nI dd) (h4 : x4 = nI tk)
    (hgo : ∀ i, sOg f n b t 0 = some i → sCo f n b i = dd → sRo f n b i = tk → XC xE0 (d + 3) xM_101 (100, [some (.ref 14), some (.ref 38), some (.ref 45), some (.int x3), some (.int x4), none, none, none, none], [], (shG X (md1 T), x2 J 49 0 (nI i), L, F)) Q)
    (hb : ¬ (∃ i, sOg f n b t 0 = some i ∧ sCo f n b i = dd ∧ sRo f n b i = tk) → Q (some (.int 0)) (shG X (md1 T), J, L, F)) : XC xE0 (d + 3) xM_101 (78, [some (.ref 14), some (.ref 38), some (.ref 45), some (.int x3), some (.int x4), none, none, none, none], [], (shG X (md1 T), J, L, F)) Q := by
  have ht := hU.2.1
  have lt : ∀ j, sOg f n b t 0 = some j → j < t := fun j e => by have := sNg_lt _ _ _ e; omega
  have hw : ∀ i, i < 5 → sWd (sNws.getD 0 []) i = sWd [101, 109, 98, 101, 100] (0 + i) := by decide +kernel
  refine XC.block [100] 60 ?_
  refine cl_to12 hF hG hU (m := 5) (fr := 0) (by decide) (w := sWd (sNws.getD 0 [])) hw rfl rfl (fun v hv => ?_)
  refine cl_need_a ht C.2 (o := sOg f n b t 0) lt (qq := 0) (cc := dd) (rr := tk) (by decide) bd bt rfl hv h3 h4 (fun i e a b' => ?_) (fun hno => ?_)
  · exact And.intro (fun z => absurd (show (1 : Int32) = 0 from z) (by decide)) (fun _ => hgo i e a b')
  · exact And.intro (fun _ => ⟨(show (0 : Int32) &&& 1 = 0 by decide), hb hno⟩) (fun z => absurd (show (0 : Int32) = 0 from rfl) z)
theorem cl_ts100_a (hG : rfG f n) (hF : clF f n J) (hU : clU f n b t J) (C : clCR_a f n b t J) {dd tk : Nat} (bd : dd < 2 ^ 31) (bt : tk < 2 ^ 31) {x3 x4 : Int32} (h3 : x3 = nI dd) (h4 : x4 = nI tk)
    (hgo : ∀ i, sOg f n b t 1 = some i → sCo f n b i = dd → sRo f n b i = 1 → XC xE0 (d + 3) xM_101 (121, [some (.ref 14), some (.ref 38), some (.ref 45), some (.int x3), some (.int x4), none, none, none, none], [], (shG X (md1 T), x2 J 49 1 (nI i), L, F)) Q)
    (hb : ¬ (∃ i, sOg f n b t 1 = some i ∧ sCo f n b i = dd ∧ sRo f n b i = 1) → Q (some (.int 0)) (shG X (md1 T), J, L, F)) : XC xE0 (d + 3) xM_101 (100, [some (.ref 14), some (.ref 38), some (.ref 45), some (.int x3), some (.int x4), none, none, none, none], [], (shG X (md1 T), J, L, F)) Q := by
  have ht := hU.2.1
  have lt : ∀ j, sOg f n b t 1 = some j → j < t := fun j e => by have := sNg_lt _ _ _ e; omega
  have hw : ∀ i, i < 4 → sWd (sNws.getD 1 []) i = sWd [110, 111, 114, 109] (0 + i) := by decide +kernel
  refine XC.block [121] 60 ?_
  refine cl_to13 hF hG hU (m := 4) (fr := 0) (by decide) (w := sWd (sNws.getD 1 [])) hw rfl rfl (fun v hv => ?_)
  refine cl_need_a ht C.2 (o := sOg f n b t 1) lt (qq := 1) (cc := dd) (rr := 1) (by decide) bd (by decide) rfl hv h3 rfl (fun i e a b' => ?_) (fun hno => ?_)
  · exact And.intro (fun z => absurd (show (1 : Int32) = 0 from z) (by decide)) (fun _ => hgo i e a b')
  · exact And.intro (fun _ => ⟨(show (0 : Int32) &&& 1 = 0 by decide), hb hno⟩) (fun z => absurd (show (0 : Int32) = 0 from rfl) z)
theorem cl_ts121_a (hG : rfG f n) (hF : clF f n J) (hU : clU f n b t J) (C : clCR_a f n b t J) {dd tk : Nat} (bd : dd < 2 ^ 31) (bt : tk < 2 ^ 31) {x3 x4 : Int32} (h3 : x3 = nI dd) (h4 : x4 = nI tk)
    (hgo : ∀ i, sOg f n b t 2 = some i → sCo f n b i = dd → sRo f n b i = tk → XC xE0 (d + 3) xM_101 (145, [some (.ref 14), some (.ref 38), some (.ref 45), some (.int x3), some (.int x4), none, none, none, none], [], (shG X (md1 T), x2 J 49 2 (nI i), L, F)) Q)
    (hb : ¬ (∃ i, sOg f n b t 2 = some i ∧ sCo f n b i = dd ∧ sRo f n b i = tk) → Q (some (.int 0)) (shG X (md1 T), J, L, F)) : XC xE0 (d + 3) xM_101 (121, [some (.ref 14), some (.ref 38), some (.ref 45), some (.int x3), some (.int x4), none, none, none, none], [], (shG X (md1 T), J, L, F)) Q := by
  have ht := hU.2.1
  have lt : ∀ j, sOg f n b t 2 = some j → j < t := fun j e => by have := sNg_lt _ _ _ e; omega
  have hw : ∀ i, i < 3 → sWd (sNws.getD 2 []) i = sWd [111, 117, 116] (0 + i) := by decide +kernel
  refine XC.block [145] 60 ?_
  refine cl_to14 hF hG hU (m := 3) (fr := 0) (by decide) (w := sWd (sNws.getD 2 [])) hw rfl rfl (fun v hv => ?_)
  refine cl_need_a ht C.2 (o := sOg f n b t 2) lt (qq := 2) (cc := dd) (rr := tk) (by decide) bd bt rfl hv h3 h4 (fun i e a b' => ?_) (fun hno => ?_)
  · exact And.intro (fun _ => hgo i e a b') (fun z => absurd (show ¬ (1 : Int32) = 0 by decide) z)
  · exact And.intro (fun z => absurd (show (0 : Int32) = 0 from rfl) z) (fun _ => ⟨(show (0 : Int32) &&& 1 = 0 by decide), hb hno⟩)
theorem cl_takeShapes_a (hG : rfG f n) (hF : clF f n I) (hU : clU f n b t I) {dd kv ff tk ly : Nat} (hly : ly ≤ 2) (p0 : I 39 0 = nI dd) (p3 : I 39 3 = nI ly) (p4 : I 39 4 = nI ff) (p6 : I 39 6 = nI tk) (pkv : I 38 5 * I 39 2 = nI kv) (bd : dd < 2 ^ 31) (bk : kv < 2 ^ 31) (bf : ff < 2 ^ 31) (bt : tk < 2 ^ 31)
    (hok : (∀ q, q < 3 + 9 * ly → sGg f n b t dd kv ff tk q) → ∀ J', clT_a I J' → clCR_a f n b t J' → (∀ q, q < 3 + 9 * ly → J' 49 q = rfO (sOg f n b t q)) → Q (some (.int 1)) (shG X (md1 T), J', L, F))
    (hbad : (∃ q, q < 3 + 9 * ly ∧ ¬ sGg f n b t dd kv ff tk q) → ∀ J', clT_a I J' → Q (some (.int 0)) (shG X (md1 T), J', L, F)) : XM xE0 (d + 3) 101 [.ref 14, .ref 38] (shG X (md1 T), I, L, F) Q := by
  have q0 : 0 < 3 + 9 * ly := by omega
  have q1 : 1 < 3 + 9 * ly := by omega
  have q2 : 2 < 3 + 9 * ly := by omega
  have D0 : clT_a I (x2 I 45 5 (I 5 10)) := fun b k k1 _ _ _ => x2_o _ _ k1
  have N0 : ∀ k, x2 I 45 5 (I 5 10) 49 k = I 49 k := fun k => x2_o _ _ (by omega)
  have put : ∀ (J : Nat → Nat → Int32) (q i : Nat), clT_a I J → clCR_a f n b t J → clT_a I (x2 J 49 q (nI i)) ∧ clCR_a f n b t (x2 J 49 q (nI i)) := fun J q i D C => ⟨fun b k k1 k2 k3 k4 => by rw [x2_o _ _ (fun e => k4 e.1)]; exact D b k k1 k2 k3 k4, by rw [x2_o _ _ (by omega)]; exact C.1, fun l hl => by rw [x2_o _ _ (by omega), x2_o _ _ (by omega)]; exact C.2 l hl⟩
  have go : ∀ J1 x3 x4, clT_a I J1 → clCR_a f n b t J1 → x3 = nI dd → x4 = nI tk → XC xE0 (d + 3) xM_101 (78, [some (.ref 14), some (.ref 38), some (.ref 45), some (.int x3), some (.int x4), none, none, none, none], [], (shG X (md1 T), J1, L, F)) Q := by
    intro J1 x3 x4 D1 C1 h3 h4
    refine cl_ts78_a hG (hF.agT_a D1) (hU.agT_a D1) C1 bd bt h3 h4 (fun i0 e0 a0 b0 => ?_) (fun hno => hbad ⟨0, q0, hno⟩ J1 D1)
    have P2 := put J1 0 i0 D1 C1
    refine cl_ts100_a hG (hF.agT_a P2.1) (hU.agT_a P2.1) P2.2 bd bt h3 h4 (fun i1 e1 a1 b1 => ?_) (fun hno => hbad ⟨1, q1, hno⟩ _ P2.1)
    have P3 := put _ 1 i1 P2.1 P2.2
    refine cl_ts121_a hG (hF.agT_a P3.1) (hU.agT_a P3.1) P3.2 bd bt h3 h4 (fun i2 e2 a2 b2 => ?_) (fun hno => hbad ⟨2, q2, hno⟩ _ P3.1)
    have P4 := put _ 2 i2 P3.1 P3.2
    exact cl_ts145_a (tk := tk) hG hF hU hly p0 p3 p4 pkv bd bk bf h3 hok hbad e0 e1 e2 a0 b0 a1 b1 a2 b2 P4.1 P4.2 rfl rfl rfl
  refine XC.block [18] 60 ?_
  refine cl_ts18_a (I := I) hU (fun J1 x D1 C1 N1 => ?_) t 0 (Nat.zero_add _) _ D0 hU.1 N0 (fun l hl => absurd hl (Nat.not_lt_zero _)) _ rfl
  refine XC.block [78] 60 ?_
  refine And.intro (rf_in (j := 0) rfl (by decide) (by decide)) ?_
  refine And.intro (rf_in (j := 6) rfl (by decide) (by decide)) ?_
  exact go J1 _ _ D1 C1 ((D1 39 0 (by omega) (by decide) (by decide) (by decide)).trans p0) ((D1 39 6 (by omega) (by decide) (by decide) (by decide)).trans p6)
end CLQ_a
section CLQ_b
variable {X : List (Option Nat)} {T : List xS} {f : Nat → Nat} {n b t k : Nat} {I J : Nat → Nat → Int32} {L : Nat → Nat → Int64} {F : Nat → Nat → UInt32} {d : Nat} {Q : xP}
/-- nothing changes but COLUMNS, ROWS, needed and count of the MODEL's TENSORS -/
def clT_b (I I' : Nat → Nat → Int32) : Prop := ∀ b k, ¬ (b = 58 ∧ k = 5) → b ≠ 60 → b ≠ 61 → b ≠ 62 → I' b k = I b k
theorem clU.agT_b (h : clU f n b t I) (a : clT_b I J) : clU f n b t J := by
  refine ⟨(a 5 10 (by omega) (by decide) (by decide) (by decide)).trans h.1, h.2.1, fun j hj => ?_⟩
  obtain ⟨h1, h2, h3, h4, h5⟩ := h.2.2 j hj
  exact ⟨⟨(a 9 j (by omega) (by decide) (by decide) (by decide)).trans h1.1, h1.2⟩, ⟨(a 10 j (by omega) (by decide) (by decide) (by decide)).trans h2.1, h2.2⟩, ⟨(a 11 j (by omega) (by decide) (by decide) (by decide)).trans h3.1, h3.2⟩, ⟨(a 12 j (by omega) (by decide) (by decide) (by decide)).trans h4.1, h4.2⟩, (a 13 j (by omega) (by decide) (by decide) (by decide)).trans h5.1, h5.2⟩
theorem clF.agT_b (h : clF f n I) (a : clT_b I J) : clF f n J := ⟨fun k hk => by rw [a 2 k (by omega) (by decide) (by decide) (by decide)]; exact h.1 k hk, (a 1 1 (by omega) (by decide) (by decide) (by decide)).trans h.2⟩
def clCR_b (f : Nat → Nat) (n b t : Nat) (J : Nat → Nat → Int32) : Prop := J 58 5 = nI t ∧ ∀ i, i < t → J 60 i = nI (sCo f n b i) ∧ J 61 i = nI (sRo f n b i) ∧ sCo f n b i ≤ 16 ∧ sRo f n b i ≤ 16
theorem cl_ts18_b (hU : clU f n b t I) (hgo : ∀ J' x, clT_b I J' → clCR_b f n b t J' → (∀ k, J' 62 k = I 62 k) → XC xE0 (d + 3) xM_101 (62, [some (.ref 14), some (.ref 51), some (.ref 58), some (.int x), none, none, none, none, none], [], (shG X (md2 T), J', L, F)) Q) :
    ∀ (u i : Nat), i + u = t → ∀ J, clT_b I J → J 58 5 = nI t → (∀ k, J 62 k = I 62 k) → (∀ l, l < i → J 60 l = nI (sCo f n b l) ∧ J 61 l = nI (sRo f n b l)) → ∀ x, x = nI i → XC xE0 (d + 3) xM_101 (18, [some (.ref 14), some (.ref 51), some (.ref 58), some (.int x), none, none, none, none, none], [], (shG X (md2 T), J, L, F)) Q := by
  have ht := hU.2.1
  intro u
  induction u with
  | zero =>
    intro i hi J D h5 hN hC x hx
    have : i = t := by omega
    subst this
    refine XC.block [62] 60 ?_
    refine And.intro (fun _ => hgo J x D ⟨h5, fun l hl => ⟨(hC l hl).1, (hC l hl).2, (hU.2.2 l hl).2.1.2.2, (hU.2.2 l hl).2.2.1.2.2⟩⟩ hN) (fun z => absurd (show J 58 5 ≤ x by rw [h5, hx]; exact nI_le (by omega) (by omega)) z)
  | succ u ih =>
    intro i hi J D h5 hN hC x hx
    have ek : x.toNatClampNeg = i := by rw [hx, nI_clamp (by omega)]
    obtain ⟨-, ⟨c6, c6a, c6b⟩, ⟨c7, c7a, c7b⟩, -⟩ := hU.2.2 i (by omega)
    refine XC.block [18] 60 ?_
    refine And.intro (fun z => absurd (show J 58 5 ≤ x from z) (by rw [h5, hx]; exact nI_ge (by omega) (by omega))) (fun _ => ?_)
    refine And.intro (rf_in hx (by omega) (by decide)) ?_
    refine And.intro (rf_in hx (by omega) (by decide)) ?_
    refine And.intro (rf_in hx (by omega) (by decide)) ?_
    refine And.intro (rf_in hx (by omega) (by decide)) ?_
    refine ih (i + 1) (by omega) (x2 (x2 J 60 x.toNatClampNeg (J 10 x.toNatClampNeg)) 61 x.toNatClampNeg (J 11 x.toNatClampNeg)) (fun b k k1 k2 k3 k4 => ?_) ?_ (fun k => ?_) (fun l hl => ?_) _ (show x + 1 = nI (i + 1) by rw [hx, nI_1])
    · rw [x2_o _ _ (fun e => k3 e.1), x2_o _ _ (fun e => k2 e.1)]; exact D b k k1 k2 k3 k4
    · rw [x2_o _ _ (by omega), x2_o _ _ (by omega)]; exact h5
    · rw [x2_o _ _ (by omega), x2_o _ _ (by omega)]; exact hN k
    · rcases Nat.lt_or_ge l i with y | y
      · rw [x2_o _ _ (by omega), x2_o _ _ (by omega), x2_o _ _ (by omega), x2_o _ _ (by omega)]; exact hC l y
      · have : l = i := by omega
        subst this
        refine ⟨?_, ?_⟩
        · rw [x2_o _ _ (by omega), ek, x2_same, D 10 l (by omega) (by decide) (by decide) (by decide)]; exact c6
        · rw [ek, x2_same, D 11 l (by omega) (by decide) (by decide) (by decide)]; exact c7
abbrev clLs_b (x3 x4 x5 x6 : Int32) (y7 y8 : Option Value) : xL := [some (.ref 14), some (.ref 51), some (.ref 58), some (.int x3), some (.int x4), some (.int x5), some (.int x6), y7, y8]
theorem cl_ts159_b (hG : rfG f n) (hF : clF f n I) (hU : clU f n b t I) {dd kv ff tk ly : Nat} (hly : ly ≤ 2) (p0 : I 52 0 = nI dd) (p4 : I 52 4 = nI ff) (pkv : I 51 5 * I 52 2 = nI kv) (bd : dd < 2 ^ 31) (bk : kv < 2 ^ 31) (bf : ff < 2 ^ 31) {x3 x4 x5 : Int32} (h3 : x3 = nI dd) (h5 : x5 = nI (9 * ly))
    (hok : (∀ q, q < 3 + 9 * ly → sGg f n b t dd kv ff tk q) → ∀ J', clT_b I J' → clCR_b f n b t J' → (∀ q, q < 3 + 9 * ly → J' 62 q = rfO (sOg f n b t q)) → Q (some (.int 1)) (shG X (md2 T), J', L, F))
    (hbad : (∃ q, q < 3 + 9 * ly ∧ ¬ sGg f n b t dd kv ff tk q) → ∀ J', clT_b I J' → Q (some (.int 0)) (shG X (md2 T), J', L, F)) :
    ∀ (u i : Nat), i + u = 9 * ly → ∀ J, clT_b I J → clCR_b f n b t J → (∀ q, q < 3 + i → J 62 q = rfO (sOg f n b t q)) → (∀ q, q < 3 + i → sGg f n b t dd kv ff tk q) → ∀ x6 y7 y8, x6 = nI i → XC xE0 (d + 3) xM_101 (159, clLs_b x3 x4 x5 x6 y7 y8, [], (shG X (md2 T), J, L, F)) Q := by
  have ht := hU.2.1
  intro u
  induction u with
  | zero =>
    intro i hi J D C hN hg x6 y7 y8 h6
    refine XC.block [159] 60 ?_
    exact And.intro (fun _ => ⟨(show (1 : Int32) &&& 1 = 1 by decide), hok (fun q hq => hg q (by omega)) J D C (fun q hq => hN q (by omega))⟩) (fun z => absurd (show x5 ≤ x6 by rw [h5, h6]; exact nI_le (by omega) (by omega)) z)
  | succ u ih =>
    intro i hi J D C hN hg x6 y7 y8 h6
    have i18 : i < 18 := by omega
    obtain ⟨n1, n2⟩ := sNws_l i i18
    have hrq := sRq_l (dd := dd) (kv := kv) (ff := ff) (tk := tk) i i18
    have em : x6 - x6 / 9 * 9 = nI (i % 9) := by rw [h6]; exact pk_rem (d := 9) (by omega) (by omega) (by omega)
    have r9 : i % 9 < 9 := Nat.mod_lt _ (by decide)
    have j0 : J 52 0 = nI dd := (D 52 0 (by omega) (by decide) (by decide) (by decide)).trans p0
    have j4 : J 52 4 = nI ff := (D 52 4 (by omega) (by decide) (by decide) (by decide)).trans p4
    have jkv : J 51 5 * J 52 2 = nI kv := by
      rw [D 51 5 (by omega) (by decide) (by decide) (by decide), D 52 2 (by omega) (by decide) (by decide) (by decide)]; exact pkv
    have brw : sRw dd kv ff (i % 9) < 2 ^ 31 := by
      have : ∀ p, p < 9 → sRw dd kv ff p < 2 ^ 31 := by
        intro p hp
        match p, hp with
        | 0, _ => show 1 < 2 ^ 31; omega
        | 1, _ => exact bd
        | 2, _ => exact bk
        | 3, _ => exact bk
        | 4, _ => exact bd
        | 5, _ => show 1 < 2 ^ 31; omega
        | 6, _ => exact bf
        | 7, _ => exact bf
        | 8, _ => exact bd
        | p + 9, h => exact absurd h (by omega)
      exact this _ r9
    have sg : sGg f n b t dd kv ff tk (3 + i) ↔ ∃ j, sOg f n b t (3 + i) = some j ∧ sCo f n b j = (if i % 9 = 8 then ff else dd) ∧ sRo f n b j = sRw dd kv ff (i % 9) := by
      unfold sGg; rw [hrq]
    have hOlt : ∀ j, sOg f n b t (3 + i) = some j → j < t := fun j e => by have := sNg_lt _ _ _ e; omega
    have i1u : i + 1 + u = 9 * ly := by omega
    have h6' : x6 + 1 = nI (i + 1) := by rw [h6, nI_1]
    have nx : ∀ j, clT_b I (x2 J 62 (3 + i) (nI j)) ∧ clCR_b f n b t (x2 J 62 (3 + i) (nI j)) := fun j => ⟨fun b k k1 k2 k3 k4 => by rw [x2_o _ _ (fun e => k4 e.1)]; exact D b k k1 k2 k3 k4, by rw [x2_o _ _ (by omega)]; exact C.1, fun l hl => by rw [x2_o _ _ (by omega), x2_o _ _ (by omega)]; exact C.2 l hl⟩
    have nq : ∀ j, sOg f n b t (3 + i) = some j → ∀ q, q < 3 + (i + 1) → x2 J 62 (3 + i) (nI j) 62 q = rfO (sOg f n b t q) := by
      intro j e q hq
      rcases Nat.lt_or_ge q (3 + i) with y | y
      · rw [x2_o _ _ (by omega)]; exact hN q y
      · have : q = 3 + i := by omega
        subst this
        rw [x2_same, e]; rfl
    have ng : ∀ j, sOg f n b t (3 + i) = some j → sCo f n b j = (if i % 9 = 8 then ff else dd) → sRo f n b j = sRw dd kv ff (i % 9) → ∀ q, q < 3 + (i + 1) → sGg f n b t dd kv ff tk q := by
      intro j e e2 e3 q hq
      rcases Nat.lt_or_ge q (3 + i) with y | y
      · exact hg q y
      · have : q = 3 + i := by omega
        subst this
        exact sg.mpr ⟨j, e, e2, e3⟩
    have c213 : ∀ p v c, p = nI (i % 9) → v = rfO (sOg f n b t (3 + i)) → c = nI (if i % 9 = 8 then ff else dd) → XC xE0 (d + 3) xM_101 (213, clLs_b x3 x4 x5 x6 (some (.int p)) (some (.int v)), [.int c, .int v, .int (3 + x6), .ref 58], (shG X (md2 T), J, L, F)) Q := by
      intro p v c hp hv hc
      refine XC.block [159] 60 ?_
      refine cl_rowsOf_b j0 j4 jkv (i % 9) r9 hp (fun r hr => ?_)
      refine cl_need_b ht C.2 (o := sOg f n b t (3 + i)) hOlt (qq := 3 + i) (by omega) (show (if i % 9 = 8 then ff else dd) < 2 ^ 31 by split; exact bf; exact bd) brw (show 3 + x6 = nI (3 + i) by rw [h6, show (3 : Int32) = nI 3 from rfl, nI_add]) hv hc hr (fun j e e2 e3 => ?_) (fun hno => ?_)
      · refine And.intro (fun _ => ?_) (fun z => absurd (show ¬ (1 : Int32) = 0 by decide) z)
        exact ih (i + 1) i1u (x2 J 62 (3 + i) (nI j)) (nx j).1 (nx j).2 (nq j e) (ng j e e2 e3) _ _ _ h6'
      · exact And.intro (fun z => absurd (show (0 : Int32) = 0 from rfl) z) (fun _ => ⟨(show (0 : Int32) &&& 1 = 0 by decide), hbad ⟨3 + i, by omega, fun w => hno (sg.mp w)⟩ J D⟩)
    have c189 : ∀ p v, p = nI (i % 9) → v = rfO (sOg f n b t (3 + i)) → XC xE0 (d + 3) xM_101 (189, clLs_b x3 x4 x5 x6 (some (.int p)) (some (.int v)), [], (shG X (md2 T), J, L, F)) Q := by
      intro p v hp hv
      refine XC.block [213] 60 ?_
      refine And.intro (fun z => c213 p v x3 hp hv ?_) (fun z => ?_)
      · have z : ¬ p = 8 := z
        rw [hp, show (8 : Int32) = nI 8 from rfl, nI_eq (by omega) (by omega)] at z
        rw [h3, if_neg z]
      · have z : ¬ ¬ p = 8 := z
        have z := Classical.not_not.mp z
        rw [hp, show (8 : Int32) = nI 8 from rfl, nI_eq (by omega) (by omega)] at z
        refine And.intro (rf_in (j := 4) rfl (by decide) (by decide)) (c213 p v (J 52 4) hp hv ?_)
        rw [j4, if_pos z]
    have c173 : ∀ p, p = nI (i % 9) → XC xE0 (d + 3) xM_101 (173, clLs_b x3 x4 x5 x6 (some (.int p)) y8, [], (shG X (md2 T), J, L, F)) Q := by
      intro p hp
      refine XC.block [189] 60 ?_
      refine cl_to15 (hF.agT_b D) hG (hU.agT_b D) (m := 2) (fr := 2 * i) (by omega) (w := sWd (sNws.getD (3 + i) [])) n2 (show 2 * x6 = nI (2 * i) by rw [h6, show (2 : Int32) = nI 2 from rfl, nI_mul]) rfl (fun v hv => ?_)
      refine c189 p v hp ?_
      rw [hv]
      unfold sOg
      rw [n1]
    refine XC.block [173] 60 ?_
    refine And.intro (fun z => absurd (show x5 ≤ x6 from z) (by rw [h5, h6]; exact nI_ge (by omega) (by omega))) (fun _ => ?_)
    refine And.intro (show ¬ (9 : Int32) = 0 by decide) ?_
    exact c173 _ em
theorem cl_ts145_b (hG : rfG f n) (hF : clF f n I) (hU : clU f n b t I) {dd kv ff tk ly : Nat} (hly : ly ≤ 2) (p0 : I 52 0 = nI dd) (p3 : I 52 3 = nI ly) (p4 : I 52 4 = nI ff) (pkv : I 51 5 * I 52 2 = nI kv) (bd : dd < 2 ^ 31) (bk : kv < 2 ^ 31) (bf : ff < 2 ^ 31) {x3 x4 : Int32} (h3 : x3 = nI dd)
    (hok : (∀ q, q < 3 + 9 * ly → sGg f n b t dd kv ff tk q) → ∀ J', clT_b I J' → clCR_b f n b t J' → (∀ q, q < 3 + 9 * ly → J' 62 q = rfO (sOg f n b t q)) → Q (some (.int 1)) (shG X (md2 T), J', L, F))
    (hbad : (∃ q, q < 3 + 9 * ly ∧ ¬ sGg f n b t dd kv ff tk q) → ∀ J', clT_b I J' → Q (some (.int 0)) (shG X (md2 T), J', L, F)) {i0 i1 i2 : Nat} (e0 : sOg f n b t 0 = some i0) (e1 : sOg f n b t 1 = some i1) (e2 : sOg f n b t 2 = some i2) (a0 : sCo f n b i0 = dd) (b0 : sRo f n b i0 = tk) (a1 : sCo f n b i1 = dd) (b1 : sRo f n b i1 = 1) (a2 : sCo f n b i2 = dd) (b2 : sRo f n b i2 = tk)
    {J4 : Nat → Nat → Int32} (D4 : clT_b I J4) (C4 : clCR_b f n b t J4) (w0 : J4 62 0 = nI i0) (w1 : J4 62 1 = nI i1) (w2 : J4 62 2 = nI i2) : XC xE0 (d + 3) xM_101 (145, [some (.ref 14), some (.ref 51), some (.ref 58), some (.int x3), some (.int x4), none, none, none, none], [], (shG X (md2 T), J4, L, F)) Q := by
  have e5 : J4 52 3 * 9 = nI (9 * ly) := by
    rw [D4 52 3 (by omega) (by decide) (by decide) (by decide), p3, show (9 : Int32) = nI 9 from rfl, nI_mul, Nat.mul_comm]
  have hN : ∀ q, q < 3 + 0 → J4 62 q = rfO (sOg f n b t q) := by
    intro q hq
    match q, hq with
    | 0, _ => rw [w0, e0]; rfl
    | 1, _ => rw [w1, e1]; rfl
    | 2, _ => rw [w2, e2]; rfl
    | q + 3, h => exact absurd h (by omega)
  have hg : ∀ q, q < 3 + 0 → sGg f n b t dd kv ff tk q := by
    intro q hq
    match q, hq with
    | 0, _ => exact ⟨i0, e0, a0, b0⟩
    | 1, _ => exact ⟨i1, e1, a1, b1⟩
    | 2, _ => exact ⟨i2, e2, a2, b2⟩
    | q + 3, h => exact absurd h (by omega)
  refine XC.block [159] 60 ?_
  refine And.intro (rf_in (j := 3) rfl (by decide) (by decide)) ?_
  exact cl_ts159_b (I := I) (tk := tk) (ly := ly) hG hF hU hly p0 p4 pkv bd bk bf h3 e5 hok hbad (9 * ly) 0 (Nat.zero_add _) J4 D4 C4 hN hg _ _ _ rfl
theorem cl_ts78_b (hG : rfG f n) (hF : clF f n J) (hU : clU f n b t J) (C : clCR_b f n b t J) {dd tk : Nat} (bd : dd < 2 ^ 31) (bt : tk < 2 ^ 31) {x3 x4 : Int32} (h3 : x3 = nI dd) (h4 : x4 = nI tk)
    (hgo : ∀ i, sOg f n b t 0 = some i → sCo f n b i = dd → sRo f n b i = tk → XC xE0 (d + 3) xM_101 (100, [some (.ref 14), some (.ref 51), some (.ref 58), some (.int x3), some (.int x4), none, none, none, none], [], (shG X (md2 T), x2 J 62 0 (nI i), L, F)) Q)
    (hb : ¬ (∃ i, sOg f n b t 0 = some i ∧ sCo f n b i = dd ∧ sRo f n b i = tk) → Q (some (.int 0)) (shG X (md2 T), J, L, F)) : XC xE0 (d + 3) xM_101 (78, [some (.ref 14), some (.ref 51), some (.ref 58), some (.int x3), some (.int x4), none, none, none, none], [], (shG X (md2 T), J, L, F)) Q := by
  have ht := hU.2.1
  have lt : ∀ j, sOg f n b t 0 = some j → j < t := fun j e => by have := sNg_lt _ _ _ e; omega
  have hw : ∀ i, i < 5 → sWd (sNws.getD 0 []) i = sWd [101, 109, 98, 101, 100] (0 + i) := by decide +kernel
  refine XC.block [100] 60 ?_
  refine cl_to12 hF hG hU (m := 5) (fr := 0) (by decide) (w := sWd (sNws.getD 0 [])) hw rfl rfl (fun v hv => ?_)
  refine cl_need_b ht C.2 (o := sOg f n b t 0) lt (qq := 0) (cc := dd) (rr := tk) (by decide) bd bt rfl hv h3 h4 (fun i e a b' => ?_) (fun hno => ?_)
  · exact And.intro (fun z => absurd (show (1 : Int32) = 0 from z) (by decide)) (fun _ => hgo i e a b')
  · exact And.intro (fun _ => ⟨(show (0 : Int32) &&& 1 = 0 by decide), hb hno⟩) (fun z => absurd (show (0 : Int32) = 0 from rfl) z)
theorem cl_ts100_b (hG : rfG f n) (hF : clF f n J) (hU : clU f n b t J) (C : clCR_b f n b t J) {dd tk : Nat} (bd : dd < 2 ^ 31) (bt : tk < 2 ^ 31) {x3 x4 : Int32} (h3 : x3 = nI dd) (h4 : x4 = nI tk)
    (hgo : ∀ i, sOg f n b t 1 = some i → sCo f n b i = dd → sRo f n b i = 1 → XC xE0 (d + 3) xM_101 (121, [some (.ref 14), some (.ref 51), some (.ref 58), some (.int x3), some (.int x4), none, none, none, none], [], (shG X (md2 T), x2 J 62 1 (nI i), L, F)) Q)
    (hb : ¬ (∃ i, sOg f n b t 1 = some i ∧ sCo f n b i = dd ∧ sRo f n b i = 1) → Q (some (.int 0)) (shG X (md2 T), J, L, F)) : XC xE0 (d + 3) xM_101 (100, [some (.ref 14), some (.ref 51), some (.ref 58), some (.int x3), some (.int x4), none, none, none, none], [], (shG X (md2 T), J, L, F)) Q := by
  have ht := hU.2.1
  have lt : ∀ j, sOg f n b t 1 = some j → j < t := fun j e => by have := sNg_lt _ _ _ e; omega
  have hw : ∀ i, i < 4 → sWd (sNws.getD 1 []) i = sWd [110, 111, 114, 109] (0 + i) := by decide +kernel
  refine XC.block [121] 60 ?_
  refine cl_to13 hF hG hU (m := 4) (fr := 0) (by decide) (w := sWd (sNws.getD 1 [])) hw rfl rfl (fun v hv => ?_)
  refine cl_need_b ht C.2 (o := sOg f n b t 1) lt (qq := 1) (cc := dd) (rr := 1) (by decide) bd (by decide) rfl hv h3 rfl (fun i e a b' => ?_) (fun hno => ?_)
  · exact And.intro (fun z => absurd (show (1 : Int32) = 0 from z) (by decide)) (fun _ => hgo i e a b')
  · exact And.intro (fun _ => ⟨(show (0 : Int32) &&& 1 = 0 by decide), hb hno⟩) (fun z => absurd (show (0 : Int32) = 0 from rfl) z)
theorem cl_ts121_b (hG : rfG f n) (hF : clF f n J) (hU : clU f n b t J) (C : clCR_b f n b t J) {dd tk : Nat} (bd : dd < 2 ^ 31) (bt : tk < 2 ^ 31) {x3 x4 : Int32} (h3 : x3 = nI dd) (h4 : x4 = nI tk)
    (hgo : ∀ i, sOg f n b t 2 = some i → sCo f n b i = dd → sRo f n b i = tk → XC xE0 (d + 3) xM_101 (145, [some (.ref 14), some (.ref 51), some (.ref 58), some (.int x3), some (.int x4), none, none, none, none], [], (shG X (md2 T), x2 J 62 2 (nI i), L, F)) Q)
    (hb : ¬ (∃ i, sOg f n b t 2 = some i ∧ sCo f n b i = dd ∧ sRo f n b i = tk) → Q (some (.int 0)) (shG X (md2 T), J, L, F)) : XC xE0 (d + 3) xM_101 (121, [some (.ref 14), some (.ref 51), some (.ref 58), some (.int x3), some (.int x4), none, none, none, none], [], (shG X (md2 T), J, L, F)) Q := by
  have ht := hU.2.1
  have lt : ∀ j, sOg f n b t 2 = some j → j < t := fun j e => by have := sNg_lt _ _ _ e; omega
  have hw : ∀ i, i < 3 → sWd (sNws.getD 2 []) i = sWd [111, 117, 116] (0 + i) := by decide +kernel
  refine XC.block [145] 60 ?_
  refine cl_to14 hF hG hU (m := 3) (fr := 0) (by decide) (w := sWd (sNws.getD 2 [])) hw rfl rfl (fun v hv => ?_)
  refine cl_need_b ht C.2 (o := sOg f n b t 2) lt (qq := 2) (cc := dd) (rr := tk) (by decide) bd bt rfl hv h3 h4 (fun i e a b' => ?_) (fun hno => ?_)
  · exact And.intro (fun _ => hgo i e a b') (fun z => absurd (show ¬ (1 : Int32) = 0 by decide) z)
  · exact And.intro (fun z => absurd (show (0 : Int32) = 0 from rfl) z) (fun _ => ⟨(show (0 : Int32) &&& 1 = 0 by decide), hb hno⟩)
theorem cl_takeShapes_b (hG : rfG f n) (hF : clF f n I) (hU : clU f n b t I) {dd kv ff tk ly : Nat} (hly : ly ≤ 2) (p0 : I 52 0 = nI dd) (p3 : I 52 3 = nI ly) (p4 : I 52 4 = nI ff) (p6 : I 52 6 = nI tk) (pkv : I 51 5 * I 52 2 = nI kv) (bd : dd < 2 ^ 31) (bk : kv < 2 ^ 31) (bf : ff < 2 ^ 31) (bt : tk < 2 ^ 31)
    (hok : (∀ q, q < 3 + 9 * ly → sGg f n b t dd kv ff tk q) → ∀ J', clT_b I J' → clCR_b f n b t J' → (∀ q, q < 3 + 9 * ly → J' 62 q = rfO (sOg f n b t q)) → Q (some (.int 1)) (shG X (md2 T), J', L, F))
    (hbad : (∃ q, q < 3 + 9 * ly ∧ ¬ sGg f n b t dd kv ff tk q) → ∀ J', clT_b I J' → Q (some (.int 0)) (shG X (md2 T), J', L, F)) : XM xE0 (d + 3) 101 [.ref 14, .ref 51] (shG X (md2 T), I, L, F) Q := by
  have q0 : 0 < 3 + 9 * ly := by omega
  have q1 : 1 < 3 + 9 * ly := by omega
  have q2 : 2 < 3 + 9 * ly := by omega
  have D0 : clT_b I (x2 I 58 5 (I 5 10)) := fun b k k1 _ _ _ => x2_o _ _ k1
  have N0 : ∀ k, x2 I 58 5 (I 5 10) 62 k = I 62 k := fun k => x2_o _ _ (by omega)
  have put : ∀ (J : Nat → Nat → Int32) (q i : Nat), clT_b I J → clCR_b f n b t J → clT_b I (x2 J 62 q (nI i)) ∧ clCR_b f n b t (x2 J 62 q (nI i)) := fun J q i D C => ⟨fun b k k1 k2 k3 k4 => by rw [x2_o _ _ (fun e => k4 e.1)]; exact D b k k1 k2 k3 k4, by rw [x2_o _ _ (by omega)]; exact C.1, fun l hl => by rw [x2_o _ _ (by omega), x2_o _ _ (by omega)]; exact C.2 l hl⟩
  have go : ∀ J1 x3 x4, clT_b I J1 → clCR_b f n b t J1 → x3 = nI dd → x4 = nI tk → XC xE0 (d + 3) xM_101 (78, [some (.ref 14), some (.ref 51), some (.ref 58), some (.int x3), some (.int x4), none, none, none, none], [], (shG X (md2 T), J1, L, F)) Q := by
    intro J1 x3 x4 D1 C1 h3 h4
    refine cl_ts78_b hG (hF.agT_b D1) (hU.agT_b D1) C1 bd bt h3 h4 (fun i0 e0 a0 b0 => ?_) (fun hno => hbad ⟨0, q0, hno⟩ J1 D1)
    have P2 := put J1 0 i0 D1 C1
    refine cl_ts100_b hG (hF.agT_b P2.1) (hU.agT_b P2.1) P2.2 bd bt h3 h4 (fun i1 e1 a1 b1 => ?_) (fun hno => hbad ⟨1, q1, hno⟩ _ P2.1)
    have P3 := put _ 1 i1 P2.1 P2.2
    refine cl_ts121_b hG (hF.agT_b P3.1) (hU.agT_b P3.1) P3.2 bd bt h3 h4 (fun i2 e2 a2 b2 => ?_) (fun hno => hbad ⟨2, q2, hno⟩ _ P3.1)
    have P4 := put _ 2 i2 P3.1 P3.2
    exact cl_ts145_b (tk := tk) hG hF hU hly p0 p3 p4 pkv bd bk bf h3 hok hbad e0 e1 e2 a0 b0 a1 b1 a2 b2 P4.1 P4.2 rfl rfl rfl
  refine XC.block [18] 60 ?_
  refine cl_ts18_b (I := I) hU (fun J1 x D1 C1 N1 => ?_) t 0 (Nat.zero_add _) _ D0 hU.1 N0 (fun l hl => absurd hl (Nat.not_lt_zero _)) _ rfl
  refine XC.block [78] 60 ?_
  refine And.intro (rf_in (j := 0) rfl (by decide) (by decide)) ?_
  refine And.intro (rf_in (j := 6) rfl (by decide) (by decide)) ?_
  exact go J1 _ _ D1 C1 ((D1 52 0 (by omega) (by decide) (by decide) (by decide)).trans p0) ((D1 52 6 (by omega) (by decide) (by decide) (by decide)).trans p6)
end CLQ_b
