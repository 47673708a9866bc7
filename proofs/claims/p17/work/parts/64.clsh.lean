/-! the class on paper: the MODEL that is made -/
def md1 (T : List xS) : List xS := .inr (8, [some 39, some 40, some 45, none, none, none, none]) :: .inl (.int, 12, []) :: .inr (9, [some 41, some 42, some 43, some 44, none, none]) :: .inl (.long, 16, []) :: .inl (.int, 12, []) :: .inl (.int, 12, []) :: .inl (.int, 12, []) :: .inr (10, [some 46, some 47, some 48, some 49, some 50, none]) :: .inl (.int, 24, []) :: .inl (.int, 24, []) :: .inl (.int, 24, []) :: .inl (.int, 21, []) :: .inl (.float, 1866, []) :: T
def md2 (T : List xS) : List xS := md1 (.inr (8, [some 52, some 53, some 58, none, none, none, none]) :: .inl (.int, 12, []) :: .inr (9, [some 54, some 55, some 56, some 57, none, none]) :: .inl (.long, 16, []) :: .inl (.int, 12, []) :: .inl (.int, 12, []) :: .inl (.int, 12, []) :: .inr (10, [some 59, some 60, some 61, some 62, some 63, none]) :: .inl (.int, 24, []) :: .inl (.int, 24, []) :: .inl (.int, 24, []) :: .inl (.int, 21, []) :: .inl (.float, 1866, []) :: T)
/-- ALIGN as the class looks for it -/
def sAl1 (f : Nat → Nat) (n k : Nat) : Option Nat := match sKf f n (sWd sWa) 5 k 0 with
  | none => some 8
  | some i => if 1 ≤ sNum f (sVa f n i) 4 ∧ sNum f (sVa f n i) 4 ≤ 64 then some (sNum f (sVa f n i) 4) else none
theorem lg_lt {a b : Nat} (ha : a < 2 ^ 63) (hb : b < 2 ^ 63) : lg_cmp (lN a) (lN b) < 0 ↔ a < b := by
  unfold lg_cmp
  split
  · rename_i h
    have h : lN b < lN a := h
    rw [pk_lLT hb ha] at h
    exact ⟨fun z => absurd z (by decide), fun z => by omega⟩
  · rename_i h
    have h : ¬ lN b < lN a := h
    rw [pk_lLT hb ha] at h
    split
    · rename_i e
      rw [pk_lEQ ha hb] at e
      exact ⟨fun z => absurd z (by decide), fun z => by omega⟩
    · rename_i e
      rw [pk_lEQ ha hb] at e
      exact ⟨fun _ => by omega, fun _ => by decide⟩
theorem lg_le {a b : Nat} (ha : a < 2 ^ 63) (hb : b < 2 ^ 63) : lg_cmp (lN a) (lN b) ≤ 0 ↔ a ≤ b := by
  unfold lg_cmp
  split
  · rename_i h
    have h : lN b < lN a := h
    rw [pk_lLT hb ha] at h
    exact ⟨fun z => absurd z (by decide), fun z => by omega⟩
  · rename_i h
    have h : ¬ lN b < lN a := h
    rw [pk_lLT hb ha] at h
    split
    · exact ⟨fun _ => by omega, fun _ => by decide⟩
    · exact ⟨fun _ => by omega, fun _ => by decide⟩
section CLH_a
variable {X : List (Option Nat)} {T : List xS} {f : Nat → Nat} {n k : Nat} {I J : Nat → Nat → Int32} {L : Nat → Nat → Int64} {F : Nat → Nat → UInt32} {d : Nat} {Q : xP}
theorem cl_tn_a (hF : clF f n I) (hG : rfG f n) {V q lo hi : Nat} (hV : I 15 q = nI V) (hVn : V + 4 ≤ n) (hq : q < 12) (hlo : lo < 2 ^ 31) (hhi : hi < 2 ^ 31) {qq l1 h1' : Int32} (hqq : qq = nI q) (hl : l1 = nI lo) (hh : h1' = nI hi)
    (h1 : lo ≤ sNum f V 4 → sNum f V 4 ≤ hi → Q (some (.int 1)) (shG X (md1 T), x2 I 39 q (nI (sNum f V 4)), L, F))
    (h0 : ¬ (lo ≤ sNum f V 4 ∧ sNum f V 4 ≤ hi) → Q (some (.int 0)) (shG X (md1 T), I, L, F)) : XM xE0 (d + 2) 95 [.ref 14, .ref 38, .int qq, .int l1, .int h1'] (shG X (md1 T), I, L, F) Q := by
  have ek : qq.toNatClampNeg = q := by rw [hqq, nI_clamp (by omega)]
  have e15 : I 15 qq.toNatClampNeg = nI V := by rw [ek]; exact hV
  have hN := sNum_lt hG.1 4 V
  rw [← ek] at h1
  refine XC.block [] 60 ?_
  refine And.intro (rf_in hqq (by omega) (by decide)) ?_
  refine cl_number hF hG (p := V) (k := 4) (by decide) hVn e15 rfl (fun v hv => ?_)
  refine And.intro (fun z => ⟨(show (0 : Int32) &&& 1 = 0 by decide), h0 (fun w => ?_)⟩) (fun z => ?_)
  · have z : lg_cmp v l1.toInt64 < 0 := z
    rw [hv, hl, nI_l hlo, lg_lt (by omega) (by omega)] at z
    omega
  · have z : ¬ lg_cmp v l1.toInt64 < 0 := z
    rw [hv, hl, nI_l hlo, lg_lt (by omega) (by omega)] at z
    refine And.intro (fun y => ?_) (fun y => ⟨(show (0 : Int32) &&& 1 = 0 by decide), h0 (fun w => ?_)⟩)
    · have y : lg_cmp v h1'.toInt64 ≤ 0 := y
      rw [hv, hh, nI_l hhi, lg_le (by omega) (by omega)] at y
      refine And.intro (rf_in hqq (by omega) (by decide)) ⟨(show (1 : Int32) &&& 1 = 1 by decide), ?_⟩
      have := h1 (by omega) y
      rw [show nI (sNum f V 4) = v.toInt32 by rw [hv, lN_i]] at this
      exact this
    · have y : ¬ lg_cmp v h1'.toInt64 ≤ 0 := y
      rw [hv, hh, nI_l hhi, lg_le (by omega) (by omega)] at y
      omega
/-- nothing changes but facts, headSize, sharers -/
def clM_a (I I' : Nat → Nat → Int32) : Prop := ∀ b k, (b = 38 → k ≠ 5 ∧ k ≠ 6) → b ≠ 39 → I' b k = I b k
theorem clM_a.rf {I : Nat → Nat → Int32} : clM_a I I := fun _ _ _ _ => rfl
theorem clM_a.st {I J : Nat → Nat → Int32} (h : clM_a I J) {k : Nat} {x : Int32} : clM_a I (x2 J 39 k x) := fun b k' h1 h2 => (x2_o _ _ (fun e => h2 e.1)).trans (h b k' h1 h2)
theorem clM_a.stm {I J : Nat → Nat → Int32} (h : clM_a I J) {k : Nat} {x : Int32} (hk : k = 5 ∨ k = 6) : clM_a I (x2 J 38 k x) := fun b k' h1 h2 => (x2_o _ _ (fun e => by have := h1 e.1; omega)).trans (h b k' h1 h2)
theorem clF.agM_a (h : clF f n I) (a : clM_a I J) : clF f n J := ⟨fun k hk => by rw [a 2 k (by omega) (by decide)]; exact h.1 k hk, (a 1 1 (by omega) (by decide)).trans h.2⟩
theorem cl_th_a (hF : clF f n I) (hG : rfG f n) {N0 V1 V2 : Nat} (h0 : I 39 0 = nI N0) (hN0 : N0 ≤ 16) (hV1 : I 15 1 = nI V1) (hVn1 : V1 + 4 ≤ n) (hV2 : I 15 2 = nI V2) (hVn2 : V2 + 4 ≤ n)
    (h1 : (sNum f V1 4 = 1 ∨ sNum f V1 4 = 2 ∨ sNum f V1 4 = 4) → 1 ≤ sNum f V2 4 → sNum f V1 4 % sNum f V2 4 = 0 → Q (some (.int 1)) (shG X (md1 T), x2 (x2 (x2 (x2 I 39 1 (nI (sNum f V1 4))) 39 2 (nI (sNum f V2 4))) 38 5 (nI (N0 / sNum f V1 4))) 38 6 (nI (sNum f V1 4 / sNum f V2 4)), L, F))
    (hb : ¬ ((sNum f V1 4 = 1 ∨ sNum f V1 4 = 2 ∨ sNum f V1 4 = 4) ∧ 1 ≤ sNum f V2 4 ∧ sNum f V1 4 % sNum f V2 4 = 0) → ∀ J', clM_a I J' → Q (some (.int 0)) (shG X (md1 T), J', L, F)) : XM xE0 (d + 3) 94 [.ref 14, .ref 38] (shG X (md1 T), I, L, F) Q := by
  refine XC.block [23] 60 ?_
  refine cl_tn_a hF hG (q := 1) (lo := 1) (hi := 4) hV1 hVn1 (by decide) (by decide) (by decide) rfl rfl rfl (fun a1 a2 => ?_) (fun a => ?_)
  · refine And.intro (fun z => absurd (show (1 : Int32) = 0 from z) (by decide)) (fun _ => ?_)
    refine And.intro (rf_in (j := 1) rfl (by decide) (by decide)) ?_
    refine And.intro (fun z => ?_) (fun z => ⟨(show (0 : Int32) &&& 1 = 0 by decide), hb (fun w => ?_) _ clM_a.rf.st⟩)
    · have z : ¬ nI (sNum f V1 4) = 3 := z
      rw [show (3 : Int32) = nI 3 from rfl, nI_eq (by omega) (by omega)] at z
      refine XC.block [52] 60 ?_
      have M1 : clM_a I (x2 I 39 1 (nI (sNum f V1 4))) := clM_a.rf.st
      refine cl_tn_a (hF.agM_a M1) hG (q := 2) (lo := 1) (hi := 4) hV2 hVn2 (by decide) (by decide) (by decide) rfl rfl rfl (fun c1 c2 => ?_) (fun c => ?_)
      · refine And.intro (fun z => absurd (show (1 : Int32) = 0 from z) (by decide)) (fun _ => ?_)
        refine And.intro (rf_in (j := 1) rfl (by decide) (by decide)) ?_
        refine And.intro (rf_in (j := 2) rfl (by decide) (by decide)) ?_
        refine And.intro (show ¬ nI (sNum f V2 4) = 0 from nI_ne0 (by omega) (by omega)) ?_
        have er : nI (sNum f V1 4) - nI (sNum f V1 4) / nI (sNum f V2 4) * nI (sNum f V2 4) = nI (sNum f V1 4 % sNum f V2 4) := pk_rem (by omega) (by omega) (by omega)
        have hml : sNum f V1 4 % sNum f V2 4 < 2 ^ 31 := Nat.lt_of_le_of_lt (Nat.mod_le _ _) (by omega)
        refine And.intro (fun y => ?_) (fun y => ⟨(show (0 : Int32) &&& 1 = 0 by decide), hb (fun w => y ?_) _ M1.st⟩)
        · have y : nI (sNum f V1 4) - nI (sNum f V1 4) / nI (sNum f V2 4) * nI (sNum f V2 4) = 0 := y
          rw [er, show (0 : Int32) = nI 0 from rfl, nI_eq hml (by omega)] at y
          refine XC.block [] 60 ?_
          refine And.intro (rf_in (j := 0) rfl (by decide) (by decide)) ?_
          refine And.intro (rf_in (j := 1) rfl (by decide) (by decide)) ?_
          refine And.intro (show ¬ nI (sNum f V1 4) = 0 from nI_ne0 (by omega) (by omega)) ?_
          refine And.intro (rf_in (j := 1) rfl (by decide) (by decide)) ?_
          refine And.intro (rf_in (j := 2) rfl (by decide) (by decide)) ?_
          refine And.intro (show ¬ nI (sNum f V2 4) = 0 from nI_ne0 (by omega) (by omega)) ⟨(show (1 : Int32) &&& 1 = 1 by decide), ?_⟩
          have := h1 (by omega) c1 y
          rw [show nI (N0 / sNum f V1 4) = I 39 0 / nI (sNum f V1 4) by rw [h0, pk_div (by omega) (by omega) (by omega)], show nI (sNum f V1 4 / sNum f V2 4) = nI (sNum f V1 4) / nI (sNum f V2 4) by rw [pk_div (by omega) (by omega) (by omega)]] at this
          exact this
        · show nI (sNum f V1 4) - nI (sNum f V1 4) / nI (sNum f V2 4) * nI (sNum f V2 4) = 0
          rw [er, w.2.2]; rfl
      · refine And.intro (fun _ => ⟨(show (0 : Int32) &&& 1 = 0 by decide), hb (fun w => c ⟨w.2.1, ?_⟩) _ M1⟩) (fun z => absurd (show (0 : Int32) = 0 from rfl) z)
        have := Nat.le_of_dvd (by omega) (Nat.dvd_of_mod_eq_zero w.2.2)
        omega
    · have z : ¬ ¬ nI (sNum f V1 4) = 3 := z
      have z := Classical.not_not.mp z
      rw [show (3 : Int32) = nI 3 from rfl, nI_eq (by omega) (by omega)] at z
      omega
  · exact And.intro (fun _ => ⟨(show (0 : Int32) &&& 1 = 0 by decide), hb (fun w => a (by omega)) _ clM_a.rf⟩) (fun z => absurd (show (0 : Int32) = 0 from rfl) z)
theorem cl_ta_a (hF : clF f n I) (hG : rfG f n) (h11 : I 15 11 = sAva f n k) (hv : ∀ i, sKf f n (sWd sWa) 5 k 0 = some i → sVa f n i + 4 ≤ n)
    (h1 : ∀ A, sAl1 f n k = some A → ∀ J', clM_a I J' → (∀ j, j ≠ 11 → J' 39 j = I 39 j) → J' 39 11 = nI A → J' 38 5 = I 38 5 → J' 38 6 = I 38 6 → Q (some (.int 1)) (shG X (md1 T), J', L, F))
    (hb : sAl1 f n k = none → ∀ J', clM_a I J' → Q (some (.int 0)) (shG X (md1 T), J', L, F)) : XM xE0 (d + 3) 96 [.ref 14, .ref 38] (shG X (md1 T), I, L, F) Q := by
  have hn := hG.2
  have M0 : clM_a I (x2 I 39 11 8) := clM_a.rf.st
  have go : ∀ o : Option Nat, o = sKf f n (sWd sWa) 5 k 0 → XM xE0 (d + 3) 96 [.ref 14, .ref 38] (shG X (md1 T), I, L, F) Q := by
    intro o ho
    unfold sAva at h11
    unfold sAl1 at h1 hb
    rw [← ho] at h11 hv h1 hb
    match o, ho with
    | none, _ =>
      have h11 : I 15 11 = -1 := h11
      have fin : Q (some (.int 1)) (shG X (md1 T), x2 I 39 11 8, L, F) := h1 8 rfl _ M0 (fun j hj => x2_o _ _ (by omega)) rfl rfl rfl
      refine XC.block [] 60 ?_
      refine And.intro (rf_in (j := 11) rfl (by decide) (by decide)) ?_
      refine And.intro (rf_in (j := 11) rfl (by decide) (by decide)) ?_
      refine And.intro (fun _ => ⟨(show (1 : Int32) &&& 1 = 1 by decide), fin⟩) (fun z => absurd (show I 15 11 < 0 by rw [h11]; decide) z)
    | some i, _ =>
      have hvi := hv i rfl
      have h11 : I 15 11 = nI (sVa f n i) := h11
      refine XC.block [] 60 ?_
      refine And.intro (rf_in (j := 11) rfl (by decide) (by decide)) ?_
      refine And.intro (rf_in (j := 11) rfl (by decide) (by decide)) ?_
      refine And.intro (fun z => absurd (show I 15 11 < 0 from z) (by rw [h11]; exact nI_pos (by omega))) (fun _ => ?_)
      refine cl_tn_a (I := x2 I 39 11 8) (hF.agM_a M0) hG (q := 11) (lo := 1) (hi := 64) h11 hvi (by decide) (by decide) (by decide) rfl rfl rfl (fun a1 a2 => ?_) (fun a => ?_)
      · refine And.intro (fun z => absurd (show (1 : Int32) = 0 from z) (by decide)) (fun _ => ⟨(show (1 : Int32) &&& 1 = 1 by decide), h1 (sNum f (sVa f n i) 4) (if_pos ⟨a1, a2⟩) _ M0.st (fun j hj => ?_) rfl rfl rfl⟩)
        rw [x2_o _ _ (by omega), x2_o _ _ (by omega)]
      · exact And.intro (fun _ => ⟨(show (0 : Int32) &&& 1 = 0 by decide), hb (if_neg a) _ M0⟩) (fun z => absurd (show (0 : Int32) = 0 from rfl) z)
  exact go _ rfl
end CLH_a
section CLH_b
variable {X : List (Option Nat)} {T : List xS} {f : Nat → Nat} {n k : Nat} {I J : Nat → Nat → Int32} {L : Nat → Nat → Int64} {F : Nat → Nat → UInt32} {d : Nat} {Q : xP}
theorem cl_tn_b (hF : clF f n I) (hG : rfG f n) {V q lo hi : Nat} (hV : I 15 q = nI V) (hVn : V + 4 ≤ n) (hq : q < 12) (hlo : lo < 2 ^ 31) (hhi : hi < 2 ^ 31) {qq l1 h1' : Int32} (hqq : qq = nI q) (hl : l1 = nI lo) (hh : h1' = nI hi)
    (h1 : lo ≤ sNum f V 4 → sNum f V 4 ≤ hi → Q (some (.int 1)) (shG X (md2 T), x2 I 52 q (nI (sNum f V 4)), L, F))
    (h0 : ¬ (lo ≤ sNum f V 4 ∧ sNum f V 4 ≤ hi) → Q (some (.int 0)) (shG X (md2 T), I, L, F)) : XM xE0 (d + 2) 95 [.ref 14, .ref 51, .int qq, .int l1, .int h1'] (shG X (md2 T), I, L, F) Q := by
  have ek : qq.toNatClampNeg = q := by rw [hqq, nI_clamp (by omega)]
  have e15 : I 15 qq.toNatClampNeg = nI V := by rw [ek]; exact hV
  have hN := sNum_lt hG.1 4 V
  rw [← ek] at h1
  refine XC.block [] 60 ?_
  refine And.intro (rf_in hqq (by omega) (by decide)) ?_
  refine cl_number hF hG (p := V) (k := 4) (by decide) hVn e15 rfl (fun v hv => ?_)
  refine And.intro (fun z => ⟨(show (0 : Int32) &&& 1 = 0 by decide), h0 (fun w => ?_)⟩) (fun z => ?_)
  · have z : lg_cmp v l1.toInt64 < 0 := z
    rw [hv, hl, nI_l hlo, lg_lt (by omega) (by omega)] at z
    omega
  · have z : ¬ lg_cmp v l1.toInt64 < 0 := z
    rw [hv, hl, nI_l hlo, lg_lt (by omega) (by omega)] at z
    refine And.intro (fun y => ?_) (fun y => ⟨(show (0 : Int32) &&& 1 = 0 by decide), h0 (fun w => ?_)⟩)
    · have y : lg_cmp v h1'.toInt64 ≤ 0 := y
      rw [hv, hh, nI_l hhi, lg_le (by omega) (by omega)] at y
      refine And.intro (rf_in hqq (by omega) (by decide)) ⟨(show (1 : Int32) &&& 1 = 1 by decide), ?_⟩
      have := h1 (by omega) y
      rw [show nI (sNum f V 4) = v.toInt32 by rw [hv, lN_i]] at this
      exact this
    · have y : ¬ lg_cmp v h1'.toInt64 ≤ 0 := y
      rw [hv, hh, nI_l hhi, lg_le (by omega) (by omega)] at y
      omega
/-- nothing changes but facts, headSize, sharers -/
def clM_b (I I' : Nat → Nat → Int32) : Prop := ∀ b k, (b = 51 → k ≠ 5 ∧ k ≠ 6) → b ≠ 52 → I' b k = I b k
theorem clM_b.rf {I : Nat → Nat → Int32} : clM_b I I := fun _ _ _ _ => rfl
theorem clM_b.st {I J : Nat → Nat → Int32} (h : clM_b I J) {k : Nat} {x : Int32} : clM_b I (x2 J 52 k x) := fun b k' h1 h2 => (x2_o _ _ (fun e => h2 e.1)).trans (h b k' h1 h2)
theorem clM_b.stm {I J : Nat → Nat → Int32} (h : clM_b I J) {k : Nat} {x : Int32} (hk : k = 5 ∨ k = 6) : clM_b I (x2 J 51 k x) := fun b k' h1 h2 => (x2_o _ _ (fun e => by have := h1 e.1; omega)).trans (h b k' h1 h2)
theorem clF.agM_b (h : clF f n I) (a : clM_b I J) : clF f n J := ⟨fun k hk => by rw [a 2 k (by omega) (by decide)]; exact h.1 k hk, (a 1 1 (by omega) (by decide)).trans h.2⟩
theorem cl_th_b (hF : clF f n I) (hG : rfG f n) {N0 V1 V2 : Nat} (h0 : I 52 0 = nI N0) (hN0 : N0 ≤ 16) (hV1 : I 15 1 = nI V1) (hVn1 : V1 + 4 ≤ n) (hV2 : I 15 2 = nI V2) (hVn2 : V2 + 4 ≤ n)
    (h1 : (sNum f V1 4 = 1 ∨ sNum f V1 4 = 2 ∨ sNum f V1 4 = 4) → 1 ≤ sNum f V2 4 → sNum f V1 4 % sNum f V2 4 = 0 → Q (some (.int 1)) (shG X (md2 T), x2 (x2 (x2 (x2 I 52 1 (nI (sNum f V1 4))) 52 2 (nI (sNum f V2 4))) 51 5 (nI (N0 / sNum f V1 4))) 51 6 (nI (sNum f V1 4 / sNum f V2 4)), L, F))
    (hb : ¬ ((sNum f V1 4 = 1 ∨ sNum f V1 4 = 2 ∨ sNum f V1 4 = 4) ∧ 1 ≤ sNum f V2 4 ∧ sNum f V1 4 % sNum f V2 4 = 0) → ∀ J', clM_b I J' → Q (some (.int 0)) (shG X (md2 T), J', L, F)) : XM xE0 (d + 3) 94 [.ref 14, .ref 51] (shG X (md2 T), I, L, F) Q := by
  refine XC.block [23] 60 ?_
  refine cl_tn_b hF hG (q := 1) (lo := 1) (hi := 4) hV1 hVn1 (by decide) (by decide) (by decide) rfl rfl rfl (fun a1 a2 => ?_) (fun a => ?_)
  · refine And.intro (fun z => absurd (show (1 : Int32) = 0 from z) (by decide)) (fun _ => ?_)
    refine And.intro (rf_in (j := 1) rfl (by decide) (by decide)) ?_
    refine And.intro (fun z => ?_) (fun z => ⟨(show (0 : Int32) &&& 1 = 0 by decide), hb (fun w => ?_) _ clM_b.rf.st⟩)
    · have z : ¬ nI (sNum f V1 4) = 3 := z
      rw [show (3 : Int32) = nI 3 from rfl, nI_eq (by omega) (by omega)] at z
      refine XC.block [52] 60 ?_
      have M1 : clM_b I (x2 I 52 1 (nI (sNum f V1 4))) := clM_b.rf.st
      refine cl_tn_b (hF.agM_b M1) hG (q := 2) (lo := 1) (hi := 4) hV2 hVn2 (by decide) (by decide) (by decide) rfl rfl rfl (fun c1 c2 => ?_) (fun c => ?_)
      · refine And.intro (fun z => absurd (show (1 : Int32) = 0 from z) (by decide)) (fun _ => ?_)
        refine And.intro (rf_in (j := 1) rfl (by decide) (by decide)) ?_
        refine And.intro (rf_in (j := 2) rfl (by decide) (by decide)) ?_
        refine And.intro (show ¬ nI (sNum f V2 4) = 0 from nI_ne0 (by omega) (by omega)) ?_
        have er : nI (sNum f V1 4) - nI (sNum f V1 4) / nI (sNum f V2 4) * nI (sNum f V2 4) = nI (sNum f V1 4 % sNum f V2 4) := pk_rem (by omega) (by omega) (by omega)
        have hml : sNum f V1 4 % sNum f V2 4 < 2 ^ 31 := Nat.lt_of_le_of_lt (Nat.mod_le _ _) (by omega)
        refine And.intro (fun y => ?_) (fun y => ⟨(show (0 : Int32) &&& 1 = 0 by decide), hb (fun w => y ?_) _ M1.st⟩)
        · have y : nI (sNum f V1 4) - nI (sNum f V1 4) / nI (sNum f V2 4) * nI (sNum f V2 4) = 0 := y
          rw [er, show (0 : Int32) = nI 0 from rfl, nI_eq hml (by omega)] at y
          refine XC.block [] 60 ?_
          refine And.intro (rf_in (j := 0) rfl (by decide) (by decide)) ?_
          refine And.intro (rf_in (j := 1) rfl (by decide) (by decide)) ?_
          refine And.intro (show ¬ nI (sNum f V1 4) = 0 from nI_ne0 (by omega) (by omega)) ?_
          refine And.intro (rf_in (j := 1) rfl (by decide) (by decide)) ?_
          refine And.intro (rf_in (j := 2) rfl (by decide) (by decide)) ?_
          refine And.intro (show ¬ nI (sNum f V2 4) = 0 from nI_ne0 (by omega) (by omega)) ⟨(show (1 : Int32) &&& 1 = 1 by decide), ?_⟩
          have := h1 (by omega) c1 y
          rw [show nI (N0 / sNum f V1 4) = I 52 0 / nI (sNum f V1 4) by rw [h0, pk_div (by omega) (by omega) (by omega)], show nI (sNum f V1 4 / sNum f V2 4) = nI (sNum f V1 4) / nI (sNum f V2 4) by rw [pk_div (by omega) (by omega) (by omega)]] at this
          exact this
        · show nI (sNum f V1 4) - nI (sNum f V1 4) / nI (sNum f V2 4) * nI (sNum f V2 4) = 0
          rw [er, w.2.2]; rfl
      · refine And.intro (fun _ => ⟨(show (0 : Int32) &&& 1 = 0 by decide), hb (fun w => c ⟨w.2.1, ?_⟩) _ M1⟩) (fun z => absurd (show (0 : Int32) = 0 from rfl) z)
        have := Nat.le_of_dvd (by omega) (Nat.dvd_of_mod_eq_zero w.2.2)
        omega
    · have z : ¬ ¬ nI (sNum f V1 4) = 3 := z
      have z := Classical.not_not.mp z
      rw [show (3 : Int32) = nI 3 from rfl, nI_eq (by omega) (by omega)] at z
      omega
  · exact And.intro (fun _ => ⟨(show (0 : Int32) &&& 1 = 0 by decide), hb (fun w => a (by omega)) _ clM_b.rf⟩) (fun z => absurd (show (0 : Int32) = 0 from rfl) z)
theorem cl_ta_b (hF : clF f n I) (hG : rfG f n) (h11 : I 15 11 = sAva f n k) (hv : ∀ i, sKf f n (sWd sWa) 5 k 0 = some i → sVa f n i + 4 ≤ n)
    (h1 : ∀ A, sAl1 f n k = some A → ∀ J', clM_b I J' → (∀ j, j ≠ 11 → J' 52 j = I 52 j) → J' 52 11 = nI A → J' 51 5 = I 51 5 → J' 51 6 = I 51 6 → Q (some (.int 1)) (shG X (md2 T), J', L, F))
    (hb : sAl1 f n k = none → ∀ J', clM_b I J' → Q (some (.int 0)) (shG X (md2 T), J', L, F)) : XM xE0 (d + 3) 96 [.ref 14, .ref 51] (shG X (md2 T), I, L, F) Q := by
  have hn := hG.2
  have M0 : clM_b I (x2 I 52 11 8) := clM_b.rf.st
  have go : ∀ o : Option Nat, o = sKf f n (sWd sWa) 5 k 0 → XM xE0 (d + 3) 96 [.ref 14, .ref 51] (shG X (md2 T), I, L, F) Q := by
    intro o ho
    unfold sAva at h11
    unfold sAl1 at h1 hb
    rw [← ho] at h11 hv h1 hb
    match o, ho with
    | none, _ =>
      have h11 : I 15 11 = -1 := h11
      have fin : Q (some (.int 1)) (shG X (md2 T), x2 I 52 11 8, L, F) := h1 8 rfl _ M0 (fun j hj => x2_o _ _ (by omega)) rfl rfl rfl
      refine XC.block [] 60 ?_
      refine And.intro (rf_in (j := 11) rfl (by decide) (by decide)) ?_
      refine And.intro (rf_in (j := 11) rfl (by decide) (by decide)) ?_
      refine And.intro (fun _ => ⟨(show (1 : Int32) &&& 1 = 1 by decide), fin⟩) (fun z => absurd (show I 15 11 < 0 by rw [h11]; decide) z)
    | some i, _ =>
      have hvi := hv i rfl
      have h11 : I 15 11 = nI (sVa f n i) := h11
      refine XC.block [] 60 ?_
      refine And.intro (rf_in (j := 11) rfl (by decide) (by decide)) ?_
      refine And.intro (rf_in (j := 11) rfl (by decide) (by decide)) ?_
      refine And.intro (fun z => absurd (show I 15 11 < 0 from z) (by rw [h11]; exact nI_pos (by omega))) (fun _ => ?_)
      refine cl_tn_b (I := x2 I 52 11 8) (hF.agM_b M0) hG (q := 11) (lo := 1) (hi := 64) h11 hvi (by decide) (by decide) (by decide) rfl rfl rfl (fun a1 a2 => ?_) (fun a => ?_)
      · refine And.intro (fun z => absurd (show (1 : Int32) = 0 from z) (by decide)) (fun _ => ⟨(show (1 : Int32) &&& 1 = 1 by decide), h1 (sNum f (sVa f n i) 4) (if_pos ⟨a1, a2⟩) _ M0.st (fun j hj => ?_) rfl rfl rfl⟩)
        rw [x2_o _ _ (by omega), x2_o _ _ (by omega)]
      · exact And.intro (fun _ => ⟨(show (0 : Int32) &&& 1 = 0 by decide), hb (if_neg a) _ M0⟩) (fun z => absurd (show (0 : Int32) = 0 from rfl) z)
  exact go _ rfl
end CLH_b
