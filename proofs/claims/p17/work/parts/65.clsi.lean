/-! the class on paper: numbers and REALS of KEYS -/
/-- a HALF as the class has it -/
def clHp (e m : Int32) : Int64 := if e = 0 then m.toInt64 else ((1024 : Int64) + m.toInt64) <<< ((e - 1).toInt64 &&& 63)
def clRe (h : Int32) : UInt32 := if (h >>> ((15 : Int32) &&& 31)) &&& 1 = 1 then FP.fneg (rfRe (clHp ((h >>> ((10 : Int32) &&& 31)) &&& 31) (h &&& 1023))) else rfRe (clHp ((h >>> ((10 : Int32) &&& 31)) &&& 31) (h &&& 1023))
def clIr (h : Int32) : Prop := ¬ (h >>> ((10 : Int32) &&& 31)) &&& 31 = 31
def clWi (h : Int32) (most : UInt32) : Prop := clIr h ∧ ¬ 0 < Op.cmpValue (FP.fcmp (clRe h) most) .g ∧ ¬ Op.cmpValue (FP.fcmp (clRe h) (FP.fneg most)) .l < 0
section CLI
variable {h0 : xH} {d : Nat} {Q : xP}
theorem cl_ro34 {a e : Int32} {m u : Int64} (hQ : Q (some (.float (if (a >>> ((15 : Int32) &&& 31)) &&& 1 = 1 then FP.fneg (rfRe u) else rfRe u))) h0) : XC xE0 d xM_114 (34, [some (.int a), some (.int e), some (.long m), none, some (.long u), none, none], [], h0) Q := by
  refine XC.block [43] 60 ?_
  refine And.intro (rf_nn u) ?_
  refine XC.block [] 60 ?_
  refine And.intro (fun z => ⟨trivial, ?_⟩) (fun z => ⟨trivial, ?_⟩)
  · have z : ¬ (a >>> ((15 : Int32) &&& 31)) &&& 1 = 1 := z
    rw [if_neg z] at hQ
    exact hQ
  · have z : ¬ ¬ (a >>> ((15 : Int32) &&& 31)) &&& 1 = 1 := z
    rw [if_pos (Classical.not_not.mp z)] at hQ
    exact hQ
theorem cl_ro15 {a e m : Int32} (hQ : Q (some (.float (if (a >>> ((15 : Int32) &&& 31)) &&& 1 = 1 then FP.fneg (rfRe (clHp e m)) else rfRe (clHp e m)))) h0) : XC xE0 d xM_114 (15, [some (.int a), some (.int e), some (.long m.toInt64), none, none, none, none], [], h0) Q := by
  unfold clHp at hQ
  refine XC.block [34] 60 ?_
  refine And.intro (fun z => ?_) (fun z => ?_)
  · have z : ¬ e = 0 := z
    rw [if_neg z] at hQ
    exact cl_ro34 hQ
  · have z : ¬ ¬ e = 0 := z
    rw [if_pos (Classical.not_not.mp z)] at hQ
    exact cl_ro34 hQ
theorem cl_realOf {a : Int32} (hQ : Q (some (.float (clRe a))) h0) : XM xE0 d 114 [.int a] h0 Q := by
  refine XC.block [15] 60 ?_
  exact cl_ro15 hQ
theorem cl_isReal {a : Int32} (h1 : clIr a → Q (some (.int 1)) h0) (h2 : ¬ clIr a → Q (some (.int 0)) h0) : XM xE0 d 112 [.int a] h0 Q := by
  refine XC.block [] 60 ?_
  exact And.intro (fun z => ⟨(show (0 : Int32) &&& 1 = 0 by decide), h2 (fun w => w z)⟩) (fun z => ⟨(show (1 : Int32) &&& 1 = 1 by decide), h1 z⟩)
theorem cl_isWithin {a : Int32} {mo : UInt32} (h1 : clWi a mo → Q (some (.int 1)) h0) (h2 : ¬ clWi a mo → Q (some (.int 0)) h0) : XM xE0 (d + 1) 113 [.int a, .float mo] h0 Q := by
  refine XC.block [9] 60 ?_
  refine cl_isReal (fun y => ?_) (fun y => ?_)
  · refine And.intro (fun _ => ?_) (fun z => absurd (show ¬ (1 : Int32) = 0 by decide) z)
    refine XC.block [14] 60 ?_
    refine cl_realOf ?_
    refine XC.block [] 60 ?_
    refine And.intro (fun z => ⟨(show (0 : Int32) &&& 1 = 0 by decide), h2 (fun w => w.2.1 z)⟩) (fun z1 => ?_)
    exact And.intro (fun z => ⟨(show (0 : Int32) &&& 1 = 0 by decide), h2 (fun w => w.2.2 z)⟩) (fun z => ⟨(show (1 : Int32) &&& 1 = 1 by decide), h1 ⟨y, z1, z⟩⟩)
  · exact And.intro (fun z => absurd (show (0 : Int32) = 0 from rfl) z) (fun _ => ⟨(show (0 : Int32) &&& 1 = 0 by decide), h2 (fun w => y w.1)⟩)
end CLI
section CLJ_a
variable {X : List (Option Nat)} {T : List xS} {f : Nat → Nat} {n k : Nat} {I J : Nat → Nat → Int32} {L : Nat → Nat → Int64} {F : Nat → Nat → UInt32} {d : Nat} {Q : xP}
theorem cl_tn2_a (hF : clF f n I) (hG : rfG f n) {V q lo hi N : Nat} (hN : sNum f V 4 = N) (hV : I 15 q = nI V) (hVn : V + 4 ≤ n) (hq : q < 12) (hlo : lo < 2 ^ 31) (hhi : hi < 2 ^ 31) {qq l1 h1' : Int32} (hqq : qq = nI q) (hl : l1 = nI lo) (hh : h1' = nI hi)
    (h1 : lo ≤ N → N ≤ hi → Q (some (.int 1)) (shG X (md1 T), x2 I 39 q (nI N), L, F)) (h0 : ¬ (lo ≤ N ∧ N ≤ hi) → Q (some (.int 0)) (shG X (md1 T), I, L, F)) : XM xE0 (d + 2) 95 [.ref 14, .ref 38, .int qq, .int l1, .int h1'] (shG X (md1 T), I, L, F) Q := by
  subst hN
  exact cl_tn_a hF hG hV hVn hq hlo hhi hqq hl hh h1 h0
theorem cl_th2_a (hF : clF f n I) (hG : rfG f n) {N0 V1 V2 N1 N2 : Nat} (e1 : sNum f V1 4 = N1) (e2 : sNum f V2 4 = N2) (h0 : I 39 0 = nI N0) (hN0 : N0 ≤ 16) (hV1 : I 15 1 = nI V1) (hVn1 : V1 + 4 ≤ n) (hV2 : I 15 2 = nI V2) (hVn2 : V2 + 4 ≤ n)
    (h1 : (N1 = 1 ∨ N1 = 2 ∨ N1 = 4) → 1 ≤ N2 → N1 % N2 = 0 → Q (some (.int 1)) (shG X (md1 T), x2 (x2 (x2 (x2 I 39 1 (nI N1)) 39 2 (nI N2)) 38 5 (nI (N0 / N1))) 38 6 (nI (N1 / N2)), L, F))
    (hb : ¬ ((N1 = 1 ∨ N1 = 2 ∨ N1 = 4) ∧ 1 ≤ N2 ∧ N1 % N2 = 0) → ∀ J', clM_a I J' → Q (some (.int 0)) (shG X (md1 T), J', L, F)) : XM xE0 (d + 3) 94 [.ref 14, .ref 38] (shG X (md1 T), I, L, F) Q := by
  subst e1
  subst e2
  exact cl_th_a hF hG h0 hN0 hV1 hVn1 hV2 hVn2 h1 hb
theorem cl_takeNumbers_a (hF : clF f n I) (hG : rfG f n) (hK : ∀ j, j < 6 → I 15 j = nI (sVk f n k j) ∧ sVk f n k j + 4 ≤ n) (h11 : I 15 11 = sAva f n k) (hv : ∀ i, sKf f n (sWd sWa) 5 k 0 = some i → sVa f n i + 4 ≤ n)
    (hok : sG1 f n k → sG2 f n k → ∀ A, sAl1 f n k = some A → ∀ J', clM_a I J' → (∀ j, j < 6 → J' 39 j = nI (sN f n k j)) → J' 39 9 = I 5 9 → J' 39 10 = I 5 10 → J' 39 11 = nI A → J' 38 5 = nI (sN f n k 0 / sN f n k 1) → J' 38 6 = nI (sN f n k 1 / sN f n k 2) → Q (some (.int 1)) (shG X (md1 T), J', L, F))
    (hbad : ¬ (sG1 f n k ∧ sG2 f n k ∧ ∃ A, sAl1 f n k = some A) → ∀ J', clM_a I J' → Q (some (.int 0)) (shG X (md1 T), J', L, F)) : XM xE0 (d + 4) 93 [.ref 14, .ref 38] (shG X (md1 T), I, L, F) Q := by
  have eN : ∀ j, j < 6 → sN f n k j = sNum f (sVk f n k j) 4 := fun j hj => if_pos (Or.inl hj)
  have r8 : ∀ a, 8 ≤ a → a ≤ 16 → (nI a - nI a / 8 * 8 = 0 ↔ (a = 8 ∨ a = 16)) := fun a h1 h2 => by
    rw [rf_rem8 a (by omega)]; omega
  refine XC.block [28] 60 ?_
  refine And.intro (rf_in (j := 9) rfl (by decide) (by decide)) ?_
  refine And.intro (rf_in (j := 10) rfl (by decide) (by decide)) ?_
  have M0 : clM_a I (x2 (x2 I 39 9 (I 5 9)) 39 10 (I 5 10)) := clM_a.rf.st.st
  have q0 := hK 0 (by decide)
  have q3 := hK 3 (by decide)
  have q4 := hK 4 (by decide)
  have q5 := hK 5 (by decide)
  have bad : ∀ J', clM_a I J' → ¬ (sG1 f n k ∧ sG2 f n k ∧ ∃ A, sAl1 f n k = some A) → XC xE0 (d + 4) xM_93 (121, [some (.ref 14), some (.ref 38)], [], (shG X (md1 T), J', L, F)) Q := fun J' M' z => by
    refine XC.block [] 60 ?_
    exact ⟨(show (0 : Int32) &&& 1 = 0 by decide), hbad z J' M'⟩
  refine XC.block [41, 121] 60 ?_
  refine cl_tn2_a (hF.agM_a M0) hG (q := 0) (eN 0 (by decide)).symm (lo := 8) (hi := 16) q0.1 q0.2 (by decide) (by decide) (by decide) rfl rfl rfl (fun a1 a2 => ?_) (fun a => ?_)
  · refine And.intro (fun z => absurd (show (1 : Int32) = 0 from z) (by decide)) (fun _ => ?_)
    refine XC.block [53, 121] 60 ?_
    refine And.intro (rf_in (j := 0) rfl (by decide) (by decide)) ?_
    refine And.intro (show ¬ (8 : Int32) = 0 by decide) ?_
    refine And.intro (fun z => bad _ M0.st (fun w => z ((r8 _ a1 a2).mpr w.1.1))) (fun z => ?_)
    have z : ¬ ¬ nI (sN f n k 0) - nI (sN f n k 0) / 8 * 8 = 0 := z
    have z0 := (r8 _ a1 a2).mp (Classical.not_not.mp z)
    refine XC.block [61, 121] 60 ?_
    refine cl_th2_a (N0 := sN f n k 0) (hF.agM_a M0.st) hG (eN 1 (by decide)).symm (eN 2 (by decide)).symm rfl (by omega) (hK 1 (by decide)).1 (hK 1 (by decide)).2 (hK 2 (by decide)).1 (hK 2 (by decide)).2 (fun c1 c2 c3 => ?_) (fun c J' M' => ?_)
    · have hN2 : sN f n k 2 ≤ 4 := by
        have := Nat.le_of_dvd (by omega) (Nat.dvd_of_mod_eq_zero c3)
        omega
      have g1 : sG1 f n k := ⟨z0, c1, c2, by omega⟩
      refine And.intro (fun z => absurd (show (1 : Int32) = 0 from z) (by decide)) (fun _ => ?_)
      have go : ∀ J1, clM_a I J1 → J1 39 0 = nI (sN f n k 0) → J1 39 1 = nI (sN f n k 1) → J1 39 2 = nI (sN f n k 2) → J1 39 9 = I 5 9 → J1 39 10 = I 5 10 → J1 38 5 = nI (sN f n k 0 / sN f n k 1) → J1 38 6 = nI (sN f n k 1 / sN f n k 2) → XC xE0 (d + 4) xM_93 (61, [some (.ref 14), some (.ref 38)], [], (shG X (md1 T), J1, L, F)) Q := by
        intro J1 M1 p0 p1 p2 p9 p10 m5 m6
        refine XC.block [72, 121] 60 ?_
        refine cl_tn2_a (hF.agM_a M1) hG (q := 3) (eN 3 (by decide)).symm (lo := 1) (hi := 2) ((M1 15 3 (by omega) (by decide)).trans q3.1) q3.2 (by decide) (by decide) (by decide) rfl rfl rfl (fun a1 a2 => ?_) (fun a => ?_)
        · refine And.intro (fun z => absurd (show (1 : Int32) = 0 from z) (by decide)) (fun _ => ?_)
          have M2 : clM_a I (x2 J1 39 3 (nI (sN f n k 3))) := M1.st
          refine XC.block [85, 121] 60 ?_
          refine cl_tn2_a (hF.agM_a M2) hG (q := 4) (eN 4 (by decide)).symm (lo := 8) (hi := 16) ((M2 15 4 (by omega) (by decide)).trans q4.1) q4.2 (by decide) (by decide) (by decide) rfl rfl rfl (fun e1 e2 => ?_) (fun a => ?_)
          · refine And.intro (fun z => absurd (show (1 : Int32) = 0 from z) (by decide)) (fun _ => ?_)
            have M3 : clM_a I (x2 (x2 J1 39 3 (nI (sN f n k 3))) 39 4 (nI (sN f n k 4))) := M2.st
            refine XC.block [97, 121] 60 ?_
            refine And.intro (rf_in (j := 4) rfl (by decide) (by decide)) ?_
            refine And.intro (show ¬ (8 : Int32) = 0 by decide) ?_
            refine And.intro (fun z => bad _ M3 (fun w => z ((r8 _ e1 e2).mpr w.2.1.2.2.1))) (fun z => ?_)
            have z : ¬ ¬ nI (sN f n k 4) - nI (sN f n k 4) / 8 * 8 = 0 := z
            have z4 := (r8 _ e1 e2).mp (Classical.not_not.mp z)
            refine XC.block [109, 121] 60 ?_
            refine cl_tn2_a (hF.agM_a M3) hG (q := 5) (eN 5 (by decide)).symm (lo := 2) (hi := 8) ((M3 15 5 (by omega) (by decide)).trans q5.1) q5.2 (by decide) (by decide) (by decide) rfl rfl rfl (fun f1 f2 => ?_) (fun a => ?_)
            · refine And.intro (fun z => absurd (show (1 : Int32) = 0 from z) (by decide)) (fun _ => ?_)
              have M4 : clM_a I (x2 (x2 (x2 J1 39 3 (nI (sN f n k 3))) 39 4 (nI (sN f n k 4))) 39 5 (nI (sN f n k 5))) := M3.st
              have g2 : sG2 f n k := ⟨c3, ⟨a1, a2⟩, z4, f1, f2⟩
              refine XC.block [121] 60 ?_
              refine cl_ta_a (k := k) (hF.agM_a M4) hG ((M4 15 11 (by omega) (by decide)).trans h11) hv (fun A eA J' M' fr e11 e5 e6 => ?_) (fun eA J' M' => ?_)
              · refine And.intro (fun z => absurd (show (1 : Int32) = 0 from z) (by decide)) (fun _ => ⟨(show (1 : Int32) &&& 1 = 1 by decide), hok g1 g2 A eA J' (fun b k' u1 u2 => (M' b k' u1 u2).trans (M4 b k' u1 u2)) (fun j hj => ?_) ((fr 9 (by decide)).trans p9) ((fr 10 (by decide)).trans p10) e11 (e5.trans m5) (e6.trans m6)⟩)
                match j, hj with
                | 0, _ => exact (fr 0 (by decide)).trans p0
                | 1, _ => exact (fr 1 (by decide)).trans p1
                | 2, _ => exact (fr 2 (by decide)).trans p2
                | 3, _ => exact fr 3 (by decide)
                | 4, _ => exact fr 4 (by decide)
                | 5, _ => exact fr 5 (by decide)
                | j + 6, h => exact absurd h (by omega)
              · refine And.intro (fun _ => bad J' (fun b k' u1 u2 => (M' b k' u1 u2).trans (M4 b k' u1 u2)) (fun w => ?_)) (fun z => absurd (show (0 : Int32) = 0 from rfl) z)
                obtain ⟨A, hA⟩ := w.2.2
                rw [eA] at hA
                cases hA
            · exact And.intro (fun _ => bad _ M3 (fun w => a w.2.1.2.2.2)) (fun z => absurd (show (0 : Int32) = 0 from rfl) z)
          · exact And.intro (fun _ => bad _ M2 (fun w => a (by have := w.2.1.2.2.1; omega))) (fun z => absurd (show (0 : Int32) = 0 from rfl) z)
        · exact And.intro (fun _ => bad _ M1 (fun w => a w.2.1.2.1)) (fun z => absurd (show (0 : Int32) = 0 from rfl) z)
      exact go _ ((M0.st.st.st.stm (by decide)).stm (by decide)) rfl rfl rfl rfl rfl rfl rfl
    · exact And.intro (fun _ => bad J' (fun b k' u1 u2 => (M' b k' u1 u2).trans (M0.st b k' u1 u2)) (fun w => c ⟨w.1.2.1, w.1.2.2.1, w.2.1.1⟩)) (fun z => absurd (show (0 : Int32) = 0 from rfl) z)
  · exact And.intro (fun _ => bad _ M0 (fun w => a (by have := w.1.1; omega))) (fun z => absurd (show (0 : Int32) = 0 from rfl) z)
end CLJ_a
section CLJ_b
variable {X : List (Option Nat)} {T : List xS} {f : Nat → Nat} {n k : Nat} {I J : Nat → Nat → Int32} {L : Nat → Nat → Int64} {F : Nat → Nat → UInt32} {d : Nat} {Q : xP}
theorem cl_tn2_b (hF : clF f n I) (hG : rfG f n) {V q lo hi N : Nat} (hN : sNum f V 4 = N) (hV : I 15 q = nI V) (hVn : V + 4 ≤ n) (hq : q < 12) (hlo : lo < 2 ^ 31) (hhi : hi < 2 ^ 31) {qq l1 h1' : Int32} (hqq : qq = nI q) (hl : l1 = nI lo) (hh : h1' = nI hi)
    (h1 : lo ≤ N → N ≤ hi → Q (some (.int 1)) (shG X (md2 T), x2 I 52 q (nI N), L, F)) (h0 : ¬ (lo ≤ N ∧ N ≤ hi) → Q (some (.int 0)) (shG X (md2 T), I, L, F)) : XM xE0 (d + 2) 95 [.ref 14, .ref 51, .int qq, .int l1, .int h1'] (shG X (md2 T), I, L, F) Q := by
  subst hN
  exact cl_tn_b hF hG hV hVn hq hlo hhi hqq hl hh h1 h0
theorem cl_th2_b (hF : clF f n I) (hG : rfG f n) {N0 V1 V2 N1 N2 : Nat} (e1 : sNum f V1 4 = N1) (e2 : sNum f V2 4 = N2) (h0 : I 52 0 = nI N0) (hN0 : N0 ≤ 16) (hV1 : I 15 1 = nI V1) (hVn1 : V1 + 4 ≤ n) (hV2 : I 15 2 = nI V2) (hVn2 : V2 + 4 ≤ n)
    (h1 : (N1 = 1 ∨ N1 = 2 ∨ N1 = 4) → 1 ≤ N2 → N1 % N2 = 0 → Q (some (.int 1)) (shG X (md2 T), x2 (x2 (x2 (x2 I 52 1 (nI N1)) 52 2 (nI N2)) 51 5 (nI (N0 / N1))) 51 6 (nI (N1 / N2)), L, F))
    (hb : ¬ ((N1 = 1 ∨ N1 = 2 ∨ N1 = 4) ∧ 1 ≤ N2 ∧ N1 % N2 = 0) → ∀ J', clM_b I J' → Q (some (.int 0)) (shG X (md2 T), J', L, F)) : XM xE0 (d + 3) 94 [.ref 14, .ref 51] (shG X (md2 T), I, L, F) Q := by
  subst e1
  subst e2
  exact cl_th_b hF hG h0 hN0 hV1 hVn1 hV2 hVn2 h1 hb
theorem cl_takeNumbers_b (hF : clF f n I) (hG : rfG f n) (hK : ∀ j, j < 6 → I 15 j = nI (sVk f n k j) ∧ sVk f n k j + 4 ≤ n) (h11 : I 15 11 = sAva f n k) (hv : ∀ i, sKf f n (sWd sWa) 5 k 0 = some i → sVa f n i + 4 ≤ n)
    (hok : sG1 f n k → sG2 f n k → ∀ A, sAl1 f n k = some A → ∀ J', clM_b I J' → (∀ j, j < 6 → J' 52 j = nI (sN f n k j)) → J' 52 9 = I 5 9 → J' 52 10 = I 5 10 → J' 52 11 = nI A → J' 51 5 = nI (sN f n k 0 / sN f n k 1) → J' 51 6 = nI (sN f n k 1 / sN f n k 2) → Q (some (.int 1)) (shG X (md2 T), J', L, F))
    (hbad : ¬ (sG1 f n k ∧ sG2 f n k ∧ ∃ A, sAl1 f n k = some A) → ∀ J', clM_b I J' → Q (some (.int 0)) (shG X (md2 T), J', L, F)) : XM xE0 (d + 4) 93 [.ref 14, .ref 51] (shG X (md2 T), I, L, F) Q := by
  have eN : ∀ j, j < 6 → sN f n k j = sNum f (sVk f n k j) 4 := fun j hj => if_pos (Or.inl hj)
  have r8 : ∀ a, 8 ≤ a → a ≤ 16 → (nI a - nI a / 8 * 8 = 0 ↔ (a = 8 ∨ a = 16)) := fun a h1 h2 => by
    rw [rf_rem8 a (by omega)]; omega
  refine XC.block [28] 60 ?_
  refine And.intro (rf_in (j := 9) rfl (by decide) (by decide)) ?_
  refine And.intro (rf_in (j := 10) rfl (by decide) (by decide)) ?_
  have M0 : clM_b I (x2 (x2 I 52 9 (I 5 9)) 52 10 (I 5 10)) := clM_b.rf.st.st
  have q0 := hK 0 (by decide)
  have q3 := hK 3 (by decide)
  have q4 := hK 4 (by decide)
  have q5 := hK 5 (by decide)
  have bad : ∀ J', clM_b I J' → ¬ (sG1 f n k ∧ sG2 f n k ∧ ∃ A, sAl1 f n k = some A) → XC xE0 (d + 4) xM_93 (121, [some (.ref 14), some (.ref 51)], [], (shG X (md2 T), J', L, F)) Q := fun J' M' z => by
    refine XC.block [] 60 ?_
    exact ⟨(show (0 : Int32) &&& 1 = 0 by decide), hbad z J' M'⟩
  refine XC.block [41, 121] 60 ?_
  refine cl_tn2_b (hF.agM_b M0) hG (q := 0) (eN 0 (by decide)).symm (lo := 8) (hi := 16) q0.1 q0.2 (by decide) (by decide) (by decide) rfl rfl rfl (fun a1 a2 => ?_) (fun a => ?_)
  · refine And.intro (fun z => absurd (show (1 : Int32) = 0 from z) (by decide)) (fun _ => ?_)
    refine XC.block [53, 121] 60 ?_
    refine And.intro (rf_in (j := 0) rfl (by decide) (by decide)) ?_
    refine And.intro (show ¬ (8 : Int32) = 0 by decide) ?_
    refine And.intro (fun z => bad _ M0.st (fun w => z ((r8 _ a1 a2).mpr w.1.1))) (fun z => ?_)
    have z : ¬ ¬ nI (sN f n k 0) - nI (sN f n k 0) / 8 * 8 = 0 := z
    have z0 := (r8 _ a1 a2).mp (Classical.not_not.mp z)
    refine XC.block [61, 121] 60 ?_
    refine cl_th2_b (N0 := sN f n k 0) (hF.agM_b M0.st) hG (eN 1 (by decide)).symm (eN 2 (by decide)).symm rfl (by omega) (hK 1 (by decide)).1 (hK 1 (by decide)).2 (hK 2 (by decide)).1 (hK 2 (by decide)).2 (fun c1 c2 c3 => ?_) (fun c J' M' => ?_)
    · have hN2 : sN f n k 2 ≤ 4 := by
        have := Nat.le_of_dvd (by omega) (Nat.dvd_of_mod_eq_zero c3)
        omega
      have g1 : sG1 f n k := ⟨z0, c1, c2, by omega⟩
      refine And.intro (fun z => absurd (show (1 : Int32) = 0 from z) (by decide)) (fun _ => ?_)
      have go : ∀ J1, clM_b I J1 → J1 52 0 = nI (sN f n k 0) → J1 52 1 = nI (sN f n k 1) → J1 52 2 = nI (sN f n k 2) → J1 52 9 = I 5 9 → J1 52 10 = I 5 10 → J1 51 5 = nI (sN f n k 0 / sN f n k 1) → J1 51 6 = nI (sN f n k 1 / sN f n k 2) → XC xE0 (d + 4) xM_93 (61, [some (.ref 14), some (.ref 51)], [], (shG X (md2 T), J1, L, F)) Q := by
        intro J1 M1 p0 p1 p2 p9 p10 m5 m6
        refine XC.block [72, 121] 60 ?_
        refine cl_tn2_b (hF.agM_b M1) hG (q := 3) (eN 3 (by decide)).symm (lo := 1) (hi := 2) ((M1 15 3 (by omega) (by decide)).trans q3.1) q3.2 (by decide) (by decide) (by decide) rfl rfl rfl (fun a1 a2 => ?_) (fun a => ?_)
        · refine And.intro (fun z => absurd (show (1 : Int32) = 0 from z) (by decide)) (fun _ => ?_)
          have M2 : clM_b I (x2 J1 52 3 (nI (sN f n k 3))) := M1.st
          refine XC.block [85, 121] 60 ?_
          refine cl_tn2_b (hF.agM_b M2) hG (q := 4) (eN 4 (by decide)).symm (lo := 8) (hi := 16) ((M2 15 4 (by omega) (by decide)).trans q4.1) q4.2 (by decide) (by decide) (by decide) rfl rfl rfl (fun e1 e2 => ?_) (fun a => ?_)
          · refine And.intro (fun z => absurd (show (1 : Int32) = 0 from z) (by decide)) (fun _ => ?_)
            have M3 : clM_b I (x2 (x2 J1 52 3 (nI (sN f n k 3))) 52 4 (nI (sN f n k 4))) := M2.st
            refine XC.block [97, 121] 60 ?_
            refine And.intro (rf_in (j := 4) rfl (by decide) (by decide)) ?_
            refine And.intro (show ¬ (8 : Int32) = 0 by decide) ?_
            refine And.intro (fun z => bad _ M3 (fun w => z ((r8 _ e1 e2).mpr w.2.1.2.2.1))) (fun z => ?_)
            have z : ¬ ¬ nI (sN f n k 4) - nI (sN f n k 4) / 8 * 8 = 0 := z
            have z4 := (r8 _ e1 e2).mp (Classical.not_not.mp z)
            refine XC.block [109, 121] 60 ?_
            refine cl_tn2_b (hF.agM_b M3) hG (q := 5) (eN 5 (by decide)).symm (lo := 2) (hi := 8) ((M3 15 5 (by omega) (by decide)).trans q5.1) q5.2 (by decide) (by decide) (by decide) rfl rfl rfl (fun f1 f2 => ?_) (fun a => ?_)
            · refine And.intro (fun z => absurd (show (1 : Int32) = 0 from z) (by decide)) (fun _ => ?_)
              have M4 : clM_b I (x2 (x2 (x2 J1 52 3 (nI (sN f n k 3))) 52 4 (nI (sN f n k 4))) 52 5 (nI (sN f n k 5))) := M3.st
              have g2 : sG2 f n k := ⟨c3, ⟨a1, a2⟩, z4, f1, f2⟩
              refine XC.block [121] 60 ?_
              refine cl_ta_b (k := k) (hF.agM_b M4) hG ((M4 15 11 (by omega) (by decide)).trans h11) hv (fun A eA J' M' fr e11 e5 e6 => ?_) (fun eA J' M' => ?_)
              · refine And.intro (fun z => absurd (show (1 : Int32) = 0 from z) (by decide)) (fun _ => ⟨(show (1 : Int32) &&& 1 = 1 by decide), hok g1 g2 A eA J' (fun b k' u1 u2 => (M' b k' u1 u2).trans (M4 b k' u1 u2)) (fun j hj => ?_) ((fr 9 (by decide)).trans p9) ((fr 10 (by decide)).trans p10) e11 (e5.trans m5) (e6.trans m6)⟩)
                match j, hj with
                | 0, _ => exact (fr 0 (by decide)).trans p0
                | 1, _ => exact (fr 1 (by decide)).trans p1
                | 2, _ => exact (fr 2 (by decide)).trans p2
                | 3, _ => exact fr 3 (by decide)
                | 4, _ => exact fr 4 (by decide)
                | 5, _ => exact fr 5 (by decide)
                | j + 6, h => exact absurd h (by omega)
              · refine And.intro (fun _ => bad J' (fun b k' u1 u2 => (M' b k' u1 u2).trans (M4 b k' u1 u2)) (fun w => ?_)) (fun z => absurd (show (0 : Int32) = 0 from rfl) z)
                obtain ⟨A, hA⟩ := w.2.2
                rw [eA] at hA
                cases hA
            · exact And.intro (fun _ => bad _ M3 (fun w => a w.2.1.2.2.2)) (fun z => absurd (show (0 : Int32) = 0 from rfl) z)
          · exact And.intro (fun _ => bad _ M2 (fun w => a (by have := w.2.1.2.2.1; omega))) (fun z => absurd (show (0 : Int32) = 0 from rfl) z)
        · exact And.intro (fun _ => bad _ M1 (fun w => a w.2.1.2.1)) (fun z => absurd (show (0 : Int32) = 0 from rfl) z)
      exact go _ ((M0.st.st.st.stm (by decide)).stm (by decide)) rfl rfl rfl rfl rfl rfl rfl
    · exact And.intro (fun _ => bad J' (fun b k' u1 u2 => (M' b k' u1 u2).trans (M0.st b k' u1 u2)) (fun w => c ⟨w.1.2.1, w.1.2.2.1, w.2.1.1⟩)) (fun z => absurd (show (0 : Int32) = 0 from rfl) z)
  · exact And.intro (fun _ => bad _ M0 (fun w => a (by have := w.1.1; omega))) (fun z => absurd (show (0 : Int32) = 0 from rfl) z)
end CLJ_b
