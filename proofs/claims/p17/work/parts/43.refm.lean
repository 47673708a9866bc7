/-! the KEYS that are looked for -/
def sWs : List (List Nat) := [[100, 105, 109], [104, 101, 97, 100, 115], [107, 118], [108, 97, 121, 101, 114, 115], [102, 102, 110], [99, 116, 120], [101, 112, 115], [98, 97, 115, 101], [116, 111, 107, 101, 110, 115], [109, 101, 114, 103, 101, 115], [115, 116, 111, 112]]
def sTs : List Nat := [0, 0, 0, 0, 0, 0, 1, 1, 3, 3, 0]
/-- the PAIR of KEY j with its TYPE; the place of its VALUE; the number there -/
def sO (f : Nat → Nat) (n k j : Nat) : Option Nat := sKt f n (sTs.getD j 0) (sWd (sWs.getD j [])) (sWs.getD j []).length k
def sVk (f : Nat → Nat) (n k j : Nat) : Nat := match sO f n k j with
  | none => 0
  | some i => sVa f n i
def sN (f : Nat → Nat) (n k j : Nat) : Nat := if j < 6 ∨ j = 10 then sNum f (sVk f n k j) 4 else 0
theorem rfW_0 : rfW 7170404 (sWd (sWs.getD 0 [])) 3 := by
  show ∀ i, i < 3 → _
  decide +kernel
theorem rfW_1 : rfW 495605343592 (sWd (sWs.getD 1 [])) 5 := by
  show ∀ i, i < 5 → _
  decide +kernel
theorem rfW_2 : rfW 30315 (sWd (sWs.getD 2 [])) 2 := by
  show ∀ i, i < 2 → _
  decide +kernel
theorem rfW_3 : rfW 126935165919596 (sWd (sWs.getD 3 [])) 6 := by
  show ∀ i, i < 6 → _
  decide +kernel
theorem rfW_4 : rfW 7235174 (sWd (sWs.getD 4 [])) 3 := by
  show ∀ i, i < 3 → _
  decide +kernel
theorem rfW_5 : rfW 7894115 (sWd (sWs.getD 5 [])) 3 := by
  show ∀ i, i < 3 → _
  decide +kernel
theorem rfW_6 : rfW 7565413 (sWd (sWs.getD 6 [])) 3 := by
  show ∀ i, i < 3 → _
  decide +kernel
theorem rfW_7 : rfW 1702060386 (sWd (sWs.getD 7 [])) 4 := by
  show ∀ i, i < 4 → _
  decide +kernel
theorem rfW_8 : rfW 126917985136500 (sWd (sWs.getD 8 [])) 6 := by
  show ∀ i, i < 6 → _
  decide +kernel
theorem rfW_9 : rfW 126879364441453 (sWd (sWs.getD 9 [])) 6 := by
  show ∀ i, i < 6 → _
  decide +kernel
theorem rfW_10 : rfW 1886352499 (sWd (sWs.getD 10 [])) 4 := by
  show ∀ i, i < 4 → _
  decide +kernel
section RFM
variable {f : Nat → Nat} {n k : Nat} {I J : Nat → Nat → Int32} {L : Nat → Nat → Int64} {F : Nat → Nat → UInt32} {d : Nat} {Q : xP}
abbrev rfLs : xL := [some (.ref 0), none, none, none, none, none, none, none]
theorem rf_lk0 (hG : rfG f n) (hF : rfF f n J) (hV : rfV f n k J) (hgo : XC xE0 (d + 5) xM_42 (15, rfLs, [], (sh2, x2 J 16 0 (rfO (sO f n k 0)), L, F)) Q) : XC xE0 (d + 5) xM_42 (0, rfLs, [], (sh2, J, L, F)) Q := by
  refine XC.block [15] 60 ?_
  refine rf_key hF hG.1 (m := 3) (t := 0) (by decide) (by decide) hV.2.1 rfW_0 rfl rfl hV.1 hV.2.2.1 ?_
  exact And.intro (rf_in (j := 0) rfl (by decide) (by decide)) hgo
theorem rf_lk1 (hG : rfG f n) (hF : rfF f n J) (hV : rfV f n k J) (hgo : XC xE0 (d + 5) xM_42 (30, rfLs, [], (sh2, x2 J 16 1 (rfO (sO f n k 1)), L, F)) Q) : XC xE0 (d + 5) xM_42 (15, rfLs, [], (sh2, J, L, F)) Q := by
  refine XC.block [30] 60 ?_
  refine rf_key hF hG.1 (m := 5) (t := 0) (by decide) (by decide) hV.2.1 rfW_1 rfl rfl hV.1 hV.2.2.1 ?_
  exact And.intro (rf_in (j := 1) rfl (by decide) (by decide)) hgo
theorem rf_lk2 (hG : rfG f n) (hF : rfF f n J) (hV : rfV f n k J) (hgo : XC xE0 (d + 5) xM_42 (45, rfLs, [], (sh2, x2 J 16 2 (rfO (sO f n k 2)), L, F)) Q) : XC xE0 (d + 5) xM_42 (30, rfLs, [], (sh2, J, L, F)) Q := by
  refine XC.block [45] 60 ?_
  refine rf_key hF hG.1 (m := 2) (t := 0) (by decide) (by decide) hV.2.1 rfW_2 rfl rfl hV.1 hV.2.2.1 ?_
  exact And.intro (rf_in (j := 2) rfl (by decide) (by decide)) hgo
theorem rf_lk3 (hG : rfG f n) (hF : rfF f n J) (hV : rfV f n k J) (hgo : XC xE0 (d + 5) xM_42 (61, rfLs, [], (sh2, x2 J 16 3 (rfO (sO f n k 3)), L, F)) Q) : XC xE0 (d + 5) xM_42 (45, rfLs, [], (sh2, J, L, F)) Q := by
  refine XC.block [61] 60 ?_
  refine rf_key hF hG.1 (m := 6) (t := 0) (by decide) (by decide) hV.2.1 rfW_3 rfl rfl hV.1 hV.2.2.1 ?_
  exact And.intro (rf_in (j := 3) rfl (by decide) (by decide)) hgo
theorem rf_lk4 (hG : rfG f n) (hF : rfF f n J) (hV : rfV f n k J) (hgo : XC xE0 (d + 5) xM_42 (76, rfLs, [], (sh2, x2 J 16 4 (rfO (sO f n k 4)), L, F)) Q) : XC xE0 (d + 5) xM_42 (61, rfLs, [], (sh2, J, L, F)) Q := by
  refine XC.block [76] 60 ?_
  refine rf_key hF hG.1 (m := 3) (t := 0) (by decide) (by decide) hV.2.1 rfW_4 rfl rfl hV.1 hV.2.2.1 ?_
  exact And.intro (rf_in (j := 4) rfl (by decide) (by decide)) hgo
theorem rf_lk5 (hG : rfG f n) (hF : rfF f n J) (hV : rfV f n k J) (hgo : XC xE0 (d + 5) xM_42 (91, rfLs, [], (sh2, x2 J 16 5 (rfO (sO f n k 5)), L, F)) Q) : XC xE0 (d + 5) xM_42 (76, rfLs, [], (sh2, J, L, F)) Q := by
  refine XC.block [91] 60 ?_
  refine rf_key hF hG.1 (m := 3) (t := 0) (by decide) (by decide) hV.2.1 rfW_5 rfl rfl hV.1 hV.2.2.1 ?_
  exact And.intro (rf_in (j := 5) rfl (by decide) (by decide)) hgo
theorem rf_lk6 (hG : rfG f n) (hF : rfF f n J) (hV : rfV f n k J) (hgo : XC xE0 (d + 5) xM_42 (107, rfLs, [], (sh2, x2 J 16 6 (rfO (sO f n k 6)), L, F)) Q) : XC xE0 (d + 5) xM_42 (91, rfLs, [], (sh2, J, L, F)) Q := by
  refine XC.block [107] 60 ?_
  refine rf_key hF hG.1 (m := 3) (t := 1) (by decide) (by decide) hV.2.1 rfW_6 rfl rfl hV.1 hV.2.2.1 ?_
  exact And.intro (rf_in (j := 6) rfl (by decide) (by decide)) hgo
theorem rf_lk7 (hG : rfG f n) (hF : rfF f n J) (hV : rfV f n k J) (hgo : XC xE0 (d + 5) xM_42 (123, rfLs, [], (sh2, x2 J 16 7 (rfO (sO f n k 7)), L, F)) Q) : XC xE0 (d + 5) xM_42 (107, rfLs, [], (sh2, J, L, F)) Q := by
  refine XC.block [123] 60 ?_
  refine rf_key hF hG.1 (m := 4) (t := 1) (by decide) (by decide) hV.2.1 rfW_7 rfl rfl hV.1 hV.2.2.1 ?_
  exact And.intro (rf_in (j := 7) rfl (by decide) (by decide)) hgo
theorem rf_lk8 (hG : rfG f n) (hF : rfF f n J) (hV : rfV f n k J) (hgo : XC xE0 (d + 5) xM_42 (140, rfLs, [], (sh2, x2 J 16 8 (rfO (sO f n k 8)), L, F)) Q) : XC xE0 (d + 5) xM_42 (123, rfLs, [], (sh2, J, L, F)) Q := by
  refine XC.block [140] 60 ?_
  refine rf_key hF hG.1 (m := 6) (t := 3) (by decide) (by decide) hV.2.1 rfW_8 rfl rfl hV.1 hV.2.2.1 ?_
  exact And.intro (rf_in (j := 8) rfl (by decide) (by decide)) hgo
theorem rf_lk9 (hG : rfG f n) (hF : rfF f n J) (hV : rfV f n k J) (hgo : XC xE0 (d + 5) xM_42 (157, rfLs, [], (sh2, x2 J 16 9 (rfO (sO f n k 9)), L, F)) Q) : XC xE0 (d + 5) xM_42 (140, rfLs, [], (sh2, J, L, F)) Q := by
  refine XC.block [157] 60 ?_
  refine rf_key hF hG.1 (m := 6) (t := 3) (by decide) (by decide) hV.2.1 rfW_9 rfl rfl hV.1 hV.2.2.1 ?_
  exact And.intro (rf_in (j := 9) rfl (by decide) (by decide)) hgo
theorem rf_lk10 (hG : rfG f n) (hF : rfF f n J) (hV : rfV f n k J) (hgo : XC xE0 (d + 5) xM_42 (173, rfLs, [], (sh2, x2 J 16 10 (rfO (sO f n k 10)), L, F)) Q) : XC xE0 (d + 5) xM_42 (157, rfLs, [], (sh2, J, L, F)) Q := by
  refine XC.block [173] 60 ?_
  refine rf_key hF hG.1 (m := 4) (t := 0) (by decide) (by decide) hV.2.1 rfW_10 rfl rfl hV.1 hV.2.2.1 ?_
  exact And.intro (rf_in (j := 10) rfl (by decide) (by decide)) hgo
theorem rf_lkA (hG : rfG f n) (hF : rfF f n I) (hV : rfV f n k I) (hgo : ∀ J, rfD I J → J 0 3 = I 0 3 → (∀ j, j < 11 → J 16 j = rfO (sO f n k j)) → XC xE0 (d + 5) xM_42 (173, rfLs, [], (sh2, J, L, F)) Q) : XM xE0 (d + 5) 42 [.ref 0] (sh2, I, L, F) Q := by
  show XC xE0 (d + 5) xM_42 (0, rfLs, [], (sh2, I, L, F)) Q
  have D0 : rfD I I := rfD.rf
  refine rf_lk0 hG (hF.agD D0) (hV.ag D0) ?_
  have D1 : rfD I (x2 I 16 0 (rfO (sO f n k 0))) := D0.st (by decide) (by decide)
  refine rf_lk1 hG (hF.agD D1) (hV.ag D1) ?_
  have D2 : rfD I (x2 (x2 I 16 0 (rfO (sO f n k 0))) 16 1 (rfO (sO f n k 1))) := D1.st (by decide) (by decide)
  refine rf_lk2 hG (hF.agD D2) (hV.ag D2) ?_
  have D3 : rfD I (x2 (x2 (x2 I 16 0 (rfO (sO f n k 0))) 16 1 (rfO (sO f n k 1))) 16 2 (rfO (sO f n k 2))) := D2.st (by decide) (by decide)
  refine rf_lk3 hG (hF.agD D3) (hV.ag D3) ?_
  have D4 : rfD I (x2 (x2 (x2 (x2 I 16 0 (rfO (sO f n k 0))) 16 1 (rfO (sO f n k 1))) 16 2 (rfO (sO f n k 2))) 16 3 (rfO (sO f n k 3))) := D3.st (by decide) (by decide)
  refine rf_lk4 hG (hF.agD D4) (hV.ag D4) ?_
  have D5 : rfD I (x2 (x2 (x2 (x2 (x2 I 16 0 (rfO (sO f n k 0))) 16 1 (rfO (sO f n k 1))) 16 2 (rfO (sO f n k 2))) 16 3 (rfO (sO f n k 3))) 16 4 (rfO (sO f n k 4))) := D4.st (by decide) (by decide)
  refine rf_lk5 hG (hF.agD D5) (hV.ag D5) ?_
  have D6 : rfD I (x2 (x2 (x2 (x2 (x2 (x2 I 16 0 (rfO (sO f n k 0))) 16 1 (rfO (sO f n k 1))) 16 2 (rfO (sO f n k 2))) 16 3 (rfO (sO f n k 3))) 16 4 (rfO (sO f n k 4))) 16 5 (rfO (sO f n k 5))) := D5.st (by decide) (by decide)
  refine rf_lk6 hG (hF.agD D6) (hV.ag D6) ?_
  have D7 : rfD I (x2 (x2 (x2 (x2 (x2 (x2 (x2 I 16 0 (rfO (sO f n k 0))) 16 1 (rfO (sO f n k 1))) 16 2 (rfO (sO f n k 2))) 16 3 (rfO (sO f n k 3))) 16 4 (rfO (sO f n k 4))) 16 5 (rfO (sO f n k 5))) 16 6 (rfO (sO f n k 6))) := D6.st (by decide) (by decide)
  refine rf_lk7 hG (hF.agD D7) (hV.ag D7) ?_
  have D8 : rfD I (x2 (x2 (x2 (x2 (x2 (x2 (x2 (x2 I 16 0 (rfO (sO f n k 0))) 16 1 (rfO (sO f n k 1))) 16 2 (rfO (sO f n k 2))) 16 3 (rfO (sO f n k 3))) 16 4 (rfO (sO f n k 4))) 16 5 (rfO (sO f n k 5))) 16 6 (rfO (sO f n k 6))) 16 7 (rfO (sO f n k 7))) := D7.st (by decide) (by decide)
  refine rf_lk8 hG (hF.agD D8) (hV.ag D8) ?_
  have D9 : rfD I (x2 (x2 (x2 (x2 (x2 (x2 (x2 (x2 (x2 I 16 0 (rfO (sO f n k 0))) 16 1 (rfO (sO f n k 1))) 16 2 (rfO (sO f n k 2))) 16 3 (rfO (sO f n k 3))) 16 4 (rfO (sO f n k 4))) 16 5 (rfO (sO f n k 5))) 16 6 (rfO (sO f n k 6))) 16 7 (rfO (sO f n k 7))) 16 8 (rfO (sO f n k 8))) := D8.st (by decide) (by decide)
  refine rf_lk9 hG (hF.agD D9) (hV.ag D9) ?_
  have D10 : rfD I (x2 (x2 (x2 (x2 (x2 (x2 (x2 (x2 (x2 (x2 I 16 0 (rfO (sO f n k 0))) 16 1 (rfO (sO f n k 1))) 16 2 (rfO (sO f n k 2))) 16 3 (rfO (sO f n k 3))) 16 4 (rfO (sO f n k 4))) 16 5 (rfO (sO f n k 5))) 16 6 (rfO (sO f n k 6))) 16 7 (rfO (sO f n k 7))) 16 8 (rfO (sO f n k 8))) 16 9 (rfO (sO f n k 9))) := D9.st (by decide) (by decide)
  refine rf_lk10 hG (hF.agD D10) (hV.ag D10) ?_
  have D11 : rfD I (x2 (x2 (x2 (x2 (x2 (x2 (x2 (x2 (x2 (x2 (x2 I 16 0 (rfO (sO f n k 0))) 16 1 (rfO (sO f n k 1))) 16 2 (rfO (sO f n k 2))) 16 3 (rfO (sO f n k 3))) 16 4 (rfO (sO f n k 4))) 16 5 (rfO (sO f n k 5))) 16 6 (rfO (sO f n k 6))) 16 7 (rfO (sO f n k 7))) 16 8 (rfO (sO f n k 8))) 16 9 (rfO (sO f n k 9))) 16 10 (rfO (sO f n k 10))) := D10.st (by decide) (by decide)
  refine hgo _ D11 rfl (fun j hj => ?_)
  match j, hj with
  | 0, _ => rfl
  | 1, _ => rfl
  | 2, _ => rfl
  | 3, _ => rfl
  | 4, _ => rfl
  | 5, _ => rfl
  | 6, _ => rfl
  | 7, _ => rfl
  | 8, _ => rfl
  | 9, _ => rfl
  | 10, _ => rfl
  | j + 11, h => exact absurd h (by omega)
end RFM
