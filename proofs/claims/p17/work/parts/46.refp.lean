/-! the reference on paper: look -/
/-- FAULT 8 -/
def sFnd (f : Nat → Nat) (n k : Nat) : Prop := (∀ j, j < 11 → sO f n k j ≠ none) ∧ sTF f (sVk f n k 8) (sVk f n k 9) = true
/-- FAULT 9 -/
def sVok (f : Nat → Nat) (n k : Nat) : Prop := sG1 f n k ∧ sG2 f n k ∧ rfEb (rfEp f n k) (rfBa f n k) ∧ sTx f (sVk f n k 8) ∧ sMg f (sTp f (sVk f n k 8)) (f (sVk f n k 8 + 1)) (sVk f n k 9) ∧ sN f n k 10 < f (sVk f n k 8 + 1) ∧ ∃ A, sAlF f n k 0 8 = some A
/-- what is noted of KEYS -/
def rfT (f : Nat → Nat) (n k : Nat) (J : Nat → Nat → Int32) : Prop := (∀ j, j < 11 → J 10 j = nI (sN f n k j)) ∧ (∃ A, sAlF f n k 0 8 = some A ∧ J 10 11 = nI A) ∧ J 0 22 = nI (f (sVk f n k 8 + 1)) ∧ (∀ j, j < f (sVk f n k 8 + 1) → J 11 j = nI (sTp f (sVk f n k 8) j) ∧ sTp f (sVk f n k 8) j + f (sTp f (sVk f n k 8) j) < 1400) ∧ J 0 23 = nI (f (sVk f n k 9 + 1)) ∧ ∀ i, i < f (sVk f n k 9 + 1) → rfM f (sTp f (sVk f n k 8)) (f (sVk f n k 8 + 1)) (sVk f n k 9 + 2 + 10 * i) J i
section RFP
variable {f : Nat → Nat} {n k : Nat} {I J : Nat → Nat → Int32} {L : Nat → Nat → Int64} {F : Nat → Nat → UInt32} {d : Nat} {Q : xP}
theorem rf_look (hG : rfG f n) (hF : rfF f n I) (hV : rfV f n k I) (h3 : I 0 3 = 0)
    (hok : sFnd f n k → sVok f n k → ∀ J', rfD I J' → J' 0 3 = 0 → rfT f n k J' → Q none (sh2, J', L, rfFl F (rfEp f n k) (rfBa f n k)))
    (hb8 : ¬ sFnd f n k → ∀ J', rfD I J' → J' 0 3 = 8 → Q none (sh2, J', L, F))
    (hb9 : sFnd f n k → ¬ sVok f n k → ∀ J', rfD I J' → J' 0 3 = 9 → Q none (sh2, J', L, rfFl F (rfEp f n k) (rfBa f n k))) : XM xE0 (d + 5) 42 [.ref 0] (sh2, I, L, F) Q := by
  refine rf_lkA hG hF hV (fun J1 D1 g3 g16 => ?_)
  have j3 : J1 0 3 = 0 := g3.trans h3
  have F1 := hF.agD D1
  have V1 := hV.ag D1
  refine XC.block [175] 60 ?_
  refine rf_lkB j3 (fun j i e => by have := sKt_lt e; have := hV.2.1; omega) g16 (fun hall x => ?_) (fun hex x => ?_) 11 0 (by omega) (fun j hj => absurd hj (by omega)) _ rfl
  · have K1 := rfKv.of V1 hall g16
    refine rf_lkC hG F1 j3 K1 (fun hT => ?_) (fun hT => hb8 (fun w => by rw [w.2] at hT; cases hT) _ D1.bad rfl)
    have hfnd : sFnd f n k := ⟨hall, hT⟩
    refine XC.block [268] 60 ?_
    refine rf_lkD (I := J1) hG F1 K1 (fun J2 x2' D2 e3 hfr h10 => ?_) 11 0 (by omega) J1 rfD.rf (fun _ _ _ => rfl) (fun j hj => absurd hj (by omega)) _ rfl
    have k3 : J2 0 3 = 0 := e3.trans j3
    have D12 := D1.tr D2
    have F2 := hF.agD D12
    have K2 : rfKv f n k J2 := K1.ag (fun b k hb => hfr b k (by omega))
    -- a FAULT 9 from 478 on
    have B478 : ¬ sVok f n k → ∀ J3 x, rfD I J3 → J3 0 3 = 9 → rfKv f n k J3 → XC xE0 (d + 5) xM_42 (478, rfL1 x, [], (sh2, J3, L, F)) Q := by
      intro hv J3 x D3 f3 K3
      have nf : ¬ J3 0 3 ≤ 0 := by rw [f3]; decide
      refine rf_lkG hG (hF.agD D3) K3 (rf_lkHF nf (rf_lkI (rf_lkJF nf (rf_lkKF hG (hF.agD D3) (hV.ag D3) nf (fun J' D' h' => hb9 hfnd hv J' (D3.tr D') (h'.trans f3))))))
    refine rf_lkE hG k3 h10 (fun g1 => ?_) (fun g1 => ?_)
    · refine rf_lkF hG k3 h10 g1 (fun g2 => ?_) (fun g2 => B478 (fun w => g2 w.2.1) _ _ D12.bad rfl (K2.ag (fun b k hb => by rw [x2_o _ _ (by omega), x2_o _ _ (by omega)])))
      refine rf_lkG hG F2 K2 (rf_lkH k3 (fun eb => rf_lkI ?_) (fun eb => rf_lkI ?_))
      · refine rf_lkJ hG F2 K2 k3 hT (fun tx mg J3 E3 g22 g11 g23 gM => ?_) (fun tm J3 E3 => ?_)
        · have D3 := D12.tr E3.toD
          refine rf_lkK (s := sN f n k 10) hG (hF.agD D3) (hV.ag D3) ((E3 0 3 (by omega) (by omega)).trans k3) tx.2.2.1 (sN_lt hG 10) g22 ((E3 10 10 (by omega) (by omega)).trans (h10 10 (by decide))) (fun hs A eA J4 D4 q3 q11 qf q0 => ?_) (fun hs J4 D4 q3 => ?_)
          · refine hok hfnd ⟨g1, g2, eb, tx, mg, hs, A, eA⟩ J4 (D3.tr D4) q3 ⟨fun j hj => ?_, ⟨A, eA, q11⟩, ?_, fun j hj => ⟨?_, (g11 j hj).2⟩, ?_, fun i hi => ?_⟩
            · rw [qf 10 j (by decide) (by omega), E3 10 j (by omega) (by omega)]; exact h10 j hj
            · rw [q0 22 (by decide)]; exact g22
            · rw [qf 11 j (by decide) (by omega)]; exact (g11 j hj).1
            · rw [q0 23 (by decide)]; exact g23
            · obtain ⟨m1, m2, m3⟩ := gM i hi
              exact ⟨(qf 12 i (by decide) (by omega)).trans m1, (qf 13 i (by decide) (by omega)).trans m2, (qf 14 i (by decide) (by omega)).trans m3⟩
          · exact hb9 hfnd (fun w => hs ⟨w.2.2.2.2.2.1, w.2.2.2.2.2.2⟩) J4 (D3.tr D4) q3
        · have D3 := D12.tr E3.toD
          have q3 : J3 0 3 = 0 := (E3 0 3 (by omega) (by omega)).trans k3
          -- good is 0: FAULT 9 there
          have hv : ¬ sVok f n k := fun w => tm ⟨w.2.2.2.1, w.2.2.2.2.1⟩
          refine XC.block [671] 60 ?_
          refine And.intro (fun _ => rf_bad1 q3 ?_) (fun z => absurd (show (0 : Int32) = 0 from rfl) z)
          refine XC.block [] 60 ?_
          have D4 : rfD I (x2 (x2 J3 0 3 9) 0 4 (-1)) := D3.bad
          exact rf_alignF hG (hF.agD D4) (hV.ag D4) (c := 9) rfl (by decide) (fun J' D' h' => ⟨trivial, hb9 hfnd hv J' (D4.tr D') h'⟩)
      · have hv : ¬ sVok f n k := fun w => eb w.2.2.1
        have D4 : rfD I (x2 (x2 J2 0 3 9) 0 4 (-1)) := D12.bad
        have nf : ¬ x2 (x2 J2 0 3 9) 0 4 (-1) 0 3 ≤ 0 := (by decide : ¬ (9 : Int32) ≤ 0)
        exact rf_lkJF nf (rf_lkKF hG (hF.agD D4) (hV.ag D4) nf (fun J' D' h' => hb9 hfnd hv J' (D4.tr D') h'))
    · have D4 : rfD I (x2 (x2 J2 0 3 9) 0 4 (-1)) := D12.bad
      have nf : ¬ x2 (x2 J2 0 3 9) 0 4 (-1) 0 3 ≤ 0 := (by decide : ¬ (9 : Int32) ≤ 0)
      exact rf_lkFF nf (B478 (fun w => g1 w.1) _ _ D4 rfl (K2.ag (fun b k hb => by rw [x2_o _ _ (by omega), x2_o _ _ (by omega)])))
  · exact rf_lkCF (show ¬ (8 : Int32) ≤ 0 by decide) (hb8 (fun w => by obtain ⟨j, hj, e⟩ := hex; exact w.1 j hj e) _ D1.bad rfl)
end RFP
