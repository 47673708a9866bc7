/-! how many weights there are, and what they are -/
def sCnt (P : Nat → Bool) : Nat → Nat
  | 0 => 0
  | N + 1 => sCnt P N + (bif P N then 1 else 0)
theorem sCnt_le (P : Nat → Bool) : ∀ N, sCnt P N ≤ N
  | 0 => Nat.le_refl _
  | N + 1 => by
    have := sCnt_le P N
    show sCnt P N + (bif P N then 1 else 0) ≤ N + 1
    cases P N with
    | true => show sCnt P N + 1 ≤ N + 1; omega
    | false => show sCnt P N + 0 ≤ N + 1; omega
theorem sCnt_or (P R : Nat → Bool) (h : ∀ x, P x = true → R x = true → False) : ∀ N, sCnt (fun x => P x || R x) N = sCnt P N + sCnt R N
  | 0 => rfl
  | N + 1 => by
    have ih := sCnt_or P R h N
    show sCnt (fun x => P x || R x) N + (bif (P N || R N) then 1 else 0) = sCnt P N + (bif P N then 1 else 0) + (sCnt R N + (bif R N then 1 else 0))
    rw [ih]
    cases hp : P N with
    | true =>
      cases hr : R N with
      | true => exact (h N hp hr).elim
      | false => show _ + 1 = _ + 1 + (_ + 0); omega
    | false =>
      cases hr : R N with
      | true => show _ + 1 = _ + 0 + (_ + 1); omega
      | false => show _ + 0 = _ + 0 + (_ + 0); omega
theorem sCnt_iv (a l : Nat) : ∀ N, sCnt (fun x => decide (a ≤ x ∧ x < a + l)) N = min N (a + l) - min N a
  | 0 => by show 0 = _; omega
  | N + 1 => by
    show sCnt (fun x => decide (a ≤ x ∧ x < a + l)) N + (bif decide (a ≤ N ∧ N < a + l) then 1 else 0) = _
    rw [sCnt_iv a l N]
    by_cases h : a ≤ N ∧ N < a + l
    · rw [decide_eq_true h]
      show _ + 1 = _
      omega
    · rw [decide_eq_false h]
      show _ + 0 = _
      omega
/-- the weights before TENSOR i -/
def sBg (f : Nat → Nat) (n b : Nat) : Nat → Nat
  | 0 => 0
  | i + 1 => sBg f n b i + sCo f n b i * sRo f n b i
def sOs (f : Nat → Nat) (n b : Nat) : Nat → Nat
  | 0 => 0
  | i + 1 => sOs f n b i + sOc f n b i
def sAny (f : Nat → Nat) (n b : Nat) : Nat → Nat → Bool
  | 0, _ => false
  | i + 1, x => sAny f n b i x || decide (sOf f n b i ≤ x ∧ x < sOf f n b i + sOc f n b i)
theorem sAny_ex {f : Nat → Nat} {n b : Nat} : ∀ (i x : Nat), sAny f n b i x = true → ∃ j, j < i ∧ sOf f n b j ≤ x ∧ x < sOf f n b j + sOc f n b j
  | 0, x, h => by cases h
  | i + 1, x, h => by
    have h : (sAny f n b i x || decide (sOf f n b i ≤ x ∧ x < sOf f n b i + sOc f n b i)) = true := h
    rw [Bool.or_eq_true] at h
    rcases h with h | h
    · obtain ⟨j, hj, k⟩ := sAny_ex i x h
      exact ⟨j, by omega, k⟩
    · exact ⟨i, by omega, of_decide_eq_true h⟩
theorem sOs_cnt {f : Nat → Nat} {n b B A t : Nat} (h : ∀ i, i < t → sPl f n b B A i) : ∀ i, i ≤ t → sCnt (sAny f n b i) n = sOs f n b i
  | 0, _ => by
    have : ∀ N, sCnt (sAny f n b 0) N = 0 := by
      intro N
      induction N with
      | zero => rfl
      | succ N ih => show sCnt (sAny f n b 0) N + 0 = 0; omega
    exact this n
  | i + 1, hi => by
    have ih := sOs_cnt h i (by omega)
    have hp := h i (by omega)
    show sCnt (fun x => sAny f n b i x || decide (sOf f n b i ≤ x ∧ x < sOf f n b i + sOc f n b i)) n = sOs f n b i + sOc f n b i
    rw [sCnt_or, ih, sCnt_iv]
    · have := hp.1.2
      omega
    · intro x h1 h2
      obtain ⟨j, hj, k1, k2⟩ := sAny_ex i x h1
      have k3 := of_decide_eq_true h2
      exact hp.2 j hj ⟨by omega, by omega⟩
theorem sBg_oc {f : Nat → Nat} {n b i : Nat} (h8 : 0 < sPk f n b i → sCo f n b i % 8 = 0) : 3 * (sCo f n b i * sRo f n b i) ≤ 4 * sOc f n b i := by
  unfold sOc sSt sBk
  split
  · rw [Nat.mul_comm (sCo f n b i)]; omega
  · rename_i hz
    have h8 := h8 (by omega)
    have e : sCo f n b i * sRo f n b i = 8 * (sRo f n b i * (sCo f n b i / 8)) := by
      have : sCo f n b i = 8 * (sCo f n b i / 8) := by omega
      conv => lhs; rw [this]
      rw [Nat.mul_comm (sRo f n b i), Nat.mul_assoc]
    rw [e]
    split <;> omega
theorem sBg_le {f : Nat → Nat} {n b B A t : Nat} (hn : n ≤ 1400) (h : ∀ i, i < t → sPl f n b B A i) (h8 : ∀ i, i < t → 0 < sPk f n b i → sCo f n b i % 8 = 0) : ∀ i, i ≤ t → sBg f n b i ≤ 1866 := by
  have k : ∀ i, i ≤ t → 3 * sBg f n b i ≤ 4 * sOs f n b i := by
    intro i
    induction i with
    | zero => intro _; exact Nat.le_refl _
    | succ i ih =>
      intro hi
      have := ih (by omega)
      have := sBg_oc (h8 i (by omega))
      show 3 * (sBg f n b i + sCo f n b i * sRo f n b i) ≤ 4 * (sOs f n b i + sOc f n b i)
      omega
  intro i hi
  have h1 := k i hi
  have h2 := sOs_cnt h i hi
  have h3 := sCnt_le (sAny f n b i) n
  omega
/-- a weight -/
def rfWn (f : Nat → Nat) (n b B i j : Nat) : Int32 := if sPk f n b i = 1 then (if j % 8 < 4 then nI (f (B + sOf f n b i + j / 8 * 6 + 2 + j % 8 % 4)) &&& 15 else nI (f (B + sOf f n b i + j / 8 * 6 + 2 + j % 8 % 4)) >>> ((4 : Int32) &&& 31)) - 8 else (if nI (f (B + sOf f n b i + j / 8 * 10 + 2 + j % 8)) ≤ 127 then nI (f (B + sOf f n b i + j / 8 * 10 + 2 + j % 8)) else nI (f (B + sOf f n b i + j / 8 * 10 + 2 + j % 8)) - 256)
abbrev rfRe (e : Int64) : UInt32 := FP.fdiv (FP.l2f e) 1266679808
def rfWg (f : Nat → Nat) (n b B i j : Nat) : UInt32 := if sPk f n b i = 0 then rfRe (rfHf (nI (sNum f (B + sOf f n b i + 2 * j) 2))) else FP.fmul (FP.i2f (rfWn f n b B i j)) (rfRe (rfHf (nI (sNum f (B + sOf f n b i + j / 8 * sSt f n b i) 2))))
theorem rfRe_fin (e : Int64) : Jvm.FP.Core.FFin (rfRe e) := by
  have h := Jvm.FP.Core.fdiv_mag (a := FP.l2f e) (b := 1266679808) (K := 192) (L := 151) (Jvm.FP.Core.l2f_mag e) (by decide) (by decide) (by decide) (by decide)
  rw [Jvm.FP.Core.fin_bits32]
  have h : (rfRe e).toNat % 2 ^ 31 < (192 + (149 - 23 - 1) - 151 + 3) * 2 ^ 23 := h
  omega
theorem rf_wgn (x : Int32) (e : Int64) : vf_n32 (FP.fmul (FP.i2f x) (rfRe e)) := rf_n32 (Jvm.FP.Core.fmul_out (Jvm.FP.Core.i2f_fin x) (rfRe_fin e))
section RFV
variable {f : Nat → Nat} {n b t : Nat} {I J : Nat → Nat → Int32} {L : Nat → Nat → Int64} {F : Nat → Nat → UInt32} {d : Nat} {Q : xP}
abbrev rfLg (x j p c bl : Int32) (y6 y7 : Option Value) : xL := [some (.ref 0), some (.int x), some (.int j), some (.int p), some (.int c), some (.int bl), y6, y7]
theorem rf_wg162 (hG : rfG f n) (hF : rfF f n J) {x j p c bl o v : Int32} {bb : Nat} (hbl : bl = nI bb) (hb : bb + 2 ≤ 1400) (hQ : Q (some (.float (FP.fmul (FP.i2f v) (rfRe (rfHf (nI (sNum f bb 2))))))) (sh2, J, L, F)) : XC xE0 (d + 2) xM_54 (162, rfLg x j p c bl (some (.int o)) (some (.int v)), [], (sh2, J, L, F)) Q := by
  refine XC.block [] 60 ?_
  refine rf_half hF hG.1 (p := bb) hb hbl ?_
  exact And.intro (rf_nn _) (And.intro (rf_wgn _ _) ⟨trivial, hQ⟩)
theorem rf_weigh (hG : rfG f n) (hF : rfF f n J) (hU : rfU f n b t J) {B i : Nat} (h24 : J 0 24 = nI B) (hi : i < t) (hpl : B + (sOf f n b i + sOc f n b i) ≤ n) {jj : Nat} (hj : jj < sCo f n b i * sRo f n b i) {x j : Int32} (hx : x = nI i) (hjj : j = nI jj)
    (hQ : Q (some (.float (rfWg f n b B i jj))) (sh2, J, L, F)) : XM xE0 (d + 2) 54 [.ref 0, .int x, .int j] (sh2, J, L, F) Q := by
  have ht := hU.2.1
  have hn := hG.2
  obtain ⟨-, ⟨h6, h6a, h6b⟩, ⟨h7, h7a, h7b⟩, ⟨h8, h8a, h8b⟩, h9, h9b⟩ := hU.2.2 i hi
  have hcr : sCo f n b i * sRo f n b i ≤ 256 := Nat.mul_le_mul h6b h7b
  have e8 : J 8 x.toNatClampNeg = nI (sPk f n b i) := by rw [hx, nI_clamp (by omega)]; exact h8
  have e9 : J 9 x.toNatClampNeg = nI (sOf f n b i) := by rw [hx, nI_clamp (by omega)]; exact h9
  have ep : J 0 24 + J 9 x.toNatClampNeg = nI (B + sOf f n b i) := by rw [h24, e9, nI_add]
  have er : j - j / 8 * 8 = nI (jj % 8) := by rw [hjj]; exact pk_rem (d := 8) (by omega) (by omega) (by omega)
  have ed : j / 8 = nI (jj / 8) := by rw [hjj]; exact pk_div (d := 8) (by omega) (by omega) (by omega)
  refine XC.block [12] 60 ?_
  refine And.intro (rf_in hx (by omega) (by decide)) ?_
  have go : ∀ p, p = nI (B + sOf f n b i) → XC xE0 (d + 2) xM_54 (12, [some (.ref 0), some (.int x), some (.int j), some (.int p), none, none, none, none], [], (sh2, J, L, F)) Q := by
    intro p hp
    refine XC.block [67] 60 ?_
    refine And.intro (rf_in hx (by omega) (by decide)) ?_
    refine And.intro (fun z => ?_) (fun z => ?_)
    · have z : ¬ J 8 x.toNatClampNeg = 0 := z
      rw [e8, show (0 : Int32) = nI 0 from rfl, nI_eq (by omega) (by omega)] at z
      have h88 := h8b (by omega)
      have hq : jj / 8 < sBk f n b i := by
        unfold sBk
        rw [if_neg z]
        have e : sCo f n b i * sRo f n b i = 8 * (sRo f n b i * (sCo f n b i / 8)) := by
          have : sCo f n b i = 8 * (sCo f n b i / 8) := by omega
          conv => lhs; rw [this]
          rw [Nat.mul_comm (sRo f n b i), Nat.mul_assoc]
        omega
      have hoc : sSt f n b i * (jj / 8) + sSt f n b i ≤ sOc f n b i := by
        unfold sOc
        rw [← Nat.mul_succ]
        exact Nat.mul_le_mul_left _ (by omega)
      have hQ : Q (some (.float (FP.fmul (FP.i2f (rfWn f n b B i jj)) (rfRe (rfHf (nI (sNum f (B + sOf f n b i + jj / 8 * sSt f n b i) 2))))))) (sh2, J, L, F) := by
        unfold rfWg at hQ
        rw [if_neg z] at hQ
        exact hQ
      refine And.intro (show ¬ (8 : Int32) = 0 by decide) ?_
      refine And.intro (show ¬ (8 : Int32) = 0 by decide) ?_
      refine And.intro (rf_in hx (by omega) (by decide)) ?_
      have c4 : jj % 8 % 4 < 4 := by omega
      have go67 : ∀ c bl, c = nI (jj % 8) → bl = nI (B + sOf f n b i + jj / 8 * sSt f n b i) → XC xE0 (d + 2) xM_54 (67, rfLg x j p c bl none none, [], (sh2, J, L, F)) Q := by
        intro c bl hc hbl
        have cbl : bl + 2 = nI (B + sOf f n b i + jj / 8 * sSt f n b i + 2) := by rw [hbl, show (2 : Int32) = nI 2 from rfl, nI_add]
        have cm : sSt f n b i * (jj / 8) = jj / 8 * sSt f n b i := Nat.mul_comm _ _
        refine XC.block [106] 60 ?_
        refine And.intro (rf_in hx (by omega) (by decide)) ?_
        refine And.intro (fun w => ?_) (fun w => ?_)
        · have w : ¬ J 8 x.toNatClampNeg = 1 := w
          rw [e8, show (1 : Int32) = nI 1 from rfl, nI_eq (by omega) (by omega)] at w
          have est : sSt f n b i = 10 := by unfold sSt; rw [if_neg z, if_neg w]
          rw [est] at cbl hbl cm hoc hQ
          have ei : bl + 2 + c = nI (B + sOf f n b i + jj / 8 * 10 + 2 + jj % 8) := by rw [cbl, hc, nI_add]
          have ho := hG.1 (B + sOf f n b i + jj / 8 * 10 + 2 + jj % 8)
          refine And.intro (rf_in ei (by omega) (by decide)) ?_
          have go106 : ∀ o, o = nI (f (B + sOf f n b i + jj / 8 * 10 + 2 + jj % 8)) → XC xE0 (d + 2) xM_54 (106, rfLg x j p c bl none none, [.int o], (sh2, J, L, F)) Q := by
            intro o hoo
            have en : ∀ v, v = (if o ≤ 127 then o else o - 256) → XC xE0 (d + 2) xM_54 (162, rfLg x j p c bl (some (.int o)) (some (.int v)), [], (sh2, J, L, F)) Q := by
              intro v hv
              refine rf_wg162 hG hF hbl (by omega) ?_
              unfold rfWn at hQ
              rw [if_neg w, ← hoo, ← hv] at hQ
              exact hQ
            refine XC.block [162] 60 ?_
            refine And.intro (rf_in hx (by omega) (by decide)) ?_
            refine And.intro (fun _ => ?_) (fun w2 => ?_)
            · refine And.intro (fun y => en _ ?_) (fun y => en _ ?_)
              · have y : o ≤ 127 := y
                rw [if_pos y]
              · have y : ¬ o ≤ 127 := y
                rw [if_neg y]
            · have w2 : ¬ ¬ J 8 x.toNatClampNeg = 1 := w2
              have w2 := Classical.not_not.mp w2
              rw [e8, show (1 : Int32) = nI 1 from rfl, nI_eq (by omega) (by omega)] at w2
              exact absurd w2 w
          exact go106 _ (rf_at hF ei (by omega))
        · have w : ¬ ¬ J 8 x.toNatClampNeg = 1 := w
          have w := Classical.not_not.mp w
          rw [e8, show (1 : Int32) = nI 1 from rfl, nI_eq (by omega) (by omega)] at w
          have est : sSt f n b i = 6 := by unfold sSt; rw [if_neg z, if_pos w]
          rw [est] at cbl hbl cm hoc hQ
          have e4 : c - c / 4 * 4 = nI (jj % 8 % 4) := by rw [hc]; exact pk_rem (d := 4) (by omega) (by omega) (by omega)
          have ei : bl + 2 + (c - c / 4 * 4) = nI (B + sOf f n b i + jj / 8 * 6 + 2 + jj % 8 % 4) := by rw [cbl, e4, nI_add]
          refine And.intro (show ¬ (4 : Int32) = 0 by decide) ?_
          refine And.intro (rf_in ei (by omega) (by decide)) ?_
          have go106 : ∀ o, o = nI (f (B + sOf f n b i + jj / 8 * 6 + 2 + jj % 8 % 4)) → XC xE0 (d + 2) xM_54 (106, rfLg x j p c bl none none, [.int o], (sh2, J, L, F)) Q := by
            intro o hoo
            have en : ∀ v, v = (if jj % 8 < 4 then o &&& 15 else o >>> ((4 : Int32) &&& 31)) - 8 → XC xE0 (d + 2) xM_54 (162, rfLg x j p c bl (some (.int o)) (some (.int v)), [], (sh2, J, L, F)) Q := by
              intro v hv
              refine rf_wg162 hG hF hbl (by omega) ?_
              unfold rfWn at hQ
              rw [if_pos w, ← hoo, ← hv] at hQ
              exact hQ
            refine XC.block [162] 60 ?_
            refine And.intro (rf_in hx (by omega) (by decide)) ?_
            refine And.intro (fun w2 => ?_) (fun _ => ?_)
            · have w2 : ¬ J 8 x.toNatClampNeg = 1 := w2
              rw [e8, show (1 : Int32) = nI 1 from rfl, nI_eq (by omega) (by omega)] at w2
              exact absurd w w2
            · refine And.intro (fun y => en _ ?_) (fun y => en _ ?_)
              · have y : (4 : Int32) ≤ c := y
                rw [hc, show (4 : Int32) = nI 4 from rfl, nI_leI (by omega) (by omega)] at y
                rw [if_neg (by omega)]
              · have y : ¬ (4 : Int32) ≤ c := y
                rw [hc, show (4 : Int32) = nI 4 from rfl, nI_leI (by omega) (by omega)] at y
                rw [if_pos (by omega)]
          exact go106 _ (rf_at hF ei (by omega))
      refine And.intro (fun w => go67 _ _ er ?_) (fun w => go67 _ _ er ?_)
      · have w : ¬ J 8 x.toNatClampNeg = 1 := w
        rw [e8, show (1 : Int32) = nI 1 from rfl, nI_eq (by omega) (by omega)] at w
        show p + j / 8 * 10 = _
        rw [ed, show (10 : Int32) = nI 10 from rfl, nI_mul, hp, nI_add, show sSt f n b i = 10 by unfold sSt; rw [if_neg z, if_neg w]]
      · have w : ¬ ¬ J 8 x.toNatClampNeg = 1 := w
        have w := Classical.not_not.mp w
        rw [e8, show (1 : Int32) = nI 1 from rfl, nI_eq (by omega) (by omega)] at w
        show p + j / 8 * 6 = _
        rw [ed, show (6 : Int32) = nI 6 from rfl, nI_mul, hp, nI_add, show sSt f n b i = 6 by unfold sSt; rw [if_neg z, if_pos w]]
    · have z : ¬ ¬ J 8 x.toNatClampNeg = 0 := z
      have z := Classical.not_not.mp z
      rw [e8, show (0 : Int32) = nI 0 from rfl, nI_eq (by omega) (by omega)] at z
      have hoc : 2 * jj + 2 ≤ sOc f n b i := by
        unfold sOc sSt sBk
        rw [if_pos z, if_pos z, Nat.mul_comm (sRo f n b i)]
        omega
      refine rf_half hF hG.1 (p := B + sOf f n b i + 2 * jj) (by omega) (show p + 2 * j = _ by rw [hp, hjj, show (2 : Int32) = nI 2 from rfl, nI_mul, nI_add]) ?_
      refine And.intro (rf_nn _) ⟨trivial, ?_⟩
      unfold rfWg at hQ
      rw [if_pos z] at hQ
      exact hQ
  exact go _ ep
end RFV
