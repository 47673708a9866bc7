/-! TENSORS that are needed -/
def sNws : List (List Nat) := [[101, 109, 98, 101, 100], [110, 111, 114, 109], [111, 117, 116], [97, 48], [113, 48], [107, 48], [118, 48], [111, 48], [102, 48], [103, 48], [117, 48], [100, 48], [97, 49], [113, 49], [107, 49], [118, 49], [111, 49], [102, 49], [103, 49], [117, 49], [100, 49]]
def sRq (dd kv ff tk : Nat) : List (Nat × Nat) := [(dd, tk), (dd, 1), (dd, tk), (dd, 1), (dd, dd), (dd, kv), (dd, kv), (dd, dd), (dd, 1), (dd, ff), (dd, ff), (ff, dd), (dd, 1), (dd, dd), (dd, kv), (dd, kv), (dd, dd), (dd, 1), (dd, ff), (dd, ff), (ff, dd)]
def sOq (f : Nat → Nat) (n b t q : Nat) : Option Nat := sNf f n b (sWd (sNws.getD q [])) (sNws.getD q []).length t 0 none
def sGq (f : Nat → Nat) (n b t dd kv ff tk q : Nat) : Prop := sNd f n b t (sWd (sNws.getD q [])) (sNws.getD q []).length ((sRq dd kv ff tk).getD q (0, 0)).1 ((sRq dd kv ff tk).getD q (0, 0)).2
/-- q of them have been looked for -/
def rfH (f : Nat → Nat) (n b t dd kv ff tk q : Nat) (J : Nat → Nat → Int32) : Prop := (∀ p, p < q → J 15 p = rfO (sOq f n b t p)) ∧ ((J 0 3 = 0 ∧ ∀ p, p < q → sGq f n b t dd kv ff tk p) ∨ (J 0 3 = 10 ∧ ∃ p, p < q ∧ ¬ sGq f n b t dd kv ff tk p))
/-- nothing changes but needed, fault, place -/
def rfN (I I' : Nat → Nat → Int32) : Prop := ∀ b k, (b = 0 → k ≠ 3 ∧ k ≠ 4) → b ≠ 15 → I' b k = I b k
theorem rfN.rf {I : Nat → Nat → Int32} : rfN I I := fun _ _ _ _ => rfl
theorem rfN.toD {I J : Nat → Nat → Int32} (h : rfN I J) : rfD I J := fun b k h1 h2 => h b k (fun e => by have := h1 e; omega) (fun e => by have := h2 (by omega); omega)
theorem rfN.st15 {I J : Nat → Nat → Int32} (h : rfN I J) {k : Nat} {x : Int32} : rfN I (x2 J 15 k x) := fun b2 k2 h1 h2 => (x2_o _ _ (fun e => h2 e.1)).trans (h b2 k2 h1 h2)
theorem rfN.bad {I J : Nat → Nat → Int32} (h : rfN I J) {c w : Int32} : rfN I (x2 (x2 J 0 3 c) 0 4 w) := by
  intro b k h1 h2
  rw [x2_o _ _ (fun e => by have := h1 e.1; omega), x2_o _ _ (fun e => by have := h1 e.1; omega)]
  exact h b k h1 h2
section RFR
variable {f : Nat → Nat} {n b t dd kv ff tk : Nat} {I J : Nat → Nat → Int32} {L : Nat → Nat → Int64} {F : Nat → Nat → UInt32} {d : Nat} {Q : xP}
theorem rf_nq (hG : rfG f n) (hF : rfF f n I) (hU : rfU f n b t I) (D : rfN I J) {qq m cc rr : Nat} (H : rfH f n b t dd kv ff tk qq J) (hq : qq < 21) (hm : m = (sNws.getD qq []).length) (hm2 : m < 256) {name : Int64} (hw : rfW name (sWd (sNws.getD qq [])) m) {q mm c r : Int32} (hqq : q = nI qq) (hmm : mm = nI m) (hc : c = nI cc) (hc2 : cc < 2 ^ 31) (hr : r = nI rr) (hr2 : rr < 2 ^ 31) (hrq : (sRq dd kv ff tk).getD qq (0, 0) = (cc, rr))
    (hgo : ∀ J', rfN I J' → rfH f n b t dd kv ff tk (qq + 1) J' → Q none (sh2, J', L, F)) : XM xE0 (d + 1) 48 [.ref 0, .int q, .long name, .int mm, .int c, .int r] (sh2, J, L, F) Q := by
  have e1 : sGq f n b t dd kv ff tk qq = sNd f n b t (sWd (sNws.getD qq [])) m cc rr := by
    unfold sGq; rw [hrq, ← hm]
  have e2 : sOq f n b t qq = sNf f n b (sWd (sNws.getD qq [])) m t 0 none := by
    unfold sOq; rw [← hm]
  have D1 : rfN I (x2 J 15 qq (rfO (sOq f n b t qq))) := D.st15
  have h15 : ∀ p, p < qq + 1 → x2 J 15 qq (rfO (sOq f n b t qq)) 15 p = rfO (sOq f n b t p) := by
    intro p hp
    rcases Nat.lt_or_ge p qq with y | y
    · rw [x2_o _ _ (by omega)]; exact H.1 p y
    · have : p = qq := by omega
      subst this
      rw [x2_same]
  have h03 : x2 J 15 qq (rfO (sOq f n b t qq)) 0 3 = J 0 3 := x2_o _ _ (by omega)
  rw [e2] at D1 h15 h03
  have hd : J 0 3 = 0 ∨ ¬ J 0 3 ≤ 0 := by
    rcases H.2 with y | y
    · exact Or.inl y.1
    · rw [y.1]; exact Or.inr (by decide)
  refine rf_need hG (hF.agD D.toD) (hU.ag D.toD) hq hm2 hw hqq hmm hc hc2 hr hr2 (fun y => ?_) (fun y z => ?_) (fun y z => ?_) hd
  · refine hgo _ D1 ⟨h15, ?_⟩
    rw [h03]
    rcases H.2 with z | z
    · refine Or.inl ⟨z.1, fun p hp => ?_⟩
      rcases Nat.lt_or_ge p qq with w | w
      · exact z.2 p w
      · have : p = qq := by omega
        subst this
        rw [e1]; exact y
    · obtain ⟨p, hp, w⟩ := z.2
      exact Or.inr ⟨z.1, p, by omega, w⟩
  · refine hgo _ D1.bad ⟨fun p hp => ?_, Or.inr ⟨rfl, qq, by omega, by rw [e1]; exact y⟩⟩
    rw [x2_o _ _ (by omega), x2_o _ _ (by omega)]
    exact h15 p hp
  · refine hgo _ D1 ⟨h15, ?_⟩
    rw [h03]
    rcases H.2 with w | w
    · exact absurd (by rw [w.1]; decide) z
    · obtain ⟨p, hp, u⟩ := w.2
      exact Or.inr ⟨w.1, p, by omega, u⟩
theorem rfW_n0 : rfW 431197678949 (sWd (sNws.getD 0 [])) 5 := by
  show ∀ i, i < 5 → _
  decide +kernel
theorem rfW_n1 : rfW 1836216174 (sWd (sNws.getD 1 [])) 4 := by
  show ∀ i, i < 4 → _
  decide +kernel
theorem rfW_n2 : rfW 7632239 (sWd (sNws.getD 2 [])) 3 := by
  show ∀ i, i < 3 → _
  decide +kernel
abbrev rfNm (l : Nat) : Int64 := ((48 : Int64) + (nI l).toInt64) <<< ((8 : Int32).toInt64 &&& 63)
theorem rfW_l0 : ∀ l, l < 2 → rfW (rfNm l ||| 97) (sWd (sNws.getD (3 + 9 * l + 0) [])) 2
  | 0, _ => by
    show ∀ i, i < 2 → _
    decide +kernel
  | 1, _ => by
    show ∀ i, i < 2 → _
    decide +kernel
  | l + 2, h => absurd h (by omega)
theorem rfW_l1 : ∀ l, l < 2 → rfW (rfNm l ||| 113) (sWd (sNws.getD (3 + 9 * l + 1) [])) 2
  | 0, _ => by
    show ∀ i, i < 2 → _
    decide +kernel
  | 1, _ => by
    show ∀ i, i < 2 → _
    decide +kernel
  | l + 2, h => absurd h (by omega)
theorem rfW_l2 : ∀ l, l < 2 → rfW (rfNm l ||| 107) (sWd (sNws.getD (3 + 9 * l + 2) [])) 2
  | 0, _ => by
    show ∀ i, i < 2 → _
    decide +kernel
  | 1, _ => by
    show ∀ i, i < 2 → _
    decide +kernel
  | l + 2, h => absurd h (by omega)
theorem rfW_l3 : ∀ l, l < 2 → rfW (rfNm l ||| 118) (sWd (sNws.getD (3 + 9 * l + 3) [])) 2
  | 0, _ => by
    show ∀ i, i < 2 → _
    decide +kernel
  | 1, _ => by
    show ∀ i, i < 2 → _
    decide +kernel
  | l + 2, h => absurd h (by omega)
theorem rfW_l4 : ∀ l, l < 2 → rfW (rfNm l ||| 111) (sWd (sNws.getD (3 + 9 * l + 4) [])) 2
  | 0, _ => by
    show ∀ i, i < 2 → _
    decide +kernel
  | 1, _ => by
    show ∀ i, i < 2 → _
    decide +kernel
  | l + 2, h => absurd h (by omega)
theorem rfW_l5 : ∀ l, l < 2 → rfW (rfNm l ||| 102) (sWd (sNws.getD (3 + 9 * l + 5) [])) 2
  | 0, _ => by
    show ∀ i, i < 2 → _
    decide +kernel
  | 1, _ => by
    show ∀ i, i < 2 → _
    decide +kernel
  | l + 2, h => absurd h (by omega)
theorem rfW_l6 : ∀ l, l < 2 → rfW (rfNm l ||| 103) (sWd (sNws.getD (3 + 9 * l + 6) [])) 2
  | 0, _ => by
    show ∀ i, i < 2 → _
    decide +kernel
  | 1, _ => by
    show ∀ i, i < 2 → _
    decide +kernel
  | l + 2, h => absurd h (by omega)
theorem rfW_l7 : ∀ l, l < 2 → rfW (rfNm l ||| 117) (sWd (sNws.getD (3 + 9 * l + 7) [])) 2
  | 0, _ => by
    show ∀ i, i < 2 → _
    decide +kernel
  | 1, _ => by
    show ∀ i, i < 2 → _
    decide +kernel
  | l + 2, h => absurd h (by omega)
theorem rfW_l8 : ∀ l, l < 2 → rfW (rfNm l ||| 100) (sWd (sNws.getD (3 + 9 * l + 8) [])) 2
  | 0, _ => by
    show ∀ i, i < 2 → _
    decide +kernel
  | 1, _ => by
    show ∀ i, i < 2 → _
    decide +kernel
  | l + 2, h => absurd h (by omega)
theorem rf_sh_0 (hG : rfG f n) (hF : rfF f n I) (hU : rfU f n b t I) (D : rfN I J) {l : Nat} (hl : l < 2) (H : rfH f n b t dd kv ff tk (3 + 9 * l + 0) J) {d1 d2 d3 x i7 : Int32} (h1 : d1 = nI dd) (h2 : d2 = nI kv) (h3 : d3 = nI ff) (b1 : dd < 2 ^ 31) (b2 : kv < 2 ^ 31) (b3 : ff < 2 ^ 31) (h7 : i7 = nI (3 + 9 * l))
    (hgo : ∀ J', rfN I J' → rfH f n b t dd kv ff tk (3 + 9 * l + 1) J' → XC xE0 (d + 3) xM_49 (126, [some (.ref 0), some (.int d1), some (.int d2), some (.int d3), some (.int x), some (.long (rfNm l)), none, some (.int i7)], [], (sh2, J', L, F)) Q) : XC xE0 (d + 3) xM_49 (111, [some (.ref 0), some (.int d1), some (.int d2), some (.int d3), some (.int x), some (.long (rfNm l)), none, some (.int i7)], [], (sh2, J, L, F)) Q := by
  refine XC.block [126] 60 ?_
  refine rf_nq hG hF hU D (qq := 3 + 9 * l + 0) (m := 2) (cc := dd) (rr := 1) H (by omega) ?_ (by decide) (rfW_l0 l hl) ?_ rfl h1 b1 rfl (by decide) ?_ hgo
  · match l, hl with
    | 0, _ => rfl
    | 1, _ => rfl
    | l + 2, h => exact absurd h (by omega)
  · exact h7
  · match l, hl with
    | 0, _ => rfl
    | 1, _ => rfl
    | l + 2, h => exact absurd h (by omega)
theorem rf_sh_1 (hG : rfG f n) (hF : rfF f n I) (hU : rfU f n b t I) (D : rfN I J) {l : Nat} (hl : l < 2) (H : rfH f n b t dd kv ff tk (3 + 9 * l + 1) J) {d1 d2 d3 x i7 : Int32} (h1 : d1 = nI dd) (h2 : d2 = nI kv) (h3 : d3 = nI ff) (b1 : dd < 2 ^ 31) (b2 : kv < 2 ^ 31) (b3 : ff < 2 ^ 31) (h7 : i7 = nI (3 + 9 * l))
    (hgo : ∀ J', rfN I J' → rfH f n b t dd kv ff tk (3 + 9 * l + 2) J' → XC xE0 (d + 3) xM_49 (143, [some (.ref 0), some (.int d1), some (.int d2), some (.int d3), some (.int x), some (.long (rfNm l)), none, some (.int i7)], [], (sh2, J', L, F)) Q) : XC xE0 (d + 3) xM_49 (126, [some (.ref 0), some (.int d1), some (.int d2), some (.int d3), some (.int x), some (.long (rfNm l)), none, some (.int i7)], [], (sh2, J, L, F)) Q := by
  refine XC.block [143] 60 ?_
  refine rf_nq hG hF hU D (qq := 3 + 9 * l + 1) (m := 2) (cc := dd) (rr := dd) H (by omega) ?_ (by decide) (rfW_l1 l hl) ?_ rfl h1 b1 h1 b1 ?_ hgo
  · match l, hl with
    | 0, _ => rfl
    | 1, _ => rfl
    | l + 2, h => exact absurd h (by omega)
  · show i7 + 1 = _
    rw [h7, show (1 : Int32) = nI 1 from rfl, nI_add]
  · match l, hl with
    | 0, _ => rfl
    | 1, _ => rfl
    | l + 2, h => exact absurd h (by omega)
theorem rf_sh_2 (hG : rfG f n) (hF : rfF f n I) (hU : rfU f n b t I) (D : rfN I J) {l : Nat} (hl : l < 2) (H : rfH f n b t dd kv ff tk (3 + 9 * l + 2) J) {d1 d2 d3 x i7 : Int32} (h1 : d1 = nI dd) (h2 : d2 = nI kv) (h3 : d3 = nI ff) (b1 : dd < 2 ^ 31) (b2 : kv < 2 ^ 31) (b3 : ff < 2 ^ 31) (h7 : i7 = nI (3 + 9 * l))
    (hgo : ∀ J', rfN I J' → rfH f n b t dd kv ff tk (3 + 9 * l + 3) J' → XC xE0 (d + 3) xM_49 (160, [some (.ref 0), some (.int d1), some (.int d2), some (.int d3), some (.int x), some (.long (rfNm l)), none, some (.int i7)], [], (sh2, J', L, F)) Q) : XC xE0 (d + 3) xM_49 (143, [some (.ref 0), some (.int d1), some (.int d2), some (.int d3), some (.int x), some (.long (rfNm l)), none, some (.int i7)], [], (sh2, J, L, F)) Q := by
  refine XC.block [160] 60 ?_
  refine rf_nq hG hF hU D (qq := 3 + 9 * l + 2) (m := 2) (cc := dd) (rr := kv) H (by omega) ?_ (by decide) (rfW_l2 l hl) ?_ rfl h1 b1 h2 b2 ?_ hgo
  · match l, hl with
    | 0, _ => rfl
    | 1, _ => rfl
    | l + 2, h => exact absurd h (by omega)
  · show i7 + 2 = _
    rw [h7, show (2 : Int32) = nI 2 from rfl, nI_add]
  · match l, hl with
    | 0, _ => rfl
    | 1, _ => rfl
    | l + 2, h => exact absurd h (by omega)
theorem rf_sh_3 (hG : rfG f n) (hF : rfF f n I) (hU : rfU f n b t I) (D : rfN I J) {l : Nat} (hl : l < 2) (H : rfH f n b t dd kv ff tk (3 + 9 * l + 3) J) {d1 d2 d3 x i7 : Int32} (h1 : d1 = nI dd) (h2 : d2 = nI kv) (h3 : d3 = nI ff) (b1 : dd < 2 ^ 31) (b2 : kv < 2 ^ 31) (b3 : ff < 2 ^ 31) (h7 : i7 = nI (3 + 9 * l))
    (hgo : ∀ J', rfN I J' → rfH f n b t dd kv ff tk (3 + 9 * l + 4) J' → XC xE0 (d + 3) xM_49 (177, [some (.ref 0), some (.int d1), some (.int d2), some (.int d3), some (.int x), some (.long (rfNm l)), none, some (.int i7)], [], (sh2, J', L, F)) Q) : XC xE0 (d + 3) xM_49 (160, [some (.ref 0), some (.int d1), some (.int d2), some (.int d3), some (.int x), some (.long (rfNm l)), none, some (.int i7)], [], (sh2, J, L, F)) Q := by
  refine XC.block [177] 60 ?_
  refine rf_nq hG hF hU D (qq := 3 + 9 * l + 3) (m := 2) (cc := dd) (rr := kv) H (by omega) ?_ (by decide) (rfW_l3 l hl) ?_ rfl h1 b1 h2 b2 ?_ hgo
  · match l, hl with
    | 0, _ => rfl
    | 1, _ => rfl
    | l + 2, h => exact absurd h (by omega)
  · show i7 + 3 = _
    rw [h7, show (3 : Int32) = nI 3 from rfl, nI_add]
  · match l, hl with
    | 0, _ => rfl
    | 1, _ => rfl
    | l + 2, h => exact absurd h (by omega)
theorem rf_sh_4 (hG : rfG f n) (hF : rfF f n I) (hU : rfU f n b t I) (D : rfN I J) {l : Nat} (hl : l < 2) (H : rfH f n b t dd kv ff tk (3 + 9 * l + 4) J) {d1 d2 d3 x i7 : Int32} (h1 : d1 = nI dd) (h2 : d2 = nI kv) (h3 : d3 = nI ff) (b1 : dd < 2 ^ 31) (b2 : kv < 2 ^ 31) (b3 : ff < 2 ^ 31) (h7 : i7 = nI (3 + 9 * l))
    (hgo : ∀ J', rfN I J' → rfH f n b t dd kv ff tk (3 + 9 * l + 5) J' → XC xE0 (d + 3) xM_49 (194, [some (.ref 0), some (.int d1), some (.int d2), some (.int d3), some (.int x), some (.long (rfNm l)), none, some (.int i7)], [], (sh2, J', L, F)) Q) : XC xE0 (d + 3) xM_49 (177, [some (.ref 0), some (.int d1), some (.int d2), some (.int d3), some (.int x), some (.long (rfNm l)), none, some (.int i7)], [], (sh2, J, L, F)) Q := by
  refine XC.block [194] 60 ?_
  refine rf_nq hG hF hU D (qq := 3 + 9 * l + 4) (m := 2) (cc := dd) (rr := dd) H (by omega) ?_ (by decide) (rfW_l4 l hl) ?_ rfl h1 b1 h1 b1 ?_ hgo
  · match l, hl with
    | 0, _ => rfl
    | 1, _ => rfl
    | l + 2, h => exact absurd h (by omega)
  · show i7 + 4 = _
    rw [h7, show (4 : Int32) = nI 4 from rfl, nI_add]
  · match l, hl with
    | 0, _ => rfl
    | 1, _ => rfl
    | l + 2, h => exact absurd h (by omega)
theorem rf_sh_5 (hG : rfG f n) (hF : rfF f n I) (hU : rfU f n b t I) (D : rfN I J) {l : Nat} (hl : l < 2) (H : rfH f n b t dd kv ff tk (3 + 9 * l + 5) J) {d1 d2 d3 x i7 : Int32} (h1 : d1 = nI dd) (h2 : d2 = nI kv) (h3 : d3 = nI ff) (b1 : dd < 2 ^ 31) (b2 : kv < 2 ^ 31) (b3 : ff < 2 ^ 31) (h7 : i7 = nI (3 + 9 * l))
    (hgo : ∀ J', rfN I J' → rfH f n b t dd kv ff tk (3 + 9 * l + 6) J' → XC xE0 (d + 3) xM_49 (211, [some (.ref 0), some (.int d1), some (.int d2), some (.int d3), some (.int x), some (.long (rfNm l)), none, some (.int i7)], [], (sh2, J', L, F)) Q) : XC xE0 (d + 3) xM_49 (194, [some (.ref 0), some (.int d1), some (.int d2), some (.int d3), some (.int x), some (.long (rfNm l)), none, some (.int i7)], [], (sh2, J, L, F)) Q := by
  refine XC.block [211] 60 ?_
  refine rf_nq hG hF hU D (qq := 3 + 9 * l + 5) (m := 2) (cc := dd) (rr := 1) H (by omega) ?_ (by decide) (rfW_l5 l hl) ?_ rfl h1 b1 rfl (by decide) ?_ hgo
  · match l, hl with
    | 0, _ => rfl
    | 1, _ => rfl
    | l + 2, h => exact absurd h (by omega)
  · show i7 + 5 = _
    rw [h7, show (5 : Int32) = nI 5 from rfl, nI_add]
  · match l, hl with
    | 0, _ => rfl
    | 1, _ => rfl
    | l + 2, h => exact absurd h (by omega)
theorem rf_sh_6 (hG : rfG f n) (hF : rfF f n I) (hU : rfU f n b t I) (D : rfN I J) {l : Nat} (hl : l < 2) (H : rfH f n b t dd kv ff tk (3 + 9 * l + 6) J) {d1 d2 d3 x i7 : Int32} (h1 : d1 = nI dd) (h2 : d2 = nI kv) (h3 : d3 = nI ff) (b1 : dd < 2 ^ 31) (b2 : kv < 2 ^ 31) (b3 : ff < 2 ^ 31) (h7 : i7 = nI (3 + 9 * l))
    (hgo : ∀ J', rfN I J' → rfH f n b t dd kv ff tk (3 + 9 * l + 7) J' → XC xE0 (d + 3) xM_49 (229, [some (.ref 0), some (.int d1), some (.int d2), some (.int d3), some (.int x), some (.long (rfNm l)), none, some (.int i7)], [], (sh2, J', L, F)) Q) : XC xE0 (d + 3) xM_49 (211, [some (.ref 0), some (.int d1), some (.int d2), some (.int d3), some (.int x), some (.long (rfNm l)), none, some (.int i7)], [], (sh2, J, L, F)) Q := by
  refine XC.block [229] 60 ?_
  refine rf_nq hG hF hU D (qq := 3 + 9 * l + 6) (m := 2) (cc := dd) (rr := ff) H (by omega) ?_ (by decide) (rfW_l6 l hl) ?_ rfl h1 b1 h3 b3 ?_ hgo
  · match l, hl with
    | 0, _ => rfl
    | 1, _ => rfl
    | l + 2, h => exact absurd h (by omega)
  · show i7 + 6 = _
    rw [h7, show (6 : Int32) = nI 6 from rfl, nI_add]
  · match l, hl with
    | 0, _ => rfl
    | 1, _ => rfl
    | l + 2, h => exact absurd h (by omega)
theorem rf_sh_7 (hG : rfG f n) (hF : rfF f n I) (hU : rfU f n b t I) (D : rfN I J) {l : Nat} (hl : l < 2) (H : rfH f n b t dd kv ff tk (3 + 9 * l + 7) J) {d1 d2 d3 x i7 : Int32} (h1 : d1 = nI dd) (h2 : d2 = nI kv) (h3 : d3 = nI ff) (b1 : dd < 2 ^ 31) (b2 : kv < 2 ^ 31) (b3 : ff < 2 ^ 31) (h7 : i7 = nI (3 + 9 * l))
    (hgo : ∀ J', rfN I J' → rfH f n b t dd kv ff tk (3 + 9 * l + 8) J' → XC xE0 (d + 3) xM_49 (247, [some (.ref 0), some (.int d1), some (.int d2), some (.int d3), some (.int x), some (.long (rfNm l)), none, some (.int i7)], [], (sh2, J', L, F)) Q) : XC xE0 (d + 3) xM_49 (229, [some (.ref 0), some (.int d1), some (.int d2), some (.int d3), some (.int x), some (.long (rfNm l)), none, some (.int i7)], [], (sh2, J, L, F)) Q := by
  refine XC.block [247] 60 ?_
  refine rf_nq hG hF hU D (qq := 3 + 9 * l + 7) (m := 2) (cc := dd) (rr := ff) H (by omega) ?_ (by decide) (rfW_l7 l hl) ?_ rfl h1 b1 h3 b3 ?_ hgo
  · match l, hl with
    | 0, _ => rfl
    | 1, _ => rfl
    | l + 2, h => exact absurd h (by omega)
  · show i7 + 7 = _
    rw [h7, show (7 : Int32) = nI 7 from rfl, nI_add]
  · match l, hl with
    | 0, _ => rfl
    | 1, _ => rfl
    | l + 2, h => exact absurd h (by omega)
theorem rf_sh_8 (hG : rfG f n) (hF : rfF f n I) (hU : rfU f n b t I) (D : rfN I J) {l : Nat} (hl : l < 2) (H : rfH f n b t dd kv ff tk (3 + 9 * l + 8) J) {d1 d2 d3 x i7 : Int32} (h1 : d1 = nI dd) (h2 : d2 = nI kv) (h3 : d3 = nI ff) (b1 : dd < 2 ^ 31) (b2 : kv < 2 ^ 31) (b3 : ff < 2 ^ 31) (h7 : i7 = nI (3 + 9 * l))
    (hgo : ∀ J', rfN I J' → rfH f n b t dd kv ff tk (3 + 9 * l + 9) J' → XC xE0 (d + 3) xM_49 (265, [some (.ref 0), some (.int d1), some (.int d2), some (.int d3), some (.int x), some (.long (rfNm l)), none, some (.int i7)], [], (sh2, J', L, F)) Q) : XC xE0 (d + 3) xM_49 (247, [some (.ref 0), some (.int d1), some (.int d2), some (.int d3), some (.int x), some (.long (rfNm l)), none, some (.int i7)], [], (sh2, J, L, F)) Q := by
  refine XC.block [265] 60 ?_
  refine rf_nq hG hF hU D (qq := 3 + 9 * l + 8) (m := 2) (cc := ff) (rr := dd) H (by omega) ?_ (by decide) (rfW_l8 l hl) ?_ rfl h3 b3 h1 b1 ?_ hgo
  · match l, hl with
    | 0, _ => rfl
    | 1, _ => rfl
    | l + 2, h => exact absurd h (by omega)
  · show i7 + 8 = _
    rw [h7, show (8 : Int32) = nI 8 from rfl, nI_add]
  · match l, hl with
    | 0, _ => rfl
    | 1, _ => rfl
    | l + 2, h => exact absurd h (by omega)
/-- a layer -/
theorem rf_shB (hG : rfG f n) (hF : rfF f n I) (hU : rfU f n b t I) (D : rfN I J) {l : Nat} (hl : l < 2) (H : rfH f n b t dd kv ff tk (3 + 9 * l) J) {d1 d2 d3 x i7 : Int32} (h1 : d1 = nI dd) (h2 : d2 = nI kv) (h3 : d3 = nI ff) (b1 : dd < 2 ^ 31) (b2 : kv < 2 ^ 31) (b3 : ff < 2 ^ 31) (h7 : i7 = nI (3 + 9 * l))
    (hgo : ∀ J', rfN I J' → rfH f n b t dd kv ff tk (3 + 9 * (l + 1)) J' → XC xE0 (d + 3) xM_49 (265, [some (.ref 0), some (.int d1), some (.int d2), some (.int d3), some (.int x), some (.long (rfNm l)), none, some (.int i7)], [], (sh2, J', L, F)) Q) : XC xE0 (d + 3) xM_49 (111, [some (.ref 0), some (.int d1), some (.int d2), some (.int d3), some (.int x), some (.long (rfNm l)), none, some (.int i7)], [], (sh2, J, L, F)) Q := by
  refine rf_sh_0 hG hF hU D hl H h1 h2 h3 b1 b2 b3 h7 (fun J1 D1 H1 => ?_)
  refine rf_sh_1 hG hF hU D1 hl H1 h1 h2 h3 b1 b2 b3 h7 (fun J2 D2 H2 => ?_)
  refine rf_sh_2 hG hF hU D2 hl H2 h1 h2 h3 b1 b2 b3 h7 (fun J3 D3 H3 => ?_)
  refine rf_sh_3 hG hF hU D3 hl H3 h1 h2 h3 b1 b2 b3 h7 (fun J4 D4 H4 => ?_)
  refine rf_sh_4 hG hF hU D4 hl H4 h1 h2 h3 b1 b2 b3 h7 (fun J5 D5 H5 => ?_)
  refine rf_sh_5 hG hF hU D5 hl H5 h1 h2 h3 b1 b2 b3 h7 (fun J6 D6 H6 => ?_)
  refine rf_sh_6 hG hF hU D6 hl H6 h1 h2 h3 b1 b2 b3 h7 (fun J7 D7 H7 => ?_)
  refine rf_sh_7 hG hF hU D7 hl H7 h1 h2 h3 b1 b2 b3 h7 (fun J8 D8 H8 => ?_)
  refine rf_sh_8 hG hF hU D8 hl H8 h1 h2 h3 b1 b2 b3 h7 (fun J9 D9 H9 => ?_)
  exact hgo J9 D9 (by rw [show 3 + 9 * (l + 1) = 3 + 9 * l + 9 by omega]; exact H9)
end RFR
