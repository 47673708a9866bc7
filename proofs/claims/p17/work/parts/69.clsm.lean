/-! the class on paper: takeMerges, takeReals, takeWords -/
def clRl (a b : Int32) : Prop := clIr a ∧ clIr b ∧ ¬ Op.cmpValue (FP.fcmp (clRe a) 981467136) .l < 0 ∧ ¬ 0 < Op.cmpValue (FP.fcmp (clRe a) FP.fconst1) .g ∧ ¬ Op.cmpValue (FP.fcmp (clRe b) FP.fconst1) .l < 0 ∧ ¬ 0 < Op.cmpValue (FP.fcmp (clRe b) 1098907648) .g
section CLN_a
variable {X : List (Option Nat)} {T : List xS} {f : Nat → Nat} {n k : Nat} {I J : Nat → Nat → Int32} {L : Nat → Nat → Int64} {F : Nat → Nat → UInt32} {d : Nat} {Q : xP}
def clWm_a (I I' : Nat → Nat → Int32) : Prop := ∀ b k, ¬ (b = 40 ∧ k = 5) → ¬ (b = 39 ∧ k = 7) → b ≠ 42 → b ≠ 43 → b ≠ 44 → I' b k = I b k
theorem cl_takeMerges_a (hF : clF f n I) (hG : rfG f n) {K : Nat → Nat} {m p e : Nat} (h7 : I 15 7 = nI p) (hA : sA1 f n p = .inr e) (hT : f (p + 1) = 0 ∨ (f p = 3 ∧ sTf f (f (p + 1)) (p + 2) = true)) (hm : m ≤ 16) (h4 : I 40 4 = nI m) (hL : ∀ i, i < m → L 41 i = lN (sTw f (K i)) ∧ 1 ≤ f (K i) ∧ f (K i) ≤ 4)
    (hok : sMg f K m p → ∀ J', clWm_a I J' → J' 39 7 = nI (f (p + 1)) → J' 40 5 = nI (f (p + 1)) → (∀ i, i < f (p + 1) → clMg_a f K m (p + 2 + 10 * i) J' i) → Q (some (.int 1)) (shG X (md1 T), J', L, F))
    (hbad : ¬ sMg f K m p → ∀ J', clWm_a I J' → Q (some (.int 0)) (shG X (md1 T), J', L, F)) : XM xE0 (d + 4) 100 [.ref 14, .ref 38] (shG X (md1 T), I, L, F) Q := by
  obtain ⟨u1, u2, u3, u4⟩ := sArr_un hA
  have hn := hG.2
  have b1 := hG.1 (p + 1)
  refine XC.block [25] 60 ?_
  refine And.intro (rf_in (j := 7) rfl (by decide) (by decide)) ?_
  refine cl_at hF hG (p := p + 1) (by omega) (show I 15 7 + 1 = nI (p + 1) by rw [h7, nI_1]) (fun _ v hv => ?_) (fun z => absurd z (by omega))
  refine And.intro (fun z => ?_) (fun z => ⟨(show (0 : Int32) &&& 1 = 0 by decide), hbad (fun w => ?_) I (fun _ _ _ _ _ _ _ => rfl)⟩)
  · have z : v ≤ 12 := z
    rw [hv, show (12 : Int32) = nI 12 from rfl, nI_leI (by omega) (by omega)] at z
    refine XC.block [54] 60 ?_
    refine And.intro (rf_in (j := 7) rfl (by decide) (by decide)) ?_
    refine And.intro (rf_in (j := 7) rfl (by decide) (by decide)) ?_
    have go : ∀ hh, hh = nI (p + 2) → XC xE0 (d + 4) xM_100 (54, [some (.ref 14), some (.ref 38), some (.int v), some (.int hh), some (.int 0)], [], (shG X (md1 T), x2 (x2 I 39 7 v) 40 5 0, L, F)) Q := by
      intro hh hhh
      have F2 : clF f n (x2 (x2 I 39 7 v) 40 5 0) := (hF.st (by decide) (by decide)).st (by decide) (by decide)
      have D : ∀ J' : Nat → Nat → Int32, (∀ b k, ¬ (b = 40 ∧ k = 5) → b ≠ 42 → b ≠ 43 → b ≠ 44 → J' b k = x2 (x2 I 39 7 v) 40 5 0 b k) → clWm_a I J' := fun J' h b k k1 k2 k3 k4 k5 => by
        rw [h b k k1 k3 k4 k5, x2_o _ _ k1, x2_o _ _ k2]
      refine cl_tm54_a (I := x2 (x2 I 39 7 v) 40 5 0) hG (K := K) (m := m) (g := f (p + 1)) (p := p) (e := e) hm z F2 hL hv (fun hall J' DJ g5 gM => ?_) (fun hex J' DJ => ?_) h4 (f (p + 1)) 0 (by omega) _ (fun _ _ _ _ _ _ => rfl) rfl (fun j hj => absurd hj (by omega)) (fun j hj => absurd hj (by omega)) (fun hu => ?_) _ _ (by rw [hhh]) rfl
      · refine hok ?_ J' (D J' DJ) ?_ g5 gM
        · rcases hT with y | y
          · exact Or.inl y
          · exact Or.inr ⟨y.1, z, hall⟩
        · rw [DJ 39 7 (by omega) (by decide) (by decide) (by decide), x2_o _ _ (by omega), x2_same]; exact hv
      · refine hbad (fun w => ?_) J' (D J' DJ)
        obtain ⟨i, hi, y⟩ := hex
        rcases w with w | w
        · omega
        · exact y (w.2.2 i hi)
      · have hT := hT.resolve_left (by omega)
        have u4 : sRep (fun x => if f p < 3 then sPln f n (f p) x else sA2 f n x) (f (p + 1)) (p + 2) = .inr e := u4
        rw [show (fun x => if f p < 3 then sPln f n (f p) x else sA2 f n x) = sA2 f n from funext (fun x => if_neg (by omega))] at u4
        exact ⟨u4, hT.2⟩
    exact go _ (show I 15 7 + 2 = nI (p + 2) by rw [h7, show (2 : Int32) = nI 2 from rfl, nI_add])
  · have z : ¬ v ≤ 12 := z
    rw [hv, show (12 : Int32) = nI 12 from rfl, nI_leI (by omega) (by omega)] at z
    rcases w with w | w
    · omega
    · have := w.2.1
      omega
theorem cl_tr66_a {x y : Int32} (h1 : clIr x → clIr y → F 38 3 = clRe x → F 38 4 = clRe y → clRl x y → Q (some (.int 1)) (shG X (md1 T), I, L, F)) (h0 : F 38 3 = clRe x → F 38 4 = clRe y → ¬ clRl x y → Q (some (.int 0)) (shG X (md1 T), I, L, F)) (e3 : F 38 3 = clRe x) (e4 : F 38 4 = clRe y) (i1 : clIr x) (i2 : clIr y) : XC xE0 d xM_97 (66, [some (.ref 14), some (.ref 38), some (.int x), some (.int y)], [], (shG X (md1 T), I, L, F)) Q := by
  have bad : ¬ clRl x y → XC xE0 d xM_97 (108, [some (.ref 14), some (.ref 38), some (.int x), some (.int y)], [], (shG X (md1 T), I, L, F)) Q := fun z => by
    refine XC.block [] 60 ?_
    exact ⟨(show (0 : Int32) &&& 1 = 0 by decide), h0 e3 e4 z⟩
  refine XC.block [108] 60 ?_
  refine And.intro (fun z => bad (fun w => w.2.2.1 ?_)) (fun z1 => ?_)
  · have z : Op.cmpValue (FP.fcmp (F 38 3) 981467136) .l < 0 := z
    rw [e3] at z
    exact z
  · have z1 : ¬ Op.cmpValue (FP.fcmp (F 38 3) 981467136) .l < 0 := z1
    rw [e3] at z1
    refine And.intro (fun z => bad (fun w => w.2.2.2.1 ?_)) (fun z2 => ?_)
    · have z : 0 < Op.cmpValue (FP.fcmp (F 38 3) FP.fconst1) .g := z
      rw [e3] at z
      exact z
    · have z2 : ¬ 0 < Op.cmpValue (FP.fcmp (F 38 3) FP.fconst1) .g := z2
      rw [e3] at z2
      refine And.intro (fun z => bad (fun w => w.2.2.2.2.1 ?_)) (fun z3 => ?_)
      · have z : Op.cmpValue (FP.fcmp (F 38 4) FP.fconst1) .l < 0 := z
        rw [e4] at z
        exact z
      · have z3 : ¬ Op.cmpValue (FP.fcmp (F 38 4) FP.fconst1) .l < 0 := z3
        rw [e4] at z3
        refine And.intro (fun z => bad (fun w => w.2.2.2.2.2 ?_)) (fun z4 => ⟨(show (1 : Int32) &&& 1 = 1 by decide), h1 i1 i2 e3 e4 ⟨i1, i2, z1, z2, z3, ?_⟩⟩)
        · have z : 0 < Op.cmpValue (FP.fcmp (F 38 4) 1098907648) .g := z
          rw [e4] at z
          exact z
        · have z4 : ¬ 0 < Op.cmpValue (FP.fcmp (F 38 4) 1098907648) .g := z4
          rw [e4] at z4
          exact z4
/-- eps and base -/
theorem cl_takeReals_a (hF : clF f n I) (hG : rfG f n) {p q : Nat} (h12 : I 15 12 = nI p) (hp : p + 2 ≤ n) (h13 : I 15 13 = nI q) (hq : q + 2 ≤ n)
    (hok : clRl (nI (sNum f p 2)) (nI (sNum f q 2)) → ∀ F', (∀ b k, ¬ (b = 38 ∧ (k = 3 ∨ k = 4)) → F' b k = F b k) → F' 38 3 = clRe (nI (sNum f p 2)) → F' 38 4 = clRe (nI (sNum f q 2)) → Q (some (.int 1)) (shG X (md1 T), I, L, F'))
    (hbad : ¬ clRl (nI (sNum f p 2)) (nI (sNum f q 2)) → ∀ F', (∀ b k, ¬ (b = 38 ∧ (k = 3 ∨ k = 4)) → F' b k = F b k) → Q (some (.int 0)) (shG X (md1 T), I, L, F')) : XM xE0 (d + 2) 97 [.ref 14, .ref 38] (shG X (md1 T), I, L, F) Q := by
  refine XC.block [17] 60 ?_
  refine And.intro (rf_in (j := 12) rfl (by decide) (by decide)) ?_
  refine cl_number hF hG (p := p) (k := 2) (by decide) hp h12 rfl (fun v hv => ?_)
  have go : ∀ x, x = nI (sNum f p 2) → XC xE0 (d + 2) xM_97 (17, [some (.ref 14), some (.ref 38), some (.int x), none], [], (shG X (md1 T), I, L, F)) Q := by
    intro x hx
    refine XC.block [34] 60 ?_
    refine And.intro (rf_in (j := 13) rfl (by decide) (by decide)) ?_
    refine cl_number hF hG (p := q) (k := 2) (by decide) hq h13 rfl (fun v2 hv2 => ?_)
    have go2 : ∀ y, y = nI (sNum f q 2) → XC xE0 (d + 2) xM_97 (34, [some (.ref 14), some (.ref 38), some (.int x), some (.int y)], [], (shG X (md1 T), I, L, F)) Q := by
      intro y hy
      rw [← hx, ← hy] at hok hbad
      refine XC.block [50] 60 ?_
      refine cl_isReal (fun i1 => ?_) (fun i1 => ?_)
      · refine And.intro (fun z => absurd (show (1 : Int32) = 0 from z) (by decide)) (fun _ => ?_)
        refine cl_isReal (fun i2 => ?_) (fun i2 => ?_)
        · refine And.intro (fun _ => ?_) (fun z => absurd (show ¬ (1 : Int32) = 0 by decide) z)
          refine XC.block [58] 60 ?_
          refine cl_realOf ?_
          refine XC.block [66] 60 ?_
          refine cl_realOf ?_
          have D : ∀ b k, ¬ (b = 38 ∧ (k = 3 ∨ k = 4)) → x2 (x2 F 38 3 (clRe x)) 38 4 (clRe y) b k = F b k := fun b k h => by
            rw [x2_o _ _ (fun e => h ⟨e.1, Or.inr e.2⟩), x2_o _ _ (fun e => h ⟨e.1, Or.inl e.2⟩)]
          exact cl_tr66_a (F := x2 (x2 F 38 3 (clRe x)) 38 4 (clRe y)) (fun _ _ a b c => hok c _ D a b) (fun a b c => hbad c _ D) rfl rfl i1 i2
        · exact And.intro (fun z => absurd (show (0 : Int32) = 0 from rfl) z) (fun _ => ⟨(show (0 : Int32) &&& 1 = 0 by decide), hbad (fun w => i2 w.2.1) F (fun _ _ _ => rfl)⟩)
      · exact And.intro (fun _ => ⟨(show (0 : Int32) &&& 1 = 0 by decide), hbad (fun w => i1 w.1) F (fun _ _ _ => rfl)⟩) (fun z => absurd (show (0 : Int32) = 0 from rfl) z)
    exact go2 _ (show v2.toInt32 = _ by rw [hv2, lN_i])
  exact go _ (show v.toInt32 = _ by rw [hv, lN_i])
end CLN_a
section CLN_b
variable {X : List (Option Nat)} {T : List xS} {f : Nat → Nat} {n k : Nat} {I J : Nat → Nat → Int32} {L : Nat → Nat → Int64} {F : Nat → Nat → UInt32} {d : Nat} {Q : xP}
def clWm_b (I I' : Nat → Nat → Int32) : Prop := ∀ b k, ¬ (b = 53 ∧ k = 5) → ¬ (b = 52 ∧ k = 7) → b ≠ 55 → b ≠ 56 → b ≠ 57 → I' b k = I b k
theorem cl_takeMerges_b (hF : clF f n I) (hG : rfG f n) {K : Nat → Nat} {m p e : Nat} (h7 : I 15 7 = nI p) (hA : sA1 f n p = .inr e) (hT : f (p + 1) = 0 ∨ (f p = 3 ∧ sTf f (f (p + 1)) (p + 2) = true)) (hm : m ≤ 16) (h4 : I 53 4 = nI m) (hL : ∀ i, i < m → L 54 i = lN (sTw f (K i)) ∧ 1 ≤ f (K i) ∧ f (K i) ≤ 4)
    (hok : sMg f K m p → ∀ J', clWm_b I J' → J' 52 7 = nI (f (p + 1)) → J' 53 5 = nI (f (p + 1)) → (∀ i, i < f (p + 1) → clMg_b f K m (p + 2 + 10 * i) J' i) → Q (some (.int 1)) (shG X (md2 T), J', L, F))
    (hbad : ¬ sMg f K m p → ∀ J', clWm_b I J' → Q (some (.int 0)) (shG X (md2 T), J', L, F)) : XM xE0 (d + 4) 100 [.ref 14, .ref 51] (shG X (md2 T), I, L, F) Q := by
  obtain ⟨u1, u2, u3, u4⟩ := sArr_un hA
  have hn := hG.2
  have b1 := hG.1 (p + 1)
  refine XC.block [25] 60 ?_
  refine And.intro (rf_in (j := 7) rfl (by decide) (by decide)) ?_
  refine cl_at hF hG (p := p + 1) (by omega) (show I 15 7 + 1 = nI (p + 1) by rw [h7, nI_1]) (fun _ v hv => ?_) (fun z => absurd z (by omega))
  refine And.intro (fun z => ?_) (fun z => ⟨(show (0 : Int32) &&& 1 = 0 by decide), hbad (fun w => ?_) I (fun _ _ _ _ _ _ _ => rfl)⟩)
  · have z : v ≤ 12 := z
    rw [hv, show (12 : Int32) = nI 12 from rfl, nI_leI (by omega) (by omega)] at z
    refine XC.block [54] 60 ?_
    refine And.intro (rf_in (j := 7) rfl (by decide) (by decide)) ?_
    refine And.intro (rf_in (j := 7) rfl (by decide) (by decide)) ?_
    have go : ∀ hh, hh = nI (p + 2) → XC xE0 (d + 4) xM_100 (54, [some (.ref 14), some (.ref 51), some (.int v), some (.int hh), some (.int 0)], [], (shG X (md2 T), x2 (x2 I 52 7 v) 53 5 0, L, F)) Q := by
      intro hh hhh
      have F2 : clF f n (x2 (x2 I 52 7 v) 53 5 0) := (hF.st (by decide) (by decide)).st (by decide) (by decide)
      have D : ∀ J' : Nat → Nat → Int32, (∀ b k, ¬ (b = 53 ∧ k = 5) → b ≠ 55 → b ≠ 56 → b ≠ 57 → J' b k = x2 (x2 I 52 7 v) 53 5 0 b k) → clWm_b I J' := fun J' h b k k1 k2 k3 k4 k5 => by
        rw [h b k k1 k3 k4 k5, x2_o _ _ k1, x2_o _ _ k2]
      refine cl_tm54_b (I := x2 (x2 I 52 7 v) 53 5 0) hG (K := K) (m := m) (g := f (p + 1)) (p := p) (e := e) hm z F2 hL hv (fun hall J' DJ g5 gM => ?_) (fun hex J' DJ => ?_) h4 (f (p + 1)) 0 (by omega) _ (fun _ _ _ _ _ _ => rfl) rfl (fun j hj => absurd hj (by omega)) (fun j hj => absurd hj (by omega)) (fun hu => ?_) _ _ (by rw [hhh]) rfl
      · refine hok ?_ J' (D J' DJ) ?_ g5 gM
        · rcases hT with y | y
          · exact Or.inl y
          · exact Or.inr ⟨y.1, z, hall⟩
        · rw [DJ 52 7 (by omega) (by decide) (by decide) (by decide), x2_o _ _ (by omega), x2_same]; exact hv
      · refine hbad (fun w => ?_) J' (D J' DJ)
        obtain ⟨i, hi, y⟩ := hex
        rcases w with w | w
        · omega
        · exact y (w.2.2 i hi)
      · have hT := hT.resolve_left (by omega)
        have u4 : sRep (fun x => if f p < 3 then sPln f n (f p) x else sA2 f n x) (f (p + 1)) (p + 2) = .inr e := u4
        rw [show (fun x => if f p < 3 then sPln f n (f p) x else sA2 f n x) = sA2 f n from funext (fun x => if_neg (by omega))] at u4
        exact ⟨u4, hT.2⟩
    exact go _ (show I 15 7 + 2 = nI (p + 2) by rw [h7, show (2 : Int32) = nI 2 from rfl, nI_add])
  · have z : ¬ v ≤ 12 := z
    rw [hv, show (12 : Int32) = nI 12 from rfl, nI_leI (by omega) (by omega)] at z
    rcases w with w | w
    · omega
    · have := w.2.1
      omega
theorem cl_tr66_b {x y : Int32} (h1 : clIr x → clIr y → F 51 3 = clRe x → F 51 4 = clRe y → clRl x y → Q (some (.int 1)) (shG X (md2 T), I, L, F)) (h0 : F 51 3 = clRe x → F 51 4 = clRe y → ¬ clRl x y → Q (some (.int 0)) (shG X (md2 T), I, L, F)) (e3 : F 51 3 = clRe x) (e4 : F 51 4 = clRe y) (i1 : clIr x) (i2 : clIr y) : XC xE0 d xM_97 (66, [some (.ref 14), some (.ref 51), some (.int x), some (.int y)], [], (shG X (md2 T), I, L, F)) Q := by
  have bad : ¬ clRl x y → XC xE0 d xM_97 (108, [some (.ref 14), some (.ref 51), some (.int x), some (.int y)], [], (shG X (md2 T), I, L, F)) Q := fun z => by
    refine XC.block [] 60 ?_
    exact ⟨(show (0 : Int32) &&& 1 = 0 by decide), h0 e3 e4 z⟩
  refine XC.block [108] 60 ?_
  refine And.intro (fun z => bad (fun w => w.2.2.1 ?_)) (fun z1 => ?_)
  · have z : Op.cmpValue (FP.fcmp (F 51 3) 981467136) .l < 0 := z
    rw [e3] at z
    exact z
  · have z1 : ¬ Op.cmpValue (FP.fcmp (F 51 3) 981467136) .l < 0 := z1
    rw [e3] at z1
    refine And.intro (fun z => bad (fun w => w.2.2.2.1 ?_)) (fun z2 => ?_)
    · have z : 0 < Op.cmpValue (FP.fcmp (F 51 3) FP.fconst1) .g := z
      rw [e3] at z
      exact z
    · have z2 : ¬ 0 < Op.cmpValue (FP.fcmp (F 51 3) FP.fconst1) .g := z2
      rw [e3] at z2
      refine And.intro (fun z => bad (fun w => w.2.2.2.2.1 ?_)) (fun z3 => ?_)
      · have z : Op.cmpValue (FP.fcmp (F 51 4) FP.fconst1) .l < 0 := z
        rw [e4] at z
        exact z
      · have z3 : ¬ Op.cmpValue (FP.fcmp (F 51 4) FP.fconst1) .l < 0 := z3
        rw [e4] at z3
        refine And.intro (fun z => bad (fun w => w.2.2.2.2.2 ?_)) (fun z4 => ⟨(show (1 : Int32) &&& 1 = 1 by decide), h1 i1 i2 e3 e4 ⟨i1, i2, z1, z2, z3, ?_⟩⟩)
        · have z : 0 < Op.cmpValue (FP.fcmp (F 51 4) 1098907648) .g := z
          rw [e4] at z
          exact z
        · have z4 : ¬ 0 < Op.cmpValue (FP.fcmp (F 51 4) 1098907648) .g := z4
          rw [e4] at z4
          exact z4
/-- eps and base -/
theorem cl_takeReals_b (hF : clF f n I) (hG : rfG f n) {p q : Nat} (h12 : I 15 12 = nI p) (hp : p + 2 ≤ n) (h13 : I 15 13 = nI q) (hq : q + 2 ≤ n)
    (hok : clRl (nI (sNum f p 2)) (nI (sNum f q 2)) → ∀ F', (∀ b k, ¬ (b = 51 ∧ (k = 3 ∨ k = 4)) → F' b k = F b k) → F' 51 3 = clRe (nI (sNum f p 2)) → F' 51 4 = clRe (nI (sNum f q 2)) → Q (some (.int 1)) (shG X (md2 T), I, L, F'))
    (hbad : ¬ clRl (nI (sNum f p 2)) (nI (sNum f q 2)) → ∀ F', (∀ b k, ¬ (b = 51 ∧ (k = 3 ∨ k = 4)) → F' b k = F b k) → Q (some (.int 0)) (shG X (md2 T), I, L, F')) : XM xE0 (d + 2) 97 [.ref 14, .ref 51] (shG X (md2 T), I, L, F) Q := by
  refine XC.block [17] 60 ?_
  refine And.intro (rf_in (j := 12) rfl (by decide) (by decide)) ?_
  refine cl_number hF hG (p := p) (k := 2) (by decide) hp h12 rfl (fun v hv => ?_)
  have go : ∀ x, x = nI (sNum f p 2) → XC xE0 (d + 2) xM_97 (17, [some (.ref 14), some (.ref 51), some (.int x), none], [], (shG X (md2 T), I, L, F)) Q := by
    intro x hx
    refine XC.block [34] 60 ?_
    refine And.intro (rf_in (j := 13) rfl (by decide) (by decide)) ?_
    refine cl_number hF hG (p := q) (k := 2) (by decide) hq h13 rfl (fun v2 hv2 => ?_)
    have go2 : ∀ y, y = nI (sNum f q 2) → XC xE0 (d + 2) xM_97 (34, [some (.ref 14), some (.ref 51), some (.int x), some (.int y)], [], (shG X (md2 T), I, L, F)) Q := by
      intro y hy
      rw [← hx, ← hy] at hok hbad
      refine XC.block [50] 60 ?_
      refine cl_isReal (fun i1 => ?_) (fun i1 => ?_)
      · refine And.intro (fun z => absurd (show (1 : Int32) = 0 from z) (by decide)) (fun _ => ?_)
        refine cl_isReal (fun i2 => ?_) (fun i2 => ?_)
        · refine And.intro (fun _ => ?_) (fun z => absurd (show ¬ (1 : Int32) = 0 by decide) z)
          refine XC.block [58] 60 ?_
          refine cl_realOf ?_
          refine XC.block [66] 60 ?_
          refine cl_realOf ?_
          have D : ∀ b k, ¬ (b = 51 ∧ (k = 3 ∨ k = 4)) → x2 (x2 F 51 3 (clRe x)) 51 4 (clRe y) b k = F b k := fun b k h => by
            rw [x2_o _ _ (fun e => h ⟨e.1, Or.inr e.2⟩), x2_o _ _ (fun e => h ⟨e.1, Or.inl e.2⟩)]
          exact cl_tr66_b (F := x2 (x2 F 51 3 (clRe x)) 51 4 (clRe y)) (fun _ _ a b c => hok c _ D a b) (fun a b c => hbad c _ D) rfl rfl i1 i2
        · exact And.intro (fun z => absurd (show (0 : Int32) = 0 from rfl) z) (fun _ => ⟨(show (0 : Int32) &&& 1 = 0 by decide), hbad (fun w => i2 w.2.1) F (fun _ _ _ => rfl)⟩)
      · exact And.intro (fun _ => ⟨(show (0 : Int32) &&& 1 = 0 by decide), hbad (fun w => i1 w.1) F (fun _ _ _ => rfl)⟩) (fun z => absurd (show (0 : Int32) = 0 from rfl) z)
    exact go2 _ (show v2.toInt32 = _ by rw [hv2, lN_i])
  exact go _ (show v.toInt32 = _ by rw [hv, lN_i])
end CLN_b
