/-! the class on paper: all PARTS -/
/-- nothing changes but what the Reader notes -/
def clB (I I' : Nat → Nat → Int32) : Prop := ∀ b k, (b = 5 → k < 9 ∨ 13 < k) → (6 ≤ b → 13 < b) → I' b k = I b k
theorem clB.rf {I : Nat → Nat → Int32} : clB I I := fun _ _ _ _ => rfl
theorem clB.ag {I J K : Nat → Nat → Int32} (h : clB I J) (a : clA J K) : clB I K := fun b k h1 h2 => (a b k (fun e => by have := h1 e; omega)).trans (h b k h1 h2)
theorem clB.agC {c i : Nat} {I J K : Nat → Nat → Int32} (hc : 6 ≤ c ∧ c ≤ 13) (h : clB I J) (a : clC c i J K) : clB I K := fun b k h1 h2 => (a b k (fun e => by have := h1 e; omega) (fun e => by have := h2 (by omega); omega)).trans (h b k h1 h2)
theorem clB.agD {i : Nat} {I J K : Nat → Nat → Int32} (h : clB I J) (a : clD i J K) : clB I K := fun b k h1 h2 => (a b k (fun e => by have := h1 e; omega) (fun e e2 => by have := h2 (by omega); omega)).trans (h b k h1 h2)
theorem clB.st {I J : Nat → Nat → Int32} (h : clB I J) {b k : Nat} {x : Int32} (hb : 6 ≤ b) (hb2 : b ≤ 13) : clB I (x2 J b k x) := fun b2 k2 h1 h2 => (x2_o _ _ (fun e => by have := h2 (by omega); omega)).trans (h b2 k2 h1 h2)
theorem clB.st5 {I J : Nat → Nat → Int32} (h : clB I J) {k : Nat} {x : Int32} (hk : k = 9 ∨ k = 10) : clB I (x2 J 5 k x) := fun b2 k2 h1 h2 => (x2_o _ _ (fun e => by have := h1 e.1; omega)).trans (h b2 k2 h1 h2)
theorem clF.agB {f : Nat → Nat} {n : Nat} {I J : Nat → Nat → Int32} (h : clF f n I) (a : clB I J) : clF f n J := ⟨fun k hk => by rw [a 2 k (by omega) (by omega)]; exact h.1 k hk, (a 1 1 (by omega) (by omega)).trans h.2⟩
theorem clS.st5 {f : Nat → Nat} {n p : Nat} {I : Nat → Nat → Int32} (h : clS f n p I) {k : Nat} {x : Int32} (hk : k < 11) : clS f n p (x2 I 5 k x) := ⟨h.1.st (by decide) (by decide), (x2_o _ _ (by omega)).trans h.2.1, (x2_o _ _ (by omega)).trans h.2.2.1, (x2_o _ _ (by omega)).trans h.2.2.2⟩
theorem clX.st5 {f : Nat → Nat} {n c w : Nat} {I : Nat → Nat → Int32} (h : clX f n c w I) {k : Nat} {x : Int32} (hk : k < 11) : clX f n c w (x2 I 5 k x) := ⟨h.1.st (by decide) (by decide), (x2_o _ _ (by omega)).trans h.2.1, (x2_o _ _ (by omega)).trans h.2.2⟩
def clP1 (f : Nat → Nat) (n : Nat) (J : Nat → Nat → Int32) (j : Nat) : Prop := J 6 j = nI (sKey f n j) ∧ J 7 j = nI (sTy f n j) ∧ J 8 j = nI (sVa f n j) ∧ sKey f n j + f (sKey f n j) < n
def clP2 (f : Nat → Nat) (n b : Nat) (J : Nat → Nat → Int32) (j : Nat) : Prop := J 9 j = nI (sNam f n b j) ∧ sNam f n b j + f (sNam f n b j) < n ∧ ∃ v, sInf f n (sNam f n b j + 1 + f (sNam f n b j)) = .inr (v, sNam f n b (j + 1)) ∧ J 10 j = nI v.1 ∧ J 11 j = nI v.2.1 ∧ J 12 j = nI v.2.2.1 ∧ J 13 j = nI v.2.2.2
def clP (f : Nat → Nat) (n t k b : Nat) (J : Nat → Nat → Int32) : Prop := J 5 10 = nI t ∧ J 5 9 = nI k ∧ (∀ j, j < k → clP1 f n J j) ∧ ∀ j, j < t → clP2 f n b J j
section CLD
variable {X : List (Option Nat)} {T : List xS} {f : Nat → Nat} {n : Nat} {I J : Nat → Nat → Int32} {L : Nat → Nat → Int64} {F : Nat → Nat → UInt32} {d : Nat} {Q : xP}
theorem cl_rp2 (hG : rfG f n) {t k : Nat} (hk : k ≤ 24)
    (hok : ∀ b J', clB I J' → clS f n b J' → b = sKey f n k → b ≤ n → J' 5 10 = nI t → J' 5 9 = nI k → (∀ j, j < k → clP1 f n J' j) → sPrs f n k 0 = .inr b → Q (some (.int 1)) (shG X T, J', L, F))
    (hbad : ∀ c w, sPrs f n k 0 = .inl (c, w) → ∀ J', clB I J' → clX f n c w J' → Q (some (.int 0)) (shG X T, J', L, F)) :
    ∀ (u i : Nat), i + u = k → sPrs f n k 0 = sPrs f n u i → ∀ (J : Nat → Nat → Int32), clB I J → clS f n (sKey f n i) J → sKey f n i ≤ n → J 5 10 = nI t → J 5 9 = nI k → (∀ j, j < i → clP1 f n J j) → ∀ ii, ii = nI i → XC xE0 (d + 7) xM_145 (2, [some (.ref 5), some (.int ii)], [], (shG X T, J, L, F)) Q := by
  intro u
  induction u with
  | zero =>
    intro i hi he J C S hp h10 h9 hP1 ii hii
    have : i = k := by omega
    subst this
    refine XC.block [2] 60 ?_
    exact And.intro (fun z => ⟨(show (1 : Int32) &&& 1 = 1 by decide), hok _ J C S rfl hp h10 h9 hP1 he⟩) (fun z => absurd (show J 5 9 ≤ ii by rw [h9, hii]; exact nI_le (by omega) (by omega)) z)
  | succ u ih =>
    intro i hi he J C S hp h10 h9 hP1 ii hii
    have hn := hG.2
    have ek : ii.toNatClampNeg = i := by rw [hii, nI_clamp (by omega)]
    refine XC.block [24] 60 ?_
    refine And.intro (fun z => absurd (show J 5 9 ≤ ii from z) (by rw [h9, hii]; exact nI_ge (by omega) (by omega))) (fun z => ?_)
    refine cl_readName_6 (M := sKey f n) hG hii (by omega) rfl S hp (fun j hj => ⟨(hP1 j hj).1, (hP1 j hj).2.2.2⟩) (fun q e1 eD J1 C1 S1 g6 => ?_) (fun c w e1 J1 a1 X1 => ?_) (fun q e1 eD J1 a1 X1 => ?_)
    · have l1 := sStr_le e1
      refine And.intro (fun _ => ?_) (fun z => absurd (show ¬ (1 : Int32) = 0 by decide) z)
      have CB1 : clB I J1 := C.agC ⟨by decide, by decide⟩ C1
      refine XC.block [37] 60 ?_
      refine cl_readSmall (lo := 0) (hi := 3) (c := 5) hG l1.2.1 S1 (by decide) (by decide) rfl rfl rfl (fun ty r e3 J3 s a3 S3 hs => ?_) (fun c w e3 J3 a3 X3 => ?_)
      · have l3 := sSml_le e3
        have hr : r = q + 1 := congrArg Prod.snd l3.1
        have hty : ty = f q := congrArg Prod.fst l3.1
        refine And.intro (rf_in hii (by omega) (by decide)) ?_
        refine XC.block [2] 60 ?_
        refine And.intro (rf_in hii (by omega) (by decide)) ?_
        have C4 : clB I (x2 (x2 J3 7 ii.toNatClampNeg s) 8 ii.toNatClampNeg (J3 5 11)) := ((CB1.ag a3).st (by decide) (by decide)).st (by decide) (by decide)
        have S4 : clS f n r (x2 (x2 J3 7 ii.toNatClampNeg s) 8 ii.toNatClampNeg (J3 5 11)) := (S3.st (by decide)).st (by decide)
        have e7 : x2 (x2 J3 7 ii.toNatClampNeg s) 8 ii.toNatClampNeg (J3 5 11) 7 ii.toNatClampNeg = nI ty := by
          rw [x2_o _ _ (by omega), x2_same]; exact hs
        refine And.intro (rf_in hii (by omega) (by decide)) ?_
        refine And.intro (fun z => ?_) (fun _ => ?_)
        · have z : x2 (x2 J3 7 ii.toNatClampNeg s) 8 ii.toNatClampNeg (J3 5 11) 7 ii.toNatClampNeg < 0 := z
          rw [e7] at z
          exact absurd z (nI_pos (by omega))
        · refine And.intro (rf_in hii (by omega) (by decide)) ?_
          refine cl_v1 (d := d) hG (t := ty) (by omega) r _ _ _ _ e7 rfl (by omega) S4 (fun q2 e5 J5 a5 S5 => ?_) (fun c w e5 J5 a5 X5 => ?_)
          · have l5 := sVal_le e5
            have a5 : clA (x2 (x2 J3 7 ii.toNatClampNeg s) 8 ii.toNatClampNeg (J3 5 11)) J5 := a5
            have eK : sKey f n (i + 1) = q2 := by
              show (match sPr f n (sKey f n i) with | .inl _ => 0 | .inr q => q) = q2
              simp only [sPr, e1, e3, e5]
            have hb : ∀ b2 k2, (b2 = 5 → k2 < 11 ∨ 13 < k2) → ¬ ((b2 = 6 ∨ b2 = 7 ∨ b2 = 8) ∧ k2 = i) → J5 b2 k2 = J b2 k2 := by
              intro b2 k2 h1 h2
              rw [a5 b2 k2 h1, x2_o _ _ (by omega), x2_o _ _ (by omega), a3 b2 k2 h1, C1 b2 k2 h1 (by omega)]
            refine And.intro (fun _ => ?_) (fun z => absurd (show ¬ (1 : Int32) = 0 by decide) z)
            refine ih (i + 1) (by omega) (by rw [he]; simp only [sPrs, e1, eD, e3, e5]; rfl) J5 (C4.ag a5) (by rw [eK]; exact S5) (by rw [eK]; exact l5.2) ((hb 5 10 (by omega) (by omega)).trans h10) ((hb 5 9 (by omega) (by omega)).trans h9) (fun j hj => ?_) _ (show ii + 1 = nI (i + 1) by rw [hii, nI_1])
            rcases Nat.lt_or_ge j i with hj2 | hj2
            · obtain ⟨t1, t2, t3, t4⟩ := hP1 j hj2
              exact ⟨(hb 6 j (by omega) (by omega)).trans t1, (hb 7 j (by omega) (by omega)).trans t2, (hb 8 j (by omega) (by omega)).trans t3, t4⟩
            · have : j = i := by omega
              subst this
              refine ⟨?_, ?_, ?_, by omega⟩
              · rw [a5 6 j (by omega), x2_o _ _ (by omega), x2_o _ _ (by omega), a3 6 j (by omega)]; exact g6
              · rw [a5 7 j (by omega), x2_o _ _ (by omega), ek, x2_same, hs, hty, ← l1.1]; rfl
              · rw [a5 8 j (by omega), ek, x2_same, S3.2.1, hr, ← l1.1]
                show nI _ = nI (sKey f n j + 2 + f (sKey f n j))
                congr 1
                omega
          · refine And.intro (fun z => absurd (show (0 : Int32) = 0 from rfl) z) (fun _ => ⟨(show (0 : Int32) &&& 1 = 0 by decide), hbad c w ?_ J5 (C4.ag a5) X5⟩)
            rw [he]; simp only [sPrs, e1, eD, e3, e5]; rfl
      · refine And.intro (rf_in hii (by omega) (by decide)) ?_
        refine XC.block [2] 60 ?_
        refine And.intro (rf_in hii (by omega) (by decide)) ?_
        have X4 : clX f n c w (x2 (x2 J3 7 ii.toNatClampNeg (-1)) 8 ii.toNatClampNeg (J3 5 11)) := (X3.st (by decide)).st (by decide)
        have C4 : clB I (x2 (x2 J3 7 ii.toNatClampNeg (-1)) 8 ii.toNatClampNeg (J3 5 11)) := ((CB1.ag a3).st (by decide) (by decide)).st (by decide) (by decide)
        refine And.intro (rf_in hii (by omega) (by decide)) ?_
        refine And.intro (fun _ => ⟨(show (0 : Int32) &&& 1 = 0 by decide), hbad c w (by rw [he]; simp only [sPrs, e1, eD, e3]; rfl) _ C4 X4⟩) (fun z => ?_)
        have z : ¬ x2 (x2 J3 7 ii.toNatClampNeg (-1)) 8 ii.toNatClampNeg (J3 5 11) 7 ii.toNatClampNeg < 0 := z
        rw [x2_o _ _ (by omega), x2_same] at z
        exact absurd (by decide) z
    · exact And.intro (fun z => absurd (show (0 : Int32) = 0 from rfl) z) (fun _ => ⟨(show (0 : Int32) &&& 1 = 0 by decide), hbad c w (by rw [he]; simp only [sPrs, e1]) J1 (C.ag a1) X1⟩)
    · exact And.intro (fun z => absurd (show (0 : Int32) = 0 from rfl) z) (fun _ => ⟨(show (0 : Int32) &&& 1 = 0 by decide), hbad 7 _ (by rw [he]; simp only [sPrs, e1, eD]; rfl) J1 (C.ag a1) X1⟩)
theorem cl_ri4 (hG : rfG f n) {t k b : Nat} (ht : t ≤ 24)
    (hok : ∀ a J', sIfs f n b t 0 = .inr a → clB I J' → clS f n a J' → clP f n t k b J' → Q none (shG X T, J', L, F))
    (hbad : ∀ c w, sIfs f n b t 0 = .inl (c, w) → ∀ J', clB I J' → clX f n c w J' → Q none (shG X T, J', L, F)) :
    ∀ (u i : Nat), i + u = t → sIfs f n b t 0 = sIfs f n b u i → ∀ (J : Nat → Nat → Int32), clB I J → clS f n (sNam f n b i) J → sNam f n b i ≤ n → J 5 10 = nI t → J 5 9 = nI k → (∀ j, j < k → clP1 f n J j) → (∀ j, j < i → clP2 f n b J j) → ∀ ii, ii = nI i → XC xE0 (d + 7) xM_147 (4, [some (.ref 5), some (.int 1), some (.int ii)], [], (shG X T, J, L, F)) Q := by
  intro u
  induction u with
  | zero =>
    intro i hi he J C S hp h10 h9 hP1 hP2 ii hii
    refine XC.block [4] 60 ?_
    refine And.intro (fun z => absurd (show (1 : Int32) = 0 from z) (by decide)) (fun _ => ?_)
    refine And.intro (fun z => ⟨trivial, hok _ J he C S ⟨h10, h9, hP1, fun j hj => hP2 j (by omega)⟩⟩) (fun z => absurd (show J 5 10 ≤ ii by rw [h10, hii]; exact nI_le (by omega) (by omega)) z)
  | succ u ih =>
    intro i hi he J C S hp h10 h9 hP1 hP2 ii hii
    have hn := hG.2
    have bad : ∀ c w J1, sIfs f n b t 0 = .inl (c, w) → clB I J1 → clX f n c w J1 → ∀ x1, XC xE0 (d + 7) xM_147 (40, [some (.ref 5), some (.int x1), some (.int ii)], [], (shG X T, J1, L, F)) Q := by
      intro c w J1 e C1 X1 x1
      refine XC.block [4] 60 ?_
      refine XC.block [] 60 ?_
      exact And.intro (fun _ => ⟨trivial, hbad c w e J1 C1 X1⟩) (fun z => absurd (show (0 : Int32) = 0 from rfl) z)
    refine XC.block [28, 40] 60 ?_
    refine And.intro (fun z => absurd (show (1 : Int32) = 0 from z) (by decide)) (fun _ => ?_)
    refine And.intro (fun z => absurd (show J 5 10 ≤ ii from z) (by rw [h10, hii]; exact nI_ge (by omega) (by omega))) (fun z => ?_)
    refine cl_readName_9 (M := sNam f n b) hG hii (by omega) rfl S hp (fun j hj => ⟨(hP2 j hj).1, (hP2 j hj).2.1⟩) (fun q e1 eD J1 C1 S1 g9 => ?_) (fun c w e1 J1 a1 X1 => ?_) (fun q e1 eD J1 a1 X1 => ?_)
    · have l1 := sStr_le e1
      refine And.intro (fun z => absurd (show (1 : Int32) = 0 from z) (by decide)) (fun _ => ?_)
      have CB1 : clB I J1 := C.agC ⟨by decide, by decide⟩ C1
      refine XC.block [4, 40] 60 ?_
      refine cl_readSides hG hii (by omega) S1 l1.2.1 (fun v q' e3 J3 C3 S3 t9 t10 t11 t12 t13 => ?_) (fun c w e3 J3 C3 X3 => ?_)
      · refine And.intro (fun z => absurd (show (1 : Int32) = 0 from z) (by decide)) (fun _ => ?_)
        have eN : sNam f n b (i + 1) = q' := by
          show (match sNm f n (sNam f n b i) with | .inl _ => 0 | .inr q => q) = q'
          simp only [sNm, e1, e3]
        have hb : ∀ b2 k2, (b2 = 5 → k2 < 11 ∨ 13 < k2) → (9 ≤ b2 → b2 ≤ 13 → k2 ≠ i) → J3 b2 k2 = J b2 k2 := by
          intro b2 k2 h1 h2
          rw [C3 b2 k2 h1 h2, C1 b2 k2 h1 (fun e => h2 (by omega) (by omega) e.2)]
        refine ih (i + 1) (by omega) (by rw [he]; simp only [sIfs, e1, eD, e3]; rfl) J3 (CB1.agD C3) (by rw [eN]; exact S3) (by rw [eN]; exact sInf_q e3) ((hb 5 10 (by omega) (by omega)).trans h10) ((hb 5 9 (by omega) (by omega)).trans h9) (fun j hj => ?_) (fun j hj => ?_) _ (show ii + 1 = nI (i + 1) by rw [hii, nI_1])
        · obtain ⟨g1, g2, g3, g4⟩ := hP1 j hj
          exact ⟨(hb 6 j (by omega) (by omega)).trans g1, (hb 7 j (by omega) (by omega)).trans g2, (hb 8 j (by omega) (by omega)).trans g3, g4⟩
        · rcases Nat.lt_or_ge j i with hj2 | hj2
          · obtain ⟨g1, g2, vv, g3, g4, g5, g6, g7⟩ := hP2 j hj2
            exact ⟨(hb 9 j (by omega) (by omega)).trans g1, g2, vv, g3, (hb 10 j (by omega) (by omega)).trans g4, (hb 11 j (by omega) (by omega)).trans g5, (hb 12 j (by omega) (by omega)).trans g6, (hb 13 j (by omega) (by omega)).trans g7⟩
          · have : j = i := by omega
            subst this
            exact ⟨t9.trans g9, by omega, v, by rw [eN, l1.1]; exact e3, t10, t11, t12, t13⟩
      · refine And.intro (fun _ => ?_) (fun z => absurd (show (0 : Int32) = 0 from rfl) z)
        exact bad c w J3 (by rw [he]; simp only [sIfs, e1, eD, e3]; rfl) (CB1.agD C3) X3 _
    · refine And.intro (fun _ => ?_) (fun z => absurd (show (0 : Int32) = 0 from rfl) z)
      exact bad c w J1 (by rw [he]; simp only [sIfs, e1]) (C.ag a1) X1 _
    · refine And.intro (fun _ => ?_) (fun z => absurd (show (0 : Int32) = 0 from rfl) z)
      exact bad 7 _ J1 (by rw [he]; simp only [sIfs, e1, eD]; rfl) (C.ag a1) X1 _
end CLD
