/-! the class on paper: readParts -/
theorem lg_eq0 {a b : Int64} : lg_cmp a b = 0 ↔ a = b := by
  unfold lg_cmp
  constructor
  · intro h
    split at h
    · exact absurd h (by decide)
    · split at h
      · assumption
      · exact absurd h (by decide)
  · intro h
    subst h
    rw [if_neg Int64.lt_irrefl, if_pos rfl]
theorem lg_nn {s : Nat} (hs : s < 2 ^ 63) : 0 ≤ lg_cmp (lN s) 0 := by
  unfold lg_cmp
  have hnn : ¬ lN s < lN 0 := by rw [pk_lLT hs (by decide)]; omega
  split
  · decide
  · split
    · decide
    · rename_i h3 h4
      exact absurd (Int64.lt_of_le_of_ne (Int64.not_lt.mp h3) h4) hnn
section CLE
variable {X : List (Option Nat)} {T : List xS} {f : Nat → Nat} {n : Nat} {I J : Nat → Nat → Int32} {L : Nat → Nat → Int64} {F : Nat → Nat → UInt32} {d : Nat} {Q : xP}
theorem cl_rh66 (hG : rfG f n) (h8 : 8 ≤ n) {v1 v4 : Int64} {x3 : Int32} (C : clB I J) (S : clS f n 8 J)
    (hok : ∀ t k, sSml f n 0 24 4 8 = .inr (t, 9) → sSml f n 0 24 4 9 = .inr (k, 10) → t ≤ 24 → k ≤ 24 → 10 ≤ n → ∀ J', clB I J' → clS f n 10 J' → J' 5 10 = nI t → J' 5 9 = nI k → Q (some (.int 1)) (shG X T, J', L, F))
    (hb1 : ∀ c w, sSml f n 0 24 4 8 = .inl (c, w) → ∀ J', clB I J' → clX f n c w J' → Q (some (.int 0)) (shG X T, J', L, F))
    (hb2 : ∀ t c w, sSml f n 0 24 4 8 = .inr (t, 9) → sSml f n 0 24 4 9 = .inl (c, w) → ∀ J', clB I J' → clX f n c w J' → Q (some (.int 0)) (shG X T, J', L, F)) : XC xE0 (d + 7) xM_144 (66, [some (.ref 5), some (.long v1), none, some (.int x3), some (.long v4), none], [], (shG X T, J, L, F)) Q := by
  refine XC.block [78] 60 ?_
  refine cl_readSmall (lo := 0) (hi := 24) (c := 4) hG h8 S (by decide) (by decide) rfl rfl rfl (fun t q e1 J1 s1 a1 S1 hs1 => ?_) (fun c w e1 J1 a1 X1 => ?_)
  · have l1 := sSml_le e1
    have hq : q = 9 := congrArg Prod.snd l1.1
    have ht : t = f 8 := congrArg Prod.fst l1.1
    subst hq
    have C2 : clB I (x2 J1 5 10 s1) := (C.ag a1).st5 (by decide)
    have S2 : clS f n 9 (x2 J1 5 10 s1) := S1.st5 (by decide)
    refine XC.block [87] 60 ?_
    refine And.intro (fun _ => ?_) (fun z => absurd (show 0 ≤ s1 by rw [hs1]; exact nI_pos' (by omega)) z)
    refine XC.block [99] 60 ?_
    refine cl_readSmall (lo := 0) (hi := 24) (c := 4) hG (by omega) S2 (by decide) (by decide) rfl rfl rfl (fun k q e2 J2 s2 a2 S3 hs2 => ?_) (fun c w e2 J2 a2 X2 => ?_)
    · have l2 := sSml_le e2
      have hq : q = 10 := congrArg Prod.snd l2.1
      have hk : k = f 9 := congrArg Prod.fst l2.1
      subst hq
      have a2 : clA (x2 J1 5 10 s1) J2 := a2
      refine XC.block [] 60 ?_
      refine And.intro (fun z => absurd (show s2 < 0 from z) (by rw [hs2]; exact nI_pos (by omega))) (fun _ => ⟨(show (1 : Int32) &&& 1 = 1 by decide), hok t k e1 e2 (by omega) (by omega) (by omega) _ ((C2.ag a2).st5 (by decide)) (S3.st5 (by decide)) ?_ hs2⟩)
      show J2 5 10 = nI t
      rw [a2 5 10 (by omega), x2_same]; exact hs1
    · refine XC.block [] 60 ?_
      exact And.intro (fun _ => ⟨(show (0 : Int32) &&& 1 = 0 by decide), hb2 t c w e1 e2 _ ((C2.ag a2).st5 (by decide)) (X2.st5 (by decide))⟩) (fun z => absurd (show (-1 : Int32) < 0 by decide) z)
  · refine XC.block [] 60 ?_
    exact And.intro (fun z => absurd (show (0 : Int32) ≤ -1 from z) (by decide)) (fun _ => ⟨(show (0 : Int32) &&& 1 = 0 by decide), hb1 c w e1 _ ((C.ag a1).st5 (by decide)) (X1.st5 (by decide))⟩)
theorem cl_readHead (hG : rfG f n) (S : clS f n 0 I)
    (hok : ∀ t k, 8 ≤ n → sNum f 0 4 = 1179993927 → sNum f 4 4 = 3 → sSml f n 0 24 4 8 = .inr (t, 9) → sSml f n 0 24 4 9 = .inr (k, 10) → t ≤ 24 → k ≤ 24 → 10 ≤ n → ∀ J', clB I J' → clS f n 10 J' → J' 5 10 = nI t → J' 5 9 = nI k → Q (some (.int 1)) (shG X T, J', L, F))
    (hbad : ∀ c w, sPts f n = .inl (c, w) → ∀ J', clB I J' → clX f n c w J' → Q (some (.int 0)) (shG X T, J', L, F)) : XM xE0 (d + 7) 144 [.ref 5] (shG X T, I, L, F) Q := by
  have B0 := sNum_lt hG.1 4 0
  have B4 := sNum_lt hG.1 4 4
  refine XC.block [29] 60 ?_
  refine cl_readNumber hG (k := 4) (by decide) (Nat.zero_le n) S rfl (fun c J1 v a1 S1 hv => ?_) (fun c J1 a1 X1 => ?_)
  · refine And.intro (fun _ => ?_) (fun z => absurd (show 0 ≤ lg_cmp v 0 by rw [hv]; exact lg_nn (by omega)) z)
    refine And.intro (fun z => ?_) (fun z => ?_)
    · have z : lg_cmp v 1179993927 = 0 := z
      rw [lg_eq0, hv, show (1179993927 : Int64) = lN 1179993927 from rfl, pk_lEQ (by omega) (by omega)] at z
      have go : XC xE0 (d + 7) xM_144 (29, [some (.ref 5), some (.long v), none, none, none, none], [], (shG X T, J1, L, F)) Q := by
        refine XC.block [66] 60 ?_
        refine cl_readNumber hG (k := 4) (by decide) c S1 rfl (fun c2 J2 v2 a2 S2 hv2 => ?_) (fun c2 J2 a2 X2 => ?_)
        · have hv2 : v2 = lN (sNum f 4 4) := hv2
          refine And.intro (fun _ => ?_) (fun z => absurd (show 0 ≤ lg_cmp v2 0 by rw [hv2]; exact lg_nn (by omega)) z)
          have C2 : clB I J2 := (clB.rf.ag a1).ag a2
          refine And.intro (fun z2 => ?_) (fun z2 => ?_)
          · have z2 : lg_cmp v2 3 = 0 := z2
            rw [lg_eq0, hv2, show (3 : Int64) = lN 3 from rfl, pk_lEQ (by omega) (by omega)] at z2
            refine cl_rh66 hG c2 C2 S2 (fun t k e1 e2 ht hk hn10 => hok t k c2 z z2 e1 e2 ht hk hn10) (fun c' w e1 => hbad c' w ?_) (fun t c' w e1 e2 => hbad c' w ?_)
            · unfold sPts
              rw [if_neg (by omega), if_neg (by omega), if_neg (by omega), if_neg (show ¬ sNum f 4 4 ≠ 3 from fun q => q z2)]
              simp only [e1]
            · unfold sPts
              rw [if_neg (by omega), if_neg (by omega), if_neg (by omega), if_neg (show ¬ sNum f 4 4 ≠ 3 from fun q => q z2)]
              simp only [e1, e2]
          · have z2 : ¬ lg_cmp v2 3 = 0 := z2
            rw [lg_eq0, hv2, show (3 : Int64) = lN 3 from rfl, pk_lEQ (by omega) (by omega)] at z2
            refine cl_fail ⟨(show (0 : Int32) &&& 1 = 0 by decide), hbad 3 4 ?_ _ (C2.ag ((clA.rf.put (by decide) (by decide)).put (by decide) (by decide))) (clX.put S2.1 clA.rf rfl S1.2.1)⟩
            unfold sPts
            rw [if_neg (by omega), if_neg (by omega), if_neg (by omega), if_pos (show sNum f 4 4 ≠ 3 from z2)]
        · refine And.intro (fun z => absurd (show 0 ≤ lg_cmp (-1) 0 from z) (by decide)) (fun _ => ⟨(show (0 : Int32) &&& 1 = 0 by decide), hbad 1 4 ?_ J2 ((clB.rf.ag a1).ag a2) X2⟩)
          unfold sPts
          rw [if_neg (by omega), if_neg (by omega), if_pos (by omega)]
      exact go
    · have z : ¬ lg_cmp v 1179993927 = 0 := z
      rw [lg_eq0, hv, show (1179993927 : Int64) = lN 1179993927 from rfl, pk_lEQ (by omega) (by omega)] at z
      refine cl_fail ⟨(show (0 : Int32) &&& 1 = 0 by decide), hbad 2 0 ?_ _ ((clB.rf.ag a1).ag ((clA.rf.put (by decide) (by decide)).put (by decide) (by decide))) (clX.put S1.1 clA.rf rfl rfl)⟩
      unfold sPts
      rw [if_neg (by omega), if_pos z]
  · refine And.intro (fun z => absurd (show 0 ≤ lg_cmp (-1) 0 from z) (by decide)) (fun _ => ⟨(show (0 : Int32) &&& 1 = 0 by decide), hbad 1 0 ?_ J1 (clB.rf.ag a1) X1⟩)
    unfold sPts
    rw [if_pos (by omega)]
theorem cl_readParts (hG : rfG f n) (hF : clF f n I)
    (hok : ∀ t k b a, sPts f n = .inr (t, k, b, a) → t ≤ 24 → k ≤ 24 → ∀ J', clB I J' → clS f n a J' → clP f n t k b J' → Q (some (.int 0)) (shG X T, J', L, F))
    (hbad : ∀ c w, sPts f n = .inl (c, w) → ∀ J', clB I J' → clX f n c w J' → Q (some (.int (nI c))) (shG X T, J', L, F)) : XM xE0 (d + 8) 138 [.ref 5] (shG X T, I, L, F) Q := by
  have A0 : clA I (x2 (x2 (x2 I 5 11 0) 5 12 0) 5 13 (-1)) := ((clA.rf.put (by decide) (by decide)).put (by decide) (by decide)).put (by decide) (by decide)
  have S0 : clS f n 0 (x2 (x2 (x2 I 5 11 0) 5 12 0) 5 13 (-1)) := ⟨hF.ag A0, rfl, rfl, rfl⟩
  have bad : ∀ c w J', sPts f n = .inl (c, w) → clB I J' → clX f n c w J' → XC xE0 (d + 8) xM_138 (33, [some (.ref 5)], [], (shG X T, J', L, F)) Q := by
    intro c w J' e C' X'
    refine XC.block [] 60 ?_
    refine ⟨trivial, ?_⟩
    have := hbad c w e J' C' X'
    rw [← X'.2.1] at this
    exact this
  have cB : ∀ J', clB (x2 (x2 (x2 I 5 11 0) 5 12 0) 5 13 (-1)) J' → clB I J' := fun J' h b k h1 h2 => (h b k h1 h2).trans (A0 b k (fun e => by have := h1 e; omega))
  refine XC.block [22, 33] 60 ?_
  refine cl_readHead hG S0 (fun t k h8 hm hv e1 e2 ht hk h10 J1 C1 S1 g10 g9 => ?_) (fun c w e J1 C1 X1 => ?_)
  · refine And.intro (fun z => absurd (show (1 : Int32) = 0 from z) (by decide)) (fun _ => ?_)
    have key : ∀ r, (match sPrs f n k 0 with
        | .inl e => (.inl e : pE (Nat × Nat × Nat × Nat))
        | .inr b => (match sIfs f n b t 0 with
          | .inl e => .inl e
          | .inr a => .inr (t, k, b, a))) = r → sPts f n = r := by
      intro r hr
      unfold sPts
      rw [if_neg (by omega), if_neg (by omega), if_neg (by omega), if_neg (show ¬ sNum f 4 4 ≠ 3 from fun q => q hv)]
      simp only [e1, e2]
      exact hr
    have go : XC xE0 (d + 8) xM_138 (22, [some (.ref 5)], [], (shG X T, J1, L, F)) Q := by
      refine XC.block [33] 60 ?_
      refine XC.block [2] 60 ?_
      refine cl_rp2 (I := I) (t := t) (k := k) hG hk (fun b J2 C2 S2 hb hbn q10 q9 hP1 hpr => ?_) (fun c w e J2 C2 X2 => ?_) k 0 (by omega) rfl J1 (cB J1 C1) S1 h10 g10 g9 (fun j hj => absurd hj (by omega)) _ rfl
      · refine And.intro (fun z => absurd (show (1 : Int32) = 0 from z) (by decide)) (fun _ => ?_)
        refine XC.block [4] 60 ?_
        refine cl_ri4 (I := I) (t := t) (k := k) (b := b) hG ht (fun a J3 e3 C3 S3 P3 => ?_) (fun c w e3 J3 C3 X3 => ?_) t 0 (by omega) rfl J2 C2 S2 hbn q10 q9 hP1 (fun j hj => absurd hj (by omega)) _ rfl
        · refine XC.block [] 60 ?_
          refine ⟨trivial, ?_⟩
          have := hok t k b a (key _ (by simp only [hpr, e3])) ht hk J3 C3 S3 P3
          rw [← S3.2.2.1] at this
          exact this
        · exact bad c w J3 (key _ (by simp only [hpr, e3])) C3 X3
      · refine And.intro (fun _ => ?_) (fun z => absurd (show (0 : Int32) = 0 from rfl) z)
        exact bad c w J2 (key _ (by simp only [e])) C2 X2
    exact go
  · refine And.intro (fun _ => ?_) (fun z => absurd (show (0 : Int32) = 0 from rfl) z)
    exact bad c w J1 e (cB J1 C1) X1
end CLE
