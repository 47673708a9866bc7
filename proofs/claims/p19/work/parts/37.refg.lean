/-! the reference on paper: LOADING up to FAULT 7 -/
section RFG
variable {f : Nat → Nat} {n : Nat} {I J : Nat → Nat → Int32} {L : Nat → Nat → Int64} {F : Nat → Nat → UInt32} {d : Nat} {Q : xP}
theorem rf_p50 (hG : rfG f n) {m v : Int32} {y3 y4 : Option Value} (C : rfB I J) (S : rfS f n 8 J) (h8 : 8 ≤ n)
    (hs : ∀ r, sPts f n = r ↔ (match sSml f n 0 24 4 8 with
    | .inl e => .inl e
    | .inr (t, _) => (match sSml f n 0 24 4 9 with
      | .inl e => .inl e
      | .inr (k, _) => (match sPrs f n k 0 with
        | .inl e => .inl e
        | .inr b => (match sIfs f n b t 0 with
          | .inl e => .inl e
          | .inr a => .inr (t, k, b, a))))) = r)
    (hok : ∀ t k b a, sPts f n = .inr (t, k, b, a) → t ≤ 24 → k ≤ 24 → ∀ J', rfB I J' → rfS f n a J' → rfP f n t k b J' → Q none (sh2, J', L, F))
    (hbad : ∀ c w, sPts f n = .inl (c, w) → rfBe f n I L F Q c w) : XC xE0 (d + 5) xM_37 (50, [some (.ref 0), some (.int m), some (.int v), y3, y4], [], (sh2, J, L, F)) Q := by
  refine XC.block [72] 60 ?_
  refine rf_many rfl hG h8 S (fun t q e1 J1 s1 a1 S1 hs1 => ?_) (fun c w e1 J1 a1 X1 => ?_)
  · have l1 := sSml_le e1
    have hq : q = 9 := congrArg Prod.snd l1.1
    have ht : t = f 8 := congrArg Prod.fst l1.1
    subst hq
    have S2 : rfS f n 9 (x2 J1 0 14 s1) := S1.st0 (by decide)
    have C2 : rfB I (x2 J1 0 14 s1) := (C.ag a1).st0 (by decide)
    refine rf_many rfl hG (by omega) S2 (fun k q e2 J2 s2 a2 S3 hs2 => ?_) (fun c w e2 J2 a2 X2 => ?_)
    · have l2 := sSml_le e2
      have hq : q = 10 := congrArg Prod.snd l2.1
      have hk : k = f 9 := congrArg Prod.fst l2.1
      subst hq
      have a2 : rfA (x2 J1 0 14 s1) J2 := a2
      have S4 : rfS f n 10 (x2 J2 0 13 s2) := S3.st0 (by decide)
      have C4 : rfB I (x2 J2 0 13 s2) := (C2.ag a2).st0 (by decide)
      have h14 : x2 J2 0 13 s2 0 14 = nI t := by
        rw [x2_o _ _ (by omega), a2 0 14 (by omega), x2_same]; exact hs1
      refine rf_p72 (t := t) hG (k := k) (by omega) k 0 (by omega) (x2 J2 0 13 s2) C4 S4 (show 10 ≤ n by omega) h14 hs2 (fun j hj => absurd hj (by omega)) (fun b e3 J3 y4 C3 S3 hb g14 g13 hP1 => ?_) (fun c w e3 => hbad c w ?_) _ _ rfl
      · refine rf_p198 (b := b) hG (t := t) (k := k) (by omega) t 0 (by omega) J3 C3 S3 hb g14 g13 hP1 (fun j hj => absurd hj (by omega)) (fun a e4 => hok t k b a ?_ (by omega) (by omega)) (fun c w e4 => hbad c w ?_) _ _ rfl
        · rw [hs]; simp only [e1, e2, e3, e4]
        · rw [hs]; simp only [e1, e2, e3, e4]
      · rw [hs]; simp only [e1, e2, e3]
    · refine rf_p72F ((C2.ag a2).st0 (by decide)) (X2.st0 (by decide)) (hbad c w ?_)
      rw [hs]; simp only [e1, e2]
  · refine rf_manyF (X1.st0 (by decide)).ft ?_
    refine rf_p72F (((C.ag a1).st0 (by decide)).st0 (by decide)) ((X1.st0 (by decide)).st0 (by decide)) (hbad c w ?_)
    rw [hs]; simp only [e1]
theorem rf_parse (hG : rfG f n) (hF : rfF f n I) (h3 : I 0 3 = 0)
    (hok : ∀ t k b a, sPts f n = .inr (t, k, b, a) → t ≤ 24 → k ≤ 24 → ∀ J', rfB I J' → rfS f n a J' → rfP f n t k b J' → Q none (sh2, J', L, F))
    (hbad : ∀ c w, sPts f n = .inl (c, w) → rfBe f n I L F Q c w) : XM xE0 (d + 5) 37 [.ref 0] (sh2, I, L, F) Q := by
  have B0 := sNum_lt hG.1 4 0
  have B4 := sNum_lt hG.1 4 4
  refine XC.block [28] 60 ?_
  have A0 : rfA I (x2 I 0 2 0) := rfA.rf.put (by decide) (by decide)
  have S0 : rfS f n 0 (x2 I 0 2 0) := ⟨hF.ag A0, rfl, h3⟩
  refine rf_read hG (k := 4) (by decide) (Nat.zero_le n) S0 rfl (fun c J1 s a1 S1 hs => ?_) (fun c J1 a1 X1 => ?_)
  · have C1 : rfB I J1 := (rfB.rf.ag A0).ag a1
    refine And.intro (fun z => rf_bad0 ?_) (fun z => ?_)
    · have z : s = 1179993927 := z
      rw [hs, show (1179993927 : Int32) = nI 1179993927 from rfl, nI_inj (by omega) (by omega)] at z
      refine XC.block [50] 60 ?_
      refine rf_read hG (k := 4) (by decide) c S1 rfl (fun c2 J2 s2 a2 S2 hs2 => ?_) (fun c2 J2 a2 X2 => ?_)
      · have C2 : rfB I J2 := C1.ag a2
        refine And.intro (fun z2 => rf_bad0 ?_) (fun z2 => ?_)
        · have z2 : s2 = 3 := z2
          rw [hs2, show (3 : Int32) = nI 3 from rfl, nI_inj (by omega) (by omega)] at z2
          refine rf_p50 hG C2 S2 c2 (fun r => ?_) hok hbad
          unfold sPts
          rw [if_neg (by omega), if_neg (by omega), if_neg (by omega), if_neg (show ¬ sNum f 4 4 ≠ 3 from fun q => q z2)]
          all_goals exact Iff.rfl
        · have z2 : ¬ s2 = 3 := z2
          rw [hs2, show (3 : Int32) = nI 3 from rfl, nI_inj (by omega) (by omega)] at z2
          refine rf_bad1 S2.2.2 (rf_p50F (C2.ag ((rfA.rf.put (by decide) (by decide)).put (by decide) (by decide))) (rfX.put S2.1 rfA.rf rfl (by decide) (by decide) rfl) (hbad 3 4 ?_))
          unfold sPts
          rw [if_neg (by omega), if_neg (by omega), if_neg (by omega), if_pos (show sNum f 4 4 ≠ 3 from z2)]
      · have hB : rfBe f n I L F Q 1 4 := hbad 1 4 (by
          unfold sPts
          rw [if_neg (by omega), if_neg (by omega), if_pos (by omega)])
        exact And.intro (fun z => rf_badF X2.ft (rf_p50F (C1.ag a2) X2 hB)) (fun z => rf_badF X2.ft (rf_p50F (C1.ag a2) X2 hB))
    · have z : ¬ s = 1179993927 := z
      rw [hs, show (1179993927 : Int32) = nI 1179993927 from rfl, nI_inj (by omega) (by omega)] at z
      refine rf_bad1 S1.2.2 (rf_p28F (C1.ag ((rfA.rf.put (by decide) (by decide)).put (by decide) (by decide))) (rfX.put S1.1 rfA.rf rfl (by decide) (by decide) rfl) (hbad 2 0 ?_))
      unfold sPts
      rw [if_neg (by omega), if_pos z]
  · have hB : rfBe f n I L F Q 1 0 := hbad 1 0 (by
      unfold sPts
      rw [if_pos (by omega)])
    have C1 : rfB I J1 := (rfB.rf.ag A0).ag a1
    exact And.intro (fun z => rf_badF X1.ft (rf_p28F C1 X1 hB)) (fun z => rf_badF X1.ft (rf_p28F C1 X1 hB))
end RFG
