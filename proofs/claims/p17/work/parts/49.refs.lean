/-! shapes of the reference -/
section RFS
variable {f : Nat → Nat} {n b t dd kv ff tk : Nat} {I J : Nat → Nat → Int32} {L : Nat → Nat → Int64} {F : Nat → Nat → UInt32} {d : Nat} {Q : xP}
abbrev rfLq (d1 d2 d3 x : Int32) (y5 y6 y7 : Option Value) : xL := [some (.ref 0), some (.int d1), some (.int d2), some (.int d3), some (.int x), y5, y6, y7]
theorem rf_sh72F {d1 d2 d3 x : Int32} {y5 y6 y7 : Option Value} (h : ¬ J 0 3 ≤ 0) (hQ : Q none (sh2, J, L, F)) : XC xE0 (d + 3) xM_49 (72, rfLq d1 d2 d3 x y5 y6 y7, [], (sh2, J, L, F)) Q := by
  refine XC.block [] 60 ?_
  refine And.intro (rf_in (j := 3) rfl (by decide) (by decide)) ?_
  refine And.intro (fun _ => ⟨trivial, hQ⟩) (fun _ => ?_)
  exact And.intro (fun _ => ⟨trivial, hQ⟩) (fun z => absurd (rf_ne0 h) z)
theorem rf_sh72E {d1 d2 d3 x : Int32} {y5 y6 y7 : Option Value} {ly : Nat} (hx : x = nI ly) (hly : ly < 2 ^ 31) (h10 : J 10 3 = nI ly) (hQ : Q none (sh2, J, L, F)) : XC xE0 (d + 3) xM_49 (72, rfLq d1 d2 d3 x y5 y6 y7, [], (sh2, J, L, F)) Q := by
  refine XC.block [] 60 ?_
  refine And.intro (rf_in (j := 3) rfl (by decide) (by decide)) ?_
  exact And.intro (fun _ => ⟨trivial, hQ⟩) (fun z => absurd (show J 10 3 ≤ x by rw [h10, hx]; exact nI_le (Nat.le_refl _) hly) z)
/-- layer l, and on -/
theorem rf_sh72 (hG : rfG f n) (hF : rfF f n I) (hU : rfU f n b t I) {ly : Nat} (hly : ly ≤ 2) (h10 : I 10 3 = nI ly) {d1 d2 d3 : Int32} (h1 : d1 = nI dd) (h2 : d2 = nI kv) (h3 : d3 = nI ff) (b1 : dd < 2 ^ 31) (b2 : kv < 2 ^ 31) (b3 : ff < 2 ^ 31)
    (hQ : ∀ q J', q ≤ 3 + 9 * ly → (J' 0 3 = 0 → q = 3 + 9 * ly) → rfN I J' → rfH f n b t dd kv ff tk q J' → Q none (sh2, J', L, F)) :
    ∀ (u l : Nat), l + u = ly → ∀ J, rfN I J → rfH f n b t dd kv ff tk (3 + 9 * l) J → ∀ x y5 y7, x = nI l → XC xE0 (d + 3) xM_49 (72, rfLq d1 d2 d3 x y5 none y7, [], (sh2, J, L, F)) Q := by
  intro u
  induction u with
  | zero =>
    intro l hl J D H x y5 y7 hx
    have : l = ly := by omega
    subst this
    exact rf_sh72E hx (by omega) ((D 10 3 (by omega) (by decide)).trans h10) (hQ _ J (Nat.le_refl _) (fun _ => rfl) D H)
  | succ u ih =>
    intro l hl J D H x y5 y7 hx
    have j10 : J 10 3 = nI ly := (D 10 3 (by omega) (by decide)).trans h10
    rcases H.2 with y | y
    · refine XC.block [111] 60 ?_
      refine And.intro (rf_in (j := 3) rfl (by decide) (by decide)) ?_
      refine And.intro (fun z => absurd (show J 10 3 ≤ x from z) (by rw [j10, hx]; exact nI_ge (by omega) (by omega))) (fun _ => ?_)
      refine And.intro (fun z => absurd y.1 z) (fun _ => ?_)
      have go : ∀ x i7, x = nI l → i7 = nI (3 + 9 * l) → XC xE0 (d + 3) xM_49 (111, [some (.ref 0), some (.int d1), some (.int d2), some (.int d3), some (.int x), some (.long (rfNm l)), none, some (.int i7)], [], (sh2, J, L, F)) Q := by
        intro x i7 hx h7
        refine rf_shB hG hF hU D (by omega) H h1 h2 h3 b1 b2 b3 h7 (fun J9 D9 H9 => ?_)
        refine XC.block [72] 60 ?_
        exact ih (l + 1) (by omega) J9 D9 H9 _ _ _ (show x + 1 = nI (l + 1) by rw [hx, nI_1])
      subst hx
      exact go _ _ rfl (show 3 + 9 * nI l = nI (3 + 9 * l) by rw [show (9 : Int32) = nI 9 from rfl, nI_mul, show (3 : Int32) = nI 3 from rfl, nI_add])
    · exact rf_sh72F (show ¬ J 0 3 ≤ 0 by rw [y.1]; decide) (hQ (3 + 9 * l) J (by omega) (fun z => by rw [y.1] at z; exact absurd z (by decide)) D H)
theorem rf_shapes (hG : rfG f n) (hF : rfF f n I) (hU : rfU f n b t I) (h03 : I 0 3 = 0) {N0 N1 N2 N3 N4 : Nat} (e0 : I 10 0 = nI N0) (e1 : I 10 1 = nI N1) (e2 : I 10 2 = nI N2) (e3 : I 10 3 = nI N3) (e4 : I 10 4 = nI N4) (e22 : I 0 22 = nI tk) (b0 : N0 ≤ 16) (b1 : 1 ≤ N1) (b1' : N1 ≤ 4) (b2 : N2 ≤ 4) (b3 : N3 ≤ 2) (b4 : N4 ≤ 16) (b22 : tk ≤ 16)
    (hok : (∀ q, q < 3 + 9 * N3 → sGq f n b t N0 (N0 / N1 * N2) N4 tk q) → ∀ J', rfN I J' → J' 0 3 = 0 → (∀ q, q < 3 + 9 * N3 → J' 15 q = rfO (sOq f n b t q)) → Q none (sh2, J', L, F))
    (hbad : (∃ q, q < 3 + 9 * N3 ∧ ¬ sGq f n b t N0 (N0 / N1 * N2) N4 tk q) → ∀ J', rfN I J' → J' 0 3 = 10 → Q none (sh2, J', L, F)) : XM xE0 (d + 3) 49 [.ref 0] (sh2, I, L, F) Q := by
  have hdiv : N0 / N1 ≤ 16 := Nat.le_trans (Nat.div_le_self _ _) b0
  have hkv : N0 / N1 * N2 ≤ 64 := by
    have := Nat.mul_le_mul hdiv b2
    omega
  have ekv : I 10 0 / I 10 1 * I 10 2 = nI (N0 / N1 * N2) := by
    rw [e0, e1, e2, pk_div (by omega) (by omega) (by omega), nI_mul]
  refine XC.block [30] 60 ?_
  refine And.intro (rf_in (j := 0) rfl (by decide) (by decide)) ?_
  refine And.intro (rf_in (j := 1) rfl (by decide) (by decide)) ?_
  refine And.intro (show ¬ I 10 1 = 0 by rw [e1]; exact nI_ne0 b1 (by omega)) ?_
  refine And.intro (rf_in (j := 2) rfl (by decide) (by decide)) ?_
  refine And.intro (rf_in (j := 4) rfl (by decide) (by decide)) ?_
  have H0 : rfH f n b t N0 (N0 / N1 * N2) N4 tk 0 I := ⟨fun p hp => absurd hp (by omega), Or.inl ⟨h03, fun p hp => absurd hp (by omega)⟩⟩
  have go : ∀ d1 d2 d3, d1 = nI N0 → d2 = nI (N0 / N1 * N2) → d3 = nI N4 → XC xE0 (d + 3) xM_49 (30, [some (.ref 0), some (.int d1), some (.int d2), some (.int d3), none, none, none, none], [], (sh2, I, L, F)) Q := by
    intro d1 d2 d3 g1 g2 g3
    refine XC.block [44] 60 ?_
    refine rf_nq hG hF hU rfN.rf (qq := 0) (m := 5) (cc := N0) (rr := tk) H0 (by decide) rfl (by decide) rfW_n0 rfl rfl g1 (by omega) e22 (by omega) rfl (fun J1 D1 H1 => ?_)
    refine XC.block [55] 60 ?_
    refine rf_nq hG hF hU D1 (qq := 1) (m := 4) (cc := N0) (rr := 1) H1 (by decide) rfl (by decide) rfW_n1 rfl rfl g1 (by omega) rfl (by omega) rfl (fun J2 D2 H2 => ?_)
    refine XC.block [69] 60 ?_
    refine rf_nq hG hF hU D2 (qq := 2) (m := 3) (cc := N0) (rr := tk) H2 (by decide) rfl (by decide) rfW_n2 rfl rfl g1 (by omega) ((D2 0 22 (by omega) (by decide)).trans e22) (by omega) rfl (fun J3 D3 H3 => ?_)
    refine XC.block [72] 60 ?_
    refine rf_sh72 (I := I) hG hF hU (ly := N3) b3 e3 g1 g2 g3 (by omega) (by omega) (by omega) (fun q J' hq hq0 D' H' => ?_) N3 0 (by omega) J3 D3 H3 _ _ _ rfl
    rcases H'.2 with y | y
    · have := hq0 y.1
      subst this
      exact hok y.2 J' D' y.1 H'.1
    · obtain ⟨p, hp, w⟩ := y.2
      exact hbad ⟨p, by omega, w⟩ J' D' y.1
  exact go _ _ _ e0 ekv e4
end RFS
