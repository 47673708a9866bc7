/-! the class on paper: all weights -/
/-- the weight j of TENSOR i, as the class makes it -/
def clWv (f : Nat → Nat) (p l : Nat) : UInt32 := FP.fmul (FP.i2f (nI (f (p + l / 8 * 10 + 2 + l % 8))).toInt8.toInt32) (clRe (nI (sNum f (p + l / 8 * 10) 2)))
def clWf (f : Nat → Nat) (p l : Nat) : UInt32 := FP.fmul (FP.i2f ((if l % 8 < 4 then nI (f (p + l / 8 * 6 + 2 + l % 8 % 4)) &&& 15 else nI (f (p + l / 8 * 6 + 2 + l % 8 % 4)) >>> ((4 : Int32) &&& 31)) - 8)) (clRe (nI (sNum f (p + l / 8 * 6) 2)))
def clWh (f : Nat → Nat) (p l : Nat) : UInt32 := clRe (nI (sNum f (p + 2 * l) 2))
def clWg (f : Nat → Nat) (n b B i j : Nat) : UInt32 := if sPk f n b i = 0 then clWh f (B + sOf f n b i) j else if sPk f n b i = 1 then clWf f (B + sOf f n b i) j else clWv f (B + sOf f n b i) j
def clMo (f : Nat → Nat) (n b i : Nat) : UInt32 := if sPk f n b i = 0 then 1098907648 else 1065353216
def clWt (f : Nat → Nat) (n b B i : Nat) : Prop := ∀ s, s < sBk f n b i → clWi (nI (sNum f (B + sOf f n b i + sSt f n b i * s) 2)) (clMo f n b i)
theorem clWv_at {f : Nat → Nat} {p g i : Nat} (hi : i < 8) : clWv f p (8 * g + i) = FP.fmul (FP.i2f (nI (f (p + 10 * g + 2 + i))).toInt8.toInt32) (clRe (nI (sNum f (p + 10 * g) 2))) := by
  unfold clWv
  rw [show (8 * g + i) / 8 = g by omega, show (8 * g + i) % 8 = i by omega, Nat.mul_comm g]
theorem clWf_at {f : Nat → Nat} {p g i : Nat} (hi : i < 4) : clWf f p (8 * g + i) = FP.fmul (FP.i2f ((nI (f (p + 6 * g + 2 + i)) &&& 15) - 8)) (clRe (nI (sNum f (p + 6 * g) 2))) ∧ clWf f p (8 * g + i + 4) = FP.fmul (FP.i2f ((nI (f (p + 6 * g + 2 + i)) >>> ((4 : Int32) &&& 31)) - 8)) (clRe (nI (sNum f (p + 6 * g) 2))) := by
  refine ⟨?_, ?_⟩
  · unfold clWf
    rw [show (8 * g + i) / 8 = g by omega, show (8 * g + i) % 8 = i by omega, show i % 4 = i by omega, if_pos (by omega), Nat.mul_comm g]
  · unfold clWf
    rw [show (8 * g + i + 4) / 8 = g by omega, show (8 * g + i + 4) % 8 = i + 4 by omega, show (i + 4) % 4 = i by omega, if_neg (by omega), Nat.mul_comm g]
section CLS_a
variable {X : List (Option Nat)} {T : List xS} {f : Nat → Nat} {n b t k : Nat} {I J : Nat → Nat → Int32} {L : Nat → Nat → Int64} {F G : Nat → Nat → UInt32} {d : Nat} {Q : xP}
theorem cl_up_f_a (hG : rfG f n) (hF : clF f n I) {s C K i p : Nat} (hC : C = 8 * K) (hs : s + C ≤ 1866) (hp : p + 6 * K ≤ n) (hi : i < 24) {ii pp pk cc sz : Int32} (hii : ii = nI i) (hpp : pp = nI p) (hcc : cc = nI C) (hpk : pk = nI 1) (hsz : sz = nI 6) (hst : I 46 i = nI s)
    (hok : (∀ l, l < K → clWi (nI (sNum f (p + 6 * l) 2)) 1065353216) → ∀ G', clG_a s C F G' → (∀ l, l < C → G' 50 (s + l) = clWf f p l) → Q (some (.int 1)) (shG X (md1 T), I, L, G'))
    (hbad : (∃ l, l < K ∧ ¬ clWi (nI (sNum f (p + 6 * l) 2)) 1065353216) → ∀ G', clG_a s C F G' → Q (some (.int 0)) (shG X (md1 T), I, L, G')) :
    ∀ (u g : Nat), g + u = K → ∀ G, clG_a s C F G → (∀ l, l < 8 * g → G 50 (s + l) = clWf f p l) → (∀ l, l < g → clWi (nI (sNum f (p + 6 * l) 2)) 1065353216) → ∀ x y8 y9, x = nI g → XC xE0 (d + 3) xM_108 (84, [some (.ref 14), some (.ref 45), some (.int ii), some (.int pp), some (.int pk), some (.int cc), some (.int sz), some (.int x), y8, y9], [], (shG X (md1 T), I, L, G)) Q := by
  have hn := hG.2
  have e8 : cc / 8 = nI K := by
    rw [hcc, show (8 : Int32) = nI 8 from rfl, pk_div (by omega) (by omega) (by omega), hC, Nat.mul_div_cancel_left _ (by decide)]
  have ei : ii.toNatClampNeg = i := by rw [hii, nI_clamp (by omega)]
  have vin : vp_in ii 24 := rf_in hii (by omega) (by decide)
  intro u
  induction u with
  | zero =>
    intro g hg G D hv hw x y8 y9 hx
    have : g = K := by omega
    subst this
    refine XC.block [84] 60 ?_
    refine And.intro (show ¬ (8 : Int32) = 0 by decide) ?_
    exact And.intro (fun _ => ⟨(show (1 : Int32) &&& 1 = 1 by decide), hok hw G D (fun l hl => hv l (by omega))⟩) (fun z => absurd (show cc / 8 ≤ x by rw [e8, hx]; exact nI_le (by omega) (by omega)) z)
  | succ u ih =>
    intro g hg G D hv hw x y8 y9 hx
    have gK : g < K := by omega
    have i1 : g + 1 + u = K := by omega
    have hx1 : x + 1 = nI (g + 1) := by rw [hx, nI_1]
    have e1 : pp + x * sz = nI (p + 6 * g) := by rw [hpp, hx, hsz, nI_mul, nI_add, Nat.mul_comm g]
    have e2 : pp + x * sz + 2 = nI (p + 6 * g + 2) := by rw [e1, show (2 : Int32) = nI 2 from rfl, nI_add]
    have e3 : I 46 ii.toNatClampNeg + x * 8 = nI (s + 8 * g) := by rw [ei, hst, hx, show (8 : Int32) = nI 8 from rfl, nI_mul, nI_add, Nat.mul_comm g]
    have b1 : s + 8 * g + 8 ≤ 1866 := by omega
    have b2 : p + 6 * g + 2 + 4 ≤ n := by omega
    have b3 : p + 6 * g + 2 ≤ n := by omega
    have hw2 : clWi (nI (sNum f (p + 6 * g) 2)) 1065353216 → ∀ l, l < g + 1 → clWi (nI (sNum f (p + 6 * l) 2)) 1065353216 := by
      intro h l hl
      rcases Nat.lt_or_ge l g with y | y
      · exact hw l y
      · have : l = g := by omega
        subst this
        exact h
    have D2 : ∀ G', clG_a (s + 8 * g) 8 G G' → clG_a s C F G' := fun G' a b k hb => (a b k (fun e => hb ⟨e.1, by omega, by omega⟩)).trans (D b k hb)
    have hv2 : ∀ G', clG_a (s + 8 * g) 8 G G' → (∀ i, i < 4 → G' 50 (s + 8 * g + i) = FP.fmul (FP.i2f ((nI (f (p + 6 * g + 2 + i)) &&& 15) - 8)) (clRe (nI (sNum f (p + 6 * g) 2))) ∧ G' 50 (s + 8 * g + i + 4) = FP.fmul (FP.i2f ((nI (f (p + 6 * g + 2 + i)) >>> ((4 : Int32) &&& 31)) - 8)) (clRe (nI (sNum f (p + 6 * g) 2)))) → ∀ l, l < 8 * (g + 1) → G' 50 (s + l) = clWf f p l := by
      intro G' a hv' l hl
      rcases Nat.lt_or_ge l (8 * g) with y | y
      · rw [a 50 (s + l) (by omega)]; exact hv l y
      · obtain ⟨j, rfl⟩ : ∃ j, l = 8 * g + j := ⟨l - 8 * g, by omega⟩
        rcases Nat.lt_or_ge j 4 with y4 | y4
        · rw [(clWf_at y4).1, ← Nat.add_assoc]; exact (hv' j y4).1
        · obtain ⟨m, rfl⟩ : ∃ m, j = m + 4 := ⟨j - 4, by omega⟩
          have m4 : m < 4 := by omega
          rw [show s + (8 * g + (m + 4)) = s + 8 * g + m + 4 by omega, show 8 * g + (m + 4) = 8 * g + m + 4 by omega, (clWf_at m4).2]; exact (hv' m m4).2
    have c116 : ∀ h, h = nI (sNum f (p + 6 * g) 2) → XC xE0 (d + 3) xM_108 (116, [some (.ref 14), some (.ref 45), some (.int ii), some (.int pp), some (.int pk), some (.int cc), some (.int sz), some (.int x), some (.int (pp + x * sz)), some (.int h)], [], (shG X (md1 T), I, L, G)) Q := by
      intro h hh
      subst hh
      subst hpk
      refine XC.block [127] 60 ?_
      refine cl_isWithin (fun w => ?_) (fun w => ?_)
      · refine And.intro (fun _ => ?_) (fun z => absurd (show ¬ (1 : Int32) = 0 by decide) z)
        refine XC.block [84] 60 ?_
        refine And.intro (fun z => absurd (show nI 1 = 1 from rfl) z) (fun _ => ?_)
        refine And.intro vin ?_
        refine cl_realOf ?_
        refine cl_uf_a hG hF b1 b2 (clRe_fin _) e3 e2 (fun G' a hv' => ?_)
        exact ih (g + 1) i1 G' (D2 G' a) (hv2 G' a hv') (hw2 w) _ _ _ hx1
      · exact And.intro (fun z => absurd (show (0 : Int32) = 0 from rfl) z) (fun _ => ⟨(show (0 : Int32) &&& 1 = 0 by decide), hbad ⟨g, gK, w⟩ G D⟩)
    refine XC.block [116] 60 ?_
    refine And.intro (show ¬ (8 : Int32) = 0 by decide) ?_
    refine And.intro (fun z => absurd (show cc / 8 ≤ x from z) (by rw [e8, hx]; exact nI_ge (by omega) (by omega))) (fun _ => ?_)
    refine cl_number hF hG (p := p + 6 * g) (k := 2) (by decide) b3 e1 rfl (fun v hv' => ?_)
    exact c116 _ (show v.toInt32 = _ by rw [hv', lN_i])
theorem cl_up_e_a (hG : rfG f n) (hF : clF f n I) {s C K i p : Nat} (hC : C = 8 * K) (hs : s + C ≤ 1866) (hp : p + 10 * K ≤ n) (hi : i < 24) {ii pp pk cc sz : Int32} (hii : ii = nI i) (hpp : pp = nI p) (hcc : cc = nI C) (hpk : pk = nI 2) (hsz : sz = nI 10) (hst : I 46 i = nI s)
    (hok : (∀ l, l < K → clWi (nI (sNum f (p + 10 * l) 2)) 1065353216) → ∀ G', clG_a s C F G' → (∀ l, l < C → G' 50 (s + l) = clWv f p l) → Q (some (.int 1)) (shG X (md1 T), I, L, G'))
    (hbad : (∃ l, l < K ∧ ¬ clWi (nI (sNum f (p + 10 * l) 2)) 1065353216) → ∀ G', clG_a s C F G' → Q (some (.int 0)) (shG X (md1 T), I, L, G')) :
    ∀ (u g : Nat), g + u = K → ∀ G, clG_a s C F G → (∀ l, l < 8 * g → G 50 (s + l) = clWv f p l) → (∀ l, l < g → clWi (nI (sNum f (p + 10 * l) 2)) 1065353216) → ∀ x y8 y9, x = nI g → XC xE0 (d + 3) xM_108 (84, [some (.ref 14), some (.ref 45), some (.int ii), some (.int pp), some (.int pk), some (.int cc), some (.int sz), some (.int x), y8, y9], [], (shG X (md1 T), I, L, G)) Q := by
  have hn := hG.2
  have e8 : cc / 8 = nI K := by
    rw [hcc, show (8 : Int32) = nI 8 from rfl, pk_div (by omega) (by omega) (by omega), hC, Nat.mul_div_cancel_left _ (by decide)]
  have ei : ii.toNatClampNeg = i := by rw [hii, nI_clamp (by omega)]
  have vin : vp_in ii 24 := rf_in hii (by omega) (by decide)
  intro u
  induction u with
  | zero =>
    intro g hg G D hv hw x y8 y9 hx
    have : g = K := by omega
    subst this
    refine XC.block [84] 60 ?_
    refine And.intro (show ¬ (8 : Int32) = 0 by decide) ?_
    exact And.intro (fun _ => ⟨(show (1 : Int32) &&& 1 = 1 by decide), hok hw G D (fun l hl => hv l (by omega))⟩) (fun z => absurd (show cc / 8 ≤ x by rw [e8, hx]; exact nI_le (by omega) (by omega)) z)
  | succ u ih =>
    intro g hg G D hv hw x y8 y9 hx
    have gK : g < K := by omega
    have i1 : g + 1 + u = K := by omega
    have hx1 : x + 1 = nI (g + 1) := by rw [hx, nI_1]
    have e1 : pp + x * sz = nI (p + 10 * g) := by rw [hpp, hx, hsz, nI_mul, nI_add, Nat.mul_comm g]
    have e2 : pp + x * sz + 2 = nI (p + 10 * g + 2) := by rw [e1, show (2 : Int32) = nI 2 from rfl, nI_add]
    have e3 : I 46 ii.toNatClampNeg + x * 8 = nI (s + 8 * g) := by rw [ei, hst, hx, show (8 : Int32) = nI 8 from rfl, nI_mul, nI_add, Nat.mul_comm g]
    have b1 : s + 8 * g + 8 ≤ 1866 := by omega
    have b2 : p + 10 * g + 2 + 8 ≤ n := by omega
    have b3 : p + 10 * g + 2 ≤ n := by omega
    have hw2 : clWi (nI (sNum f (p + 10 * g) 2)) 1065353216 → ∀ l, l < g + 1 → clWi (nI (sNum f (p + 10 * l) 2)) 1065353216 := by
      intro h l hl
      rcases Nat.lt_or_ge l g with y | y
      · exact hw l y
      · have : l = g := by omega
        subst this
        exact h
    have D2 : ∀ G', clG_a (s + 8 * g) 8 G G' → clG_a s C F G' := fun G' a b k hb => (a b k (fun e => hb ⟨e.1, by omega, by omega⟩)).trans (D b k hb)
    have hv2 : ∀ G', clG_a (s + 8 * g) 8 G G' → (∀ i, i < 8 → G' 50 (s + 8 * g + i) = FP.fmul (FP.i2f (nI (f (p + 10 * g + 2 + i))).toInt8.toInt32) (clRe (nI (sNum f (p + 10 * g) 2)))) → ∀ l, l < 8 * (g + 1) → G' 50 (s + l) = clWv f p l := by
      intro G' a hv' l hl
      rcases Nat.lt_or_ge l (8 * g) with y | y
      · rw [a 50 (s + l) (by omega)]; exact hv l y
      · obtain ⟨j, rfl⟩ : ∃ j, l = 8 * g + j := ⟨l - 8 * g, by omega⟩
        have j8 : j < 8 := by omega
        rw [clWv_at j8, ← Nat.add_assoc]; exact hv' j j8
    have c116 : ∀ h, h = nI (sNum f (p + 10 * g) 2) → XC xE0 (d + 3) xM_108 (116, [some (.ref 14), some (.ref 45), some (.int ii), some (.int pp), some (.int pk), some (.int cc), some (.int sz), some (.int x), some (.int (pp + x * sz)), some (.int h)], [], (shG X (md1 T), I, L, G)) Q := by
      intro h hh
      subst hh
      subst hpk
      refine XC.block [127] 60 ?_
      refine cl_isWithin (fun w => ?_) (fun w => ?_)
      · refine And.intro (fun _ => ?_) (fun z => absurd (show ¬ (1 : Int32) = 0 by decide) z)
        refine XC.block [84] 60 ?_
        refine And.intro (fun _ => ?_) (fun z => absurd (show ¬ nI 2 = 1 by decide) z)
        refine And.intro vin ?_
        refine cl_realOf ?_
        refine cl_ue_a hG hF b1 b2 (clRe_fin _) e3 e2 (fun G' a hv' => ?_)
        exact ih (g + 1) i1 G' (D2 G' a) (hv2 G' a hv') (hw2 w) _ _ _ hx1
      · exact And.intro (fun z => absurd (show (0 : Int32) = 0 from rfl) z) (fun _ => ⟨(show (0 : Int32) &&& 1 = 0 by decide), hbad ⟨g, gK, w⟩ G D⟩)
    refine XC.block [116] 60 ?_
    refine And.intro (show ¬ (8 : Int32) = 0 by decide) ?_
    refine And.intro (fun z => absurd (show cc / 8 ≤ x from z) (by rw [e8, hx]; exact nI_ge (by omega) (by omega))) (fun _ => ?_)
    refine cl_number hF hG (p := p + 10 * g) (k := 2) (by decide) b3 e1 rfl (fun v hv' => ?_)
    exact c116 _ (show v.toInt32 = _ by rw [hv', lN_i])
theorem cl_unpack_a (hG : rfG f n) (hF : clF f n I) (hU : clU f n b t I) (hC : clCR_a f n b t I) {i s B : Nat} (hi : i < t) (hst : I 46 i = nI s) (hs : s + sCo f n b i * sRo f n b i ≤ 1866) (hp : B + (sOf f n b i + sOc f n b i) ≤ n) {ii pp : Int32} (hii : ii = nI i) (hpp : pp = nI (B + sOf f n b i))
    (hok : clWt f n b B i → ∀ G', clG_a s (sCo f n b i * sRo f n b i) F G' → (∀ l, l < sCo f n b i * sRo f n b i → G' 50 (s + l) = clWg f n b B i l) → Q (some (.int 1)) (shG X (md1 T), I, L, G'))
    (hbad : ¬ clWt f n b B i → ∀ G', clG_a s (sCo f n b i * sRo f n b i) F G' → Q (some (.int 0)) (shG X (md1 T), I, L, G')) : XM xE0 (d + 3) 108 [.ref 14, .ref 45, .int ii, .int pp] (shG X (md1 T), I, L, F) Q := by
  have hn := hG.2
  have ht := hU.2.1
  obtain ⟨-, ⟨h6, h6a, h6b⟩, ⟨h7, h7a, h7b⟩, ⟨h8, h8a, h8b⟩, -⟩ := hU.2.2 i hi
  obtain ⟨c1, c2, -, -⟩ := hC.2 i hi
  have hcr : sCo f n b i * sRo f n b i ≤ 256 := Nat.mul_le_mul h6b h7b
  have ek : ii.toNatClampNeg = i := by rw [hii, nI_clamp (by omega)]
  have vin : vp_in ii 24 := rf_in hii (by omega) (by decide)
  have e6 : I 47 ii.toNatClampNeg * I 48 ii.toNatClampNeg = nI (sCo f n b i * sRo f n b i) := by rw [ek, c1, c2, nI_mul]
  have e8 : I 12 ii.toNatClampNeg = nI (sPk f n b i) := by rw [ek]; exact h8
  have es : I 46 ii.toNatClampNeg = nI s := by rw [ek]; exact hst
  have eB : sPk f n b i ≠ 0 → sCo f n b i * sRo f n b i = 8 * sBk f n b i := by
    intro z
    have h88 := h8b (by omega)
    have : sCo f n b i = 8 * (sCo f n b i / 8) := by omega
    unfold sBk
    rw [if_neg z]
    conv => lhs; rw [this]
    rw [Nat.mul_comm (sRo f n b i), Nat.mul_assoc]
  have c43 : ∀ pk cc, pk = nI (sPk f n b i) → cc = nI (sCo f n b i * sRo f n b i) → XC xE0 (d + 3) xM_108 (43, [some (.ref 14), some (.ref 45), some (.int ii), some (.int pp), some (.int pk), some (.int cc), none, none, none, none], [], (shG X (md1 T), I, L, F)) Q := by
    intro pk cc hpk hcc
    have c66 : sPk f n b i ≠ 0 → XC xE0 (d + 3) xM_108 (66, [some (.ref 14), some (.ref 45), some (.int ii), some (.int pp), some (.int pk), some (.int cc), none, none, none, none], [], (shG X (md1 T), I, L, F)) Q := by
      intro z
      have eK := eB z
      have m0 : clMo f n b i = 1065353216 := if_neg z
      rcases Nat.lt_or_ge (sPk f n b i) 2 with y | y
      · have p1 : sPk f n b i = 1 := by omega
        have eS : sSt f n b i = 6 := by unfold sSt; rw [if_neg z, if_pos p1]
        have hp6 : B + sOf f n b i + 6 * sBk f n b i ≤ n := by
          have : sOc f n b i = 6 * sBk f n b i := by unfold sOc; rw [eS]
          omega
        have eT : clWt f n b B i ↔ ∀ l, l < sBk f n b i → clWi (nI (sNum f (B + sOf f n b i + 6 * l) 2)) 1065353216 := by unfold clWt; rw [eS, m0]
        have eV : ∀ l, clWg f n b B i l = clWf f (B + sOf f n b i) l := fun l => by unfold clWg; rw [if_neg z, if_pos p1]
        have ep : pk = nI 1 := by rw [hpk, p1]
        have ep' : pk = 1 := ep
        refine XC.block [84] 60 ?_
        refine And.intro (fun w => absurd ep' w) (fun _ => ?_)
        exact cl_up_f_a hG hF eK hs hp6 (by omega) hii hpp hcc ep rfl hst (fun w G' D hv => hok (eT.mpr w) G' D (fun l hl => (hv l hl).trans (eV l).symm)) (fun ⟨l, hl, w⟩ G' D => hbad (fun q => w (eT.mp q l hl)) G' D) (sBk f n b i) 0 (Nat.zero_add _) F (fun _ _ _ => rfl) (fun l hl => absurd hl (Nat.not_lt_zero _)) (fun l hl => absurd hl (Nat.not_lt_zero _)) _ _ _ rfl
      · have p2 : sPk f n b i = 2 := by omega
        have p1 : ¬ sPk f n b i = 1 := by omega
        have eS : sSt f n b i = 10 := by unfold sSt; rw [if_neg z, if_neg p1]
        have hp6 : B + sOf f n b i + 10 * sBk f n b i ≤ n := by
          have : sOc f n b i = 10 * sBk f n b i := by unfold sOc; rw [eS]
          omega
        have eT : clWt f n b B i ↔ ∀ l, l < sBk f n b i → clWi (nI (sNum f (B + sOf f n b i + 10 * l) 2)) 1065353216 := by unfold clWt; rw [eS, m0]
        have eV : ∀ l, clWg f n b B i l = clWv f (B + sOf f n b i) l := fun l => by unfold clWg; rw [if_neg z, if_neg p1]
        have ep : pk = nI 2 := by rw [hpk, p2]
        have ep' : ¬ pk = 1 := by rw [ep]; decide
        refine XC.block [84] 60 ?_
        refine And.intro (fun _ => ?_) (fun w => absurd ep' w)
        exact cl_up_e_a hG hF eK hs hp6 (by omega) hii hpp hcc ep rfl hst (fun w G' D hv => hok (eT.mpr w) G' D (fun l hl => (hv l hl).trans (eV l).symm)) (fun ⟨l, hl, w⟩ G' D => hbad (fun q => w (eT.mp q l hl)) G' D) (sBk f n b i) 0 (Nat.zero_add _) F (fun _ _ _ => rfl) (fun l hl => absurd hl (Nat.not_lt_zero _)) (fun l hl => absurd hl (Nat.not_lt_zero _)) _ _ _ rfl
    have ez : pk = 0 ↔ sPk f n b i = 0 := by rw [hpk, show (0 : Int32) = nI 0 from rfl, nI_eq (by omega) (by omega)]
    have h0 : sPk f n b i = 0 → sBk f n b i = sCo f n b i * sRo f n b i ∧ sSt f n b i = 2 ∧ clMo f n b i = 1098907648 ∧ B + sOf f n b i + 2 * (sCo f n b i * sRo f n b i) ≤ n ∧ ∀ l, clWg f n b B i l = clRe (nI (sNum f (B + sOf f n b i + 2 * l) 2)) := by
      intro z
      have q1 : sBk f n b i = sCo f n b i * sRo f n b i := by unfold sBk; rw [if_pos z, Nat.mul_comm]
      have q2 : sSt f n b i = 2 := if_pos z
      have q3 : sOc f n b i = 2 * (sCo f n b i * sRo f n b i) := by unfold sOc; rw [q1, q2]
      exact ⟨q1, q2, if_pos z, by omega, fun l => by unfold clWg; rw [if_pos z]; rfl⟩
    refine XC.block [66] 60 ?_
    refine And.intro (fun w => c66 (fun z => w (ez.mpr z))) (fun w => ?_)
    refine And.intro vin ?_
    have w0 := h0 (ez.mp (Classical.not_not.mp w))
    have eT : clWt f n b B i ↔ ∀ l, l < sCo f n b i * sRo f n b i → clWi (nI (sNum f (B + sOf f n b i + 2 * l) 2)) 1098907648 := by unfold clWt; rw [w0.1, w0.2.1, w0.2.2.1]
    refine cl_uh_a hG hF hs w0.2.2.2.1 es hcc hpp (fun q G' D hv => ?_) (fun ⟨l, hl, q⟩ G' D => ?_)
    · exact ⟨(show (1 : Int32) &&& 1 = 1 by decide), hok (eT.mpr q) G' D (fun l hl => (hv l hl).trans (w0.2.2.2.2 l).symm)⟩
    · exact ⟨(show (0 : Int32) &&& 1 = 0 by decide), hbad (fun z => q (eT.mp z l hl)) G' D⟩
  have nle : ¬ ¬ (I 46 ii.toNatClampNeg + I 47 ii.toNatClampNeg * I 48 ii.toNatClampNeg ≤ 1866) := by
    rw [es, e6, nI_add, show (1866 : Int32) = nI 1866 from rfl]
    exact Classical.not_not.mpr (nI_le (by omega) (by omega))
  refine XC.block [43] 60 ?_
  refine And.intro vin ?_
  refine And.intro vin ?_
  refine And.intro vin ?_
  refine And.intro vin ?_
  exact And.intro (fun _ => c43 _ _ e8 e6) (fun z => absurd z nle)
end CLS_a
section CLS_b
variable {X : List (Option Nat)} {T : List xS} {f : Nat → Nat} {n b t k : Nat} {I J : Nat → Nat → Int32} {L : Nat → Nat → Int64} {F G : Nat → Nat → UInt32} {d : Nat} {Q : xP}
theorem cl_up_f_b (hG : rfG f n) (hF : clF f n I) {s C K i p : Nat} (hC : C = 8 * K) (hs : s + C ≤ 1866) (hp : p + 6 * K ≤ n) (hi : i < 24) {ii pp pk cc sz : Int32} (hii : ii = nI i) (hpp : pp = nI p) (hcc : cc = nI C) (hpk : pk = nI 1) (hsz : sz = nI 6) (hst : I 59 i = nI s)
    (hok : (∀ l, l < K → clWi (nI (sNum f (p + 6 * l) 2)) 1065353216) → ∀ G', clG_b s C F G' → (∀ l, l < C → G' 63 (s + l) = clWf f p l) → Q (some (.int 1)) (shG X (md2 T), I, L, G'))
    (hbad : (∃ l, l < K ∧ ¬ clWi (nI (sNum f (p + 6 * l) 2)) 1065353216) → ∀ G', clG_b s C F G' → Q (some (.int 0)) (shG X (md2 T), I, L, G')) :
    ∀ (u g : Nat), g + u = K → ∀ G, clG_b s C F G → (∀ l, l < 8 * g → G 63 (s + l) = clWf f p l) → (∀ l, l < g → clWi (nI (sNum f (p + 6 * l) 2)) 1065353216) → ∀ x y8 y9, x = nI g → XC xE0 (d + 3) xM_108 (84, [some (.ref 14), some (.ref 58), some (.int ii), some (.int pp), some (.int pk), some (.int cc), some (.int sz), some (.int x), y8, y9], [], (shG X (md2 T), I, L, G)) Q := by
  have hn := hG.2
  have e8 : cc / 8 = nI K := by
    rw [hcc, show (8 : Int32) = nI 8 from rfl, pk_div (by omega) (by omega) (by omega), hC, Nat.mul_div_cancel_left _ (by decide)]
  have ei : ii.toNatClampNeg = i := by rw [hii, nI_clamp (by omega)]
  have vin : vp_in ii 24 := rf_in hii (by omega) (by decide)
  intro u
  induction u with
  | zero =>
    intro g hg G D hv hw x y8 y9 hx
    have : g = K := by omega
    subst this
    refine XC.block [84] 60 ?_
    refine And.intro (show ¬ (8 : Int32) = 0 by decide) ?_
    exact And.intro (fun _ => ⟨(show (1 : Int32) &&& 1 = 1 by decide), hok hw G D (fun l hl => hv l (by omega))⟩) (fun z => absurd (show cc / 8 ≤ x by rw [e8, hx]; exact nI_le (by omega) (by omega)) z)
  | succ u ih =>
    intro g hg G D hv hw x y8 y9 hx
    have gK : g < K := by omega
    have i1 : g + 1 + u = K := by omega
    have hx1 : x + 1 = nI (g + 1) := by rw [hx, nI_1]
    have e1 : pp + x * sz = nI (p + 6 * g) := by rw [hpp, hx, hsz, nI_mul, nI_add, Nat.mul_comm g]
    have e2 : pp + x * sz + 2 = nI (p + 6 * g + 2) := by rw [e1, show (2 : Int32) = nI 2 from rfl, nI_add]
    have e3 : I 59 ii.toNatClampNeg + x * 8 = nI (s + 8 * g) := by rw [ei, hst, hx, show (8 : Int32) = nI 8 from rfl, nI_mul, nI_add, Nat.mul_comm g]
    have b1 : s + 8 * g + 8 ≤ 1866 := by omega
    have b2 : p + 6 * g + 2 + 4 ≤ n := by omega
    have b3 : p + 6 * g + 2 ≤ n := by omega
    have hw2 : clWi (nI (sNum f (p + 6 * g) 2)) 1065353216 → ∀ l, l < g + 1 → clWi (nI (sNum f (p + 6 * l) 2)) 1065353216 := by
      intro h l hl
      rcases Nat.lt_or_ge l g with y | y
      · exact hw l y
      · have : l = g := by omega
        subst this
        exact h
    have D2 : ∀ G', clG_b (s + 8 * g) 8 G G' → clG_b s C F G' := fun G' a b k hb => (a b k (fun e => hb ⟨e.1, by omega, by omega⟩)).trans (D b k hb)
    have hv2 : ∀ G', clG_b (s + 8 * g) 8 G G' → (∀ i, i < 4 → G' 63 (s + 8 * g + i) = FP.fmul (FP.i2f ((nI (f (p + 6 * g + 2 + i)) &&& 15) - 8)) (clRe (nI (sNum f (p + 6 * g) 2))) ∧ G' 63 (s + 8 * g + i + 4) = FP.fmul (FP.i2f ((nI (f (p + 6 * g + 2 + i)) >>> ((4 : Int32) &&& 31)) - 8)) (clRe (nI (sNum f (p + 6 * g) 2)))) → ∀ l, l < 8 * (g + 1) → G' 63 (s + l) = clWf f p l := by
      intro G' a hv' l hl
      rcases Nat.lt_or_ge l (8 * g) with y | y
      · rw [a 63 (s + l) (by omega)]; exact hv l y
      · obtain ⟨j, rfl⟩ : ∃ j, l = 8 * g + j := ⟨l - 8 * g, by omega⟩
        rcases Nat.lt_or_ge j 4 with y4 | y4
        · rw [(clWf_at y4).1, ← Nat.add_assoc]; exact (hv' j y4).1
        · obtain ⟨m, rfl⟩ : ∃ m, j = m + 4 := ⟨j - 4, by omega⟩
          have m4 : m < 4 := by omega
          rw [show s + (8 * g + (m + 4)) = s + 8 * g + m + 4 by omega, show 8 * g + (m + 4) = 8 * g + m + 4 by omega, (clWf_at m4).2]; exact (hv' m m4).2
    have c116 : ∀ h, h = nI (sNum f (p + 6 * g) 2) → XC xE0 (d + 3) xM_108 (116, [some (.ref 14), some (.ref 58), some (.int ii), some (.int pp), some (.int pk), some (.int cc), some (.int sz), some (.int x), some (.int (pp + x * sz)), some (.int h)], [], (shG X (md2 T), I, L, G)) Q := by
      intro h hh
      subst hh
      subst hpk
      refine XC.block [127] 60 ?_
      refine cl_isWithin (fun w => ?_) (fun w => ?_)
      · refine And.intro (fun _ => ?_) (fun z => absurd (show ¬ (1 : Int32) = 0 by decide) z)
        refine XC.block [84] 60 ?_
        refine And.intro (fun z => absurd (show nI 1 = 1 from rfl) z) (fun _ => ?_)
        refine And.intro vin ?_
        refine cl_realOf ?_
        refine cl_uf_b hG hF b1 b2 (clRe_fin _) e3 e2 (fun G' a hv' => ?_)
        exact ih (g + 1) i1 G' (D2 G' a) (hv2 G' a hv') (hw2 w) _ _ _ hx1
      · exact And.intro (fun z => absurd (show (0 : Int32) = 0 from rfl) z) (fun _ => ⟨(show (0 : Int32) &&& 1 = 0 by decide), hbad ⟨g, gK, w⟩ G D⟩)
    refine XC.block [116] 60 ?_
    refine And.intro (show ¬ (8 : Int32) = 0 by decide) ?_
    refine And.intro (fun z => absurd (show cc / 8 ≤ x from z) (by rw [e8, hx]; exact nI_ge (by omega) (by omega))) (fun _ => ?_)
    refine cl_number hF hG (p := p + 6 * g) (k := 2) (by decide) b3 e1 rfl (fun v hv' => ?_)
    exact c116 _ (show v.toInt32 = _ by rw [hv', lN_i])
theorem cl_up_e_b (hG : rfG f n) (hF : clF f n I) {s C K i p : Nat} (hC : C = 8 * K) (hs : s + C ≤ 1866) (hp : p + 10 * K ≤ n) (hi : i < 24) {ii pp pk cc sz : Int32} (hii : ii = nI i) (hpp : pp = nI p) (hcc : cc = nI C) (hpk : pk = nI 2) (hsz : sz = nI 10) (hst : I 59 i = nI s)
    (hok : (∀ l, l < K → clWi (nI (sNum f (p + 10 * l) 2)) 1065353216) → ∀ G', clG_b s C F G' → (∀ l, l < C → G' 63 (s + l) = clWv f p l) → Q (some (.int 1)) (shG X (md2 T), I, L, G'))
    (hbad : (∃ l, l < K ∧ ¬ clWi (nI (sNum f (p + 10 * l) 2)) 1065353216) → ∀ G', clG_b s C F G' → Q (some (.int 0)) (shG X (md2 T), I, L, G')) :
    ∀ (u g : Nat), g + u = K → ∀ G, clG_b s C F G → (∀ l, l < 8 * g → G 63 (s + l) = clWv f p l) → (∀ l, l < g → clWi (nI (sNum f (p + 10 * l) 2)) 1065353216) → ∀ x y8 y9, x = nI g → XC xE0 (d + 3) xM_108 (84, [some (.ref 14), some (.ref 58), some (.int ii), some (.int pp), some (.int pk), some (.int cc), some (.int sz), some (.int x), y8, y9], [], (shG X (md2 T), I, L, G)) Q := by
  have hn := hG.2
  have e8 : cc / 8 = nI K := by
    rw [hcc, show (8 : Int32) = nI 8 from rfl, pk_div (by omega) (by omega) (by omega), hC, Nat.mul_div_cancel_left _ (by decide)]
  have ei : ii.toNatClampNeg = i := by rw [hii, nI_clamp (by omega)]
  have vin : vp_in ii 24 := rf_in hii (by omega) (by decide)
  intro u
  induction u with
  | zero =>
    intro g hg G D hv hw x y8 y9 hx
    have : g = K := by omega
    subst this
    refine XC.block [84] 60 ?_
    refine And.intro (show ¬ (8 : Int32) = 0 by decide) ?_
    exact And.intro (fun _ => ⟨(show (1 : Int32) &&& 1 = 1 by decide), hok hw G D (fun l hl => hv l (by omega))⟩) (fun z => absurd (show cc / 8 ≤ x by rw [e8, hx]; exact nI_le (by omega) (by omega)) z)
  | succ u ih =>
    intro g hg G D hv hw x y8 y9 hx
    have gK : g < K := by omega
    have i1 : g + 1 + u = K := by omega
    have hx1 : x + 1 = nI (g + 1) := by rw [hx, nI_1]
    have e1 : pp + x * sz = nI (p + 10 * g) := by rw [hpp, hx, hsz, nI_mul, nI_add, Nat.mul_comm g]
    have e2 : pp + x * sz + 2 = nI (p + 10 * g + 2) := by rw [e1, show (2 : Int32) = nI 2 from rfl, nI_add]
    have e3 : I 59 ii.toNatClampNeg + x * 8 = nI (s + 8 * g) := by rw [ei, hst, hx, show (8 : Int32) = nI 8 from rfl, nI_mul, nI_add, Nat.mul_comm g]
    have b1 : s + 8 * g + 8 ≤ 1866 := by omega
    have b2 : p + 10 * g + 2 + 8 ≤ n := by omega
    have b3 : p + 10 * g + 2 ≤ n := by omega
    have hw2 : clWi (nI (sNum f (p + 10 * g) 2)) 1065353216 → ∀ l, l < g + 1 → clWi (nI (sNum f (p + 10 * l) 2)) 1065353216 := by
      intro h l hl
      rcases Nat.lt_or_ge l g with y | y
      · exact hw l y
      · have : l = g := by omega
        subst this
        exact h
    have D2 : ∀ G', clG_b (s + 8 * g) 8 G G' → clG_b s C F G' := fun G' a b k hb => (a b k (fun e => hb ⟨e.1, by omega, by omega⟩)).trans (D b k hb)
    have hv2 : ∀ G', clG_b (s + 8 * g) 8 G G' → (∀ i, i < 8 → G' 63 (s + 8 * g + i) = FP.fmul (FP.i2f (nI (f (p + 10 * g + 2 + i))).toInt8.toInt32) (clRe (nI (sNum f (p + 10 * g) 2)))) → ∀ l, l < 8 * (g + 1) → G' 63 (s + l) = clWv f p l := by
      intro G' a hv' l hl
      rcases Nat.lt_or_ge l (8 * g) with y | y
      · rw [a 63 (s + l) (by omega)]; exact hv l y
      · obtain ⟨j, rfl⟩ : ∃ j, l = 8 * g + j := ⟨l - 8 * g, by omega⟩
        have j8 : j < 8 := by omega
        rw [clWv_at j8, ← Nat.add_assoc]; exact hv' j j8
    have c116 : ∀ h, h = nI (sNum f (p + 10 * g) 2) → XC xE0 (d + 3) xM_108 (116, [some (.ref 14), some (.ref 58), some (.int ii), some (.int pp), some (.int pk), some (.int cc), some (.int sz), some (.int x), some (.int (pp + x * sz)), some (.int h)], [], (shG X (md2 T), I, L, G)) Q := by
      intro h hh
      subst hh
      subst hpk
      refine XC.block [127] 60 ?_
      refine cl_isWithin (fun w => ?_) (fun w => ?_)
      · refine And.intro (fun _ => ?_) (fun z => absurd (show ¬ (1 : Int32) = 0 by decide) z)
        refine XC.block [84] 60 ?_
        refine And.intro (fun _ => ?_) (fun z => absurd (show ¬ nI 2 = 1 by decide) z)
        refine And.intro vin ?_
        refine cl_realOf ?_
        refine cl_ue_b hG hF b1 b2 (clRe_fin _) e3 e2 (fun G' a hv' => ?_)
        exact ih (g + 1) i1 G' (D2 G' a) (hv2 G' a hv') (hw2 w) _ _ _ hx1
      · exact And.intro (fun z => absurd (show (0 : Int32) = 0 from rfl) z) (fun _ => ⟨(show (0 : Int32) &&& 1 = 0 by decide), hbad ⟨g, gK, w⟩ G D⟩)
    refine XC.block [116] 60 ?_
    refine And.intro (show ¬ (8 : Int32) = 0 by decide) ?_
    refine And.intro (fun z => absurd (show cc / 8 ≤ x from z) (by rw [e8, hx]; exact nI_ge (by omega) (by omega))) (fun _ => ?_)
    refine cl_number hF hG (p := p + 10 * g) (k := 2) (by decide) b3 e1 rfl (fun v hv' => ?_)
    exact c116 _ (show v.toInt32 = _ by rw [hv', lN_i])
theorem cl_unpack_b (hG : rfG f n) (hF : clF f n I) (hU : clU f n b t I) (hC : clCR_b f n b t I) {i s B : Nat} (hi : i < t) (hst : I 59 i = nI s) (hs : s + sCo f n b i * sRo f n b i ≤ 1866) (hp : B + (sOf f n b i + sOc f n b i) ≤ n) {ii pp : Int32} (hii : ii = nI i) (hpp : pp = nI (B + sOf f n b i))
    (hok : clWt f n b B i → ∀ G', clG_b s (sCo f n b i * sRo f n b i) F G' → (∀ l, l < sCo f n b i * sRo f n b i → G' 63 (s + l) = clWg f n b B i l) → Q (some (.int 1)) (shG X (md2 T), I, L, G'))
    (hbad : ¬ clWt f n b B i → ∀ G', clG_b s (sCo f n b i * sRo f n b i) F G' → Q (some (.int 0)) (shG X (md2 T), I, L, G')) : XM xE0 (d + 3) 108 [.ref 14, .ref 58, .int ii, .int pp] (shG X (md2 T), I, L, F) Q := by
  have hn := hG.2
  have ht := hU.2.1
  obtain ⟨-, ⟨h6, h6a, h6b⟩, ⟨h7, h7a, h7b⟩, ⟨h8, h8a, h8b⟩, -⟩ := hU.2.2 i hi
  obtain ⟨c1, c2, -, -⟩ := hC.2 i hi
  have hcr : sCo f n b i * sRo f n b i ≤ 256 := Nat.mul_le_mul h6b h7b
  have ek : ii.toNatClampNeg = i := by rw [hii, nI_clamp (by omega)]
  have vin : vp_in ii 24 := rf_in hii (by omega) (by decide)
  have e6 : I 60 ii.toNatClampNeg * I 61 ii.toNatClampNeg = nI (sCo f n b i * sRo f n b i) := by rw [ek, c1, c2, nI_mul]
  have e8 : I 12 ii.toNatClampNeg = nI (sPk f n b i) := by rw [ek]; exact h8
  have es : I 59 ii.toNatClampNeg = nI s := by rw [ek]; exact hst
  have eB : sPk f n b i ≠ 0 → sCo f n b i * sRo f n b i = 8 * sBk f n b i := by
    intro z
    have h88 := h8b (by omega)
    have : sCo f n b i = 8 * (sCo f n b i / 8) := by omega
    unfold sBk
    rw [if_neg z]
    conv => lhs; rw [this]
    rw [Nat.mul_comm (sRo f n b i), Nat.mul_assoc]
  have c43 : ∀ pk cc, pk = nI (sPk f n b i) → cc = nI (sCo f n b i * sRo f n b i) → XC xE0 (d + 3) xM_108 (43, [some (.ref 14), some (.ref 58), some (.int ii), some (.int pp), some (.int pk), some (.int cc), none, none, none, none], [], (shG X (md2 T), I, L, F)) Q := by
    intro pk cc hpk hcc
    have c66 : sPk f n b i ≠ 0 → XC xE0 (d + 3) xM_108 (66, [some (.ref 14), some (.ref 58), some (.int ii), some (.int pp), some (.int pk), some (.int cc), none, none, none, none], [], (shG X (md2 T), I, L, F)) Q := by
      intro z
      have eK := eB z
      have m0 : clMo f n b i = 1065353216 := if_neg z
      rcases Nat.lt_or_ge (sPk f n b i) 2 with y | y
      · have p1 : sPk f n b i = 1 := by omega
        have eS : sSt f n b i = 6 := by unfold sSt; rw [if_neg z, if_pos p1]
        have hp6 : B + sOf f n b i + 6 * sBk f n b i ≤ n := by
          have : sOc f n b i = 6 * sBk f n b i := by unfold sOc; rw [eS]
          omega
        have eT : clWt f n b B i ↔ ∀ l, l < sBk f n b i → clWi (nI (sNum f (B + sOf f n b i + 6 * l) 2)) 1065353216 := by unfold clWt; rw [eS, m0]
        have eV : ∀ l, clWg f n b B i l = clWf f (B + sOf f n b i) l := fun l => by unfold clWg; rw [if_neg z, if_pos p1]
        have ep : pk = nI 1 := by rw [hpk, p1]
        have ep' : pk = 1 := ep
        refine XC.block [84] 60 ?_
        refine And.intro (fun w => absurd ep' w) (fun _ => ?_)
        exact cl_up_f_b hG hF eK hs hp6 (by omega) hii hpp hcc ep rfl hst (fun w G' D hv => hok (eT.mpr w) G' D (fun l hl => (hv l hl).trans (eV l).symm)) (fun ⟨l, hl, w⟩ G' D => hbad (fun q => w (eT.mp q l hl)) G' D) (sBk f n b i) 0 (Nat.zero_add _) F (fun _ _ _ => rfl) (fun l hl => absurd hl (Nat.not_lt_zero _)) (fun l hl => absurd hl (Nat.not_lt_zero _)) _ _ _ rfl
      · have p2 : sPk f n b i = 2 := by omega
        have p1 : ¬ sPk f n b i = 1 := by omega
        have eS : sSt f n b i = 10 := by unfold sSt; rw [if_neg z, if_neg p1]
        have hp6 : B + sOf f n b i + 10 * sBk f n b i ≤ n := by
          have : sOc f n b i = 10 * sBk f n b i := by unfold sOc; rw [eS]
          omega
        have eT : clWt f n b B i ↔ ∀ l, l < sBk f n b i → clWi (nI (sNum f (B + sOf f n b i + 10 * l) 2)) 1065353216 := by unfold clWt; rw [eS, m0]
        have eV : ∀ l, clWg f n b B i l = clWv f (B + sOf f n b i) l := fun l => by unfold clWg; rw [if_neg z, if_neg p1]
        have ep : pk = nI 2 := by rw [hpk, p2]
        have ep' : ¬ pk = 1 := by rw [ep]; decide
        refine XC.block [84] 60 ?_
        refine And.intro (fun _ => ?_) (fun w => absurd ep' w)
        exact cl_up_e_b hG hF eK hs hp6 (by omega) hii hpp hcc ep rfl hst (fun w G' D hv => hok (eT.mpr w) G' D (fun l hl => (hv l hl).trans (eV l).symm)) (fun ⟨l, hl, w⟩ G' D => hbad (fun q => w (eT.mp q l hl)) G' D) (sBk f n b i) 0 (Nat.zero_add _) F (fun _ _ _ => rfl) (fun l hl => absurd hl (Nat.not_lt_zero _)) (fun l hl => absurd hl (Nat.not_lt_zero _)) _ _ _ rfl
    have ez : pk = 0 ↔ sPk f n b i = 0 := by rw [hpk, show (0 : Int32) = nI 0 from rfl, nI_eq (by omega) (by omega)]
    have h0 : sPk f n b i = 0 → sBk f n b i = sCo f n b i * sRo f n b i ∧ sSt f n b i = 2 ∧ clMo f n b i = 1098907648 ∧ B + sOf f n b i + 2 * (sCo f n b i * sRo f n b i) ≤ n ∧ ∀ l, clWg f n b B i l = clRe (nI (sNum f (B + sOf f n b i + 2 * l) 2)) := by
      intro z
      have q1 : sBk f n b i = sCo f n b i * sRo f n b i := by unfold sBk; rw [if_pos z, Nat.mul_comm]
      have q2 : sSt f n b i = 2 := if_pos z
      have q3 : sOc f n b i = 2 * (sCo f n b i * sRo f n b i) := by unfold sOc; rw [q1, q2]
      exact ⟨q1, q2, if_pos z, by omega, fun l => by unfold clWg; rw [if_pos z]; rfl⟩
    refine XC.block [66] 60 ?_
    refine And.intro (fun w => c66 (fun z => w (ez.mpr z))) (fun w => ?_)
    refine And.intro vin ?_
    have w0 := h0 (ez.mp (Classical.not_not.mp w))
    have eT : clWt f n b B i ↔ ∀ l, l < sCo f n b i * sRo f n b i → clWi (nI (sNum f (B + sOf f n b i + 2 * l) 2)) 1098907648 := by unfold clWt; rw [w0.1, w0.2.1, w0.2.2.1]
    refine cl_uh_b hG hF hs w0.2.2.2.1 es hcc hpp (fun q G' D hv => ?_) (fun ⟨l, hl, q⟩ G' D => ?_)
    · exact ⟨(show (1 : Int32) &&& 1 = 1 by decide), hok (eT.mpr q) G' D (fun l hl => (hv l hl).trans (w0.2.2.2.2 l).symm)⟩
    · exact ⟨(show (0 : Int32) &&& 1 = 0 by decide), hbad (fun z => q (eT.mp z l hl)) G' D⟩
  have nle : ¬ ¬ (I 59 ii.toNatClampNeg + I 60 ii.toNatClampNeg * I 61 ii.toNatClampNeg ≤ 1866) := by
    rw [es, e6, nI_add, show (1866 : Int32) = nI 1866 from rfl]
    exact Classical.not_not.mpr (nI_le (by omega) (by omega))
  refine XC.block [43] 60 ?_
  refine And.intro vin ?_
  refine And.intro vin ?_
  refine And.intro vin ?_
  refine And.intro vin ?_
  exact And.intro (fun _ => c43 _ _ e8 e6) (fun z => absurd z nle)
end CLS_b
