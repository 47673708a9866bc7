/-! the class on paper: weights -/
theorem fneg_mod (a : UInt32) : (FP.fneg a).toNat % 2 ^ 31 = a.toNat % 2 ^ 31 := by
  show (a ^^^ 0x80000000).toNat % 2 ^ 31 = a.toNat % 2 ^ 31
  rw [UInt32.toNat_xor, Nat.xor_mod_two_pow]
  show a.toNat % 2 ^ 31 ^^^ 0 = a.toNat % 2 ^ 31
  rw [Nat.xor_zero]
theorem fneg_fin {a : UInt32} (h : Jvm.FP.Core.FFin a) : Jvm.FP.Core.FFin (FP.fneg a) := by
  rw [Jvm.FP.Core.fin_bits32] at h ⊢
  rw [fneg_mod]
  exact h
theorem clRe_fin (h : Int32) : Jvm.FP.Core.FFin (clRe h) := by
  unfold clRe
  split
  · exact fneg_fin (rfRe_fin _)
  · exact rfRe_fin _
theorem cl_wn (x : Int32) {s : UInt32} (hs : Jvm.FP.Core.FFin s) : vf_n32 (FP.fmul (FP.i2f x) s) := rf_n32 (Jvm.FP.Core.fmul_out (Jvm.FP.Core.i2f_fin x) hs)
section CLR_a
variable {X : List (Option Nat)} {T : List xS} {f : Nat → Nat} {n b t k : Nat} {I J : Nat → Nat → Int32} {L : Nat → Nat → Int64} {F G : Nat → Nat → UInt32} {d : Nat} {Q : xP}
/-- nothing changes but the weights from s on, c of them -/
def clG_a (s c : Nat) (F F' : Nat → Nat → UInt32) : Prop := ∀ b k, ¬ (b = 50 ∧ s ≤ k ∧ k < s + c) → F' b k = F b k
theorem clG_a.st {s c k : Nat} {x : UInt32} (h : clG_a s c F G) (h1 : s ≤ k) (h2 : k < s + c) : clG_a s c F (x2 G 50 k x) := fun b k' hb => (x2_o _ _ (fun e => hb ⟨e.1, by omega, by omega⟩)).trans (h b k' hb)
theorem cl_uh_a (hG : rfG f n) (hF : clF f n I) {s c p : Nat} (hs : s + c ≤ 1866) (hp : p + 2 * c ≤ n) {ss cc pp : Int32} (hss : ss = nI s) (hcc : cc = nI c) (hpp : pp = nI p)
    (hok : (∀ i, i < c → clWi (nI (sNum f (p + 2 * i) 2)) 1098907648) → ∀ G', clG_a s c F G' → (∀ i, i < c → G' 50 (s + i) = clRe (nI (sNum f (p + 2 * i) 2))) → Q (some (.int 1)) (shG X (md1 T), I, L, G'))
    (hbad : (∃ i, i < c ∧ ¬ clWi (nI (sNum f (p + 2 * i) 2)) 1098907648) → ∀ G', clG_a s c F G' → Q (some (.int 0)) (shG X (md1 T), I, L, G')) : XM xE0 (d + 2) 109 [.ref 14, .ref 50, .int ss, .int cc, .int pp] (shG X (md1 T), I, L, F) Q := by
  have hn := hG.2
  have loop : ∀ (u i : Nat), i + u = c → ∀ G, clG_a s c F G → (∀ l, l < i → G 50 (s + l) = clRe (nI (sNum f (p + 2 * l) 2))) → (∀ l, l < i → clWi (nI (sNum f (p + 2 * l) 2)) 1098907648) → ∀ x y6, x = nI i → XC xE0 (d + 2) xM_109 (3, [some (.ref 14), some (.ref 50), some (.int ss), some (.int cc), some (.int pp), some (.int x), y6], [], (shG X (md1 T), I, L, G)) Q := by
    intro u
    induction u with
    | zero =>
      intro i hi G D hv hw x y6 hx
      have : i = c := by omega
      subst this
      refine XC.block [3] 60 ?_
      exact And.intro (fun _ => ⟨(show (1 : Int32) &&& 1 = 1 by decide), hok hw G D hv⟩) (fun z => absurd (show cc ≤ x by rw [hcc, hx]; exact nI_le (by omega) (by omega)) z)
    | succ u ih =>
      intro i hi G D hv hw x y6 hx
      have ei : ss + x = nI (s + i) := by rw [hss, hx, nI_add]
      have ek : (ss + x).toNatClampNeg = s + i := by rw [ei, nI_clamp (by omega)]
      have ic : i < c := by omega
      have i1 : i + 1 + u = c := by omega
      have hx1 : x + 1 = nI (i + 1) := by rw [hx, nI_1]
      have vin : vp_in (ss + x) 1866 := rf_in ei (by omega) (by decide)
      have D2 : clG_a s c F (x2 G 50 (ss + x).toNatClampNeg (clRe (nI (sNum f (p + 2 * i) 2)))) := D.st (by omega) (by omega)
      have hv2 : ∀ l, l < i + 1 → x2 G 50 (ss + x).toNatClampNeg (clRe (nI (sNum f (p + 2 * i) 2))) 50 (s + l) = clRe (nI (sNum f (p + 2 * l) 2)) := by
        intro l hl
        rw [ek]
        rcases Nat.lt_or_ge l i with y | y
        · rw [x2_o _ _ (by omega)]; exact hv l y
        · have : l = i := by omega
          subst this
          rw [x2_same]
      have hw2 : clWi (nI (sNum f (p + 2 * i) 2)) 1098907648 → ∀ l, l < i + 1 → clWi (nI (sNum f (p + 2 * l) 2)) 1098907648 := by
        intro h l hl
        rcases Nat.lt_or_ge l i with y | y
        · exact hw l y
        · have : l = i := by omega
          subst this
          exact h
      have c27 : ∀ h, h = nI (sNum f (p + 2 * i) 2) → XC xE0 (d + 2) xM_109 (27, [some (.ref 14), some (.ref 50), some (.int ss), some (.int cc), some (.int pp), some (.int x), some (.int h)], [], (shG X (md1 T), I, L, G)) Q := by
        intro h hh
        subst hh
        refine XC.block [39] 60 ?_
        refine cl_isWithin (fun w => ?_) (fun w => ?_)
        · refine And.intro (fun _ => ?_) (fun z => absurd (show ¬ (1 : Int32) = 0 by decide) z)
          refine XC.block [3] 60 ?_
          refine cl_realOf ?_
          exact And.intro vin (ih (i + 1) i1 _ D2 hv2 (hw2 w) _ _ hx1)
        · exact And.intro (fun z => absurd (show (0 : Int32) = 0 from rfl) z) (fun _ => ⟨(show (0 : Int32) &&& 1 = 0 by decide), hbad ⟨i, ic, w⟩ G D⟩)
      refine XC.block [27] 60 ?_
      refine And.intro (fun z => absurd (show cc ≤ x from z) (by rw [hcc, hx]; exact nI_ge (by omega) (by omega))) (fun _ => ?_)
      refine cl_number hF hG (p := p + 2 * i) (k := 2) (by decide) (by omega) (show pp + 2 * x = nI (p + 2 * i) by rw [hpp, hx, show (2 : Int32) = nI 2 from rfl, nI_mul, nI_add]) rfl (fun v hv' => ?_)
      exact c27 _ (show v.toInt32 = _ by rw [hv', lN_i])
  refine XC.block [3] 60 ?_
  exact loop c 0 (Nat.zero_add _) F (fun _ _ _ => rfl) (fun l hl => absurd hl (Nat.not_lt_zero _)) (fun l hl => absurd hl (Nat.not_lt_zero _)) _ _ rfl
theorem cl_ue_a (hG : rfG f n) (hF : clF f n I) {s p : Nat} (hs : s + 8 ≤ 1866) (hp : p + 8 ≤ n) {sc : UInt32} (hsc : Jvm.FP.Core.FFin sc) {ss pp : Int32} (hss : ss = nI s) (hpp : pp = nI p)
    (hok : ∀ G', clG_a s 8 F G' → (∀ i, i < 8 → G' 50 (s + i) = FP.fmul (FP.i2f (nI (f (p + i))).toInt8.toInt32) sc) → Q none (shG X (md1 T), I, L, G')) : XM xE0 (d + 1) 111 [.ref 14, .ref 50, .int ss, .float sc, .int pp] (shG X (md1 T), I, L, F) Q := by
  have hn := hG.2
  have loop : ∀ (u i : Nat), i + u = 8 → ∀ G, clG_a s 8 F G → (∀ l, l < i → G 50 (s + l) = FP.fmul (FP.i2f (nI (f (p + l))).toInt8.toInt32) sc) → ∀ x, x = nI i → XC xE0 (d + 1) xM_111 (3, [some (.ref 14), some (.ref 50), some (.int ss), some (.float sc), some (.int pp), some (.int x)], [], (shG X (md1 T), I, L, G)) Q := by
    intro u
    induction u with
    | zero =>
      intro i hi G D hv x hx
      have : i = 8 := by omega
      subst this
      refine XC.block [3] 60 ?_
      exact And.intro (fun _ => ⟨trivial, hok G D hv⟩) (fun z => absurd (show (8 : Int32) ≤ x by rw [hx]; decide) z)
    | succ u ih =>
      intro i hi G D hv x hx
      have ei : ss + x = nI (s + i) := by rw [hss, hx, nI_add]
      have ek : (ss + x).toNatClampNeg = s + i := by rw [ei, nI_clamp (by omega)]
      have i1 : i + 1 + u = 8 := by omega
      have hx1 : x + 1 = nI (i + 1) := by rw [hx, nI_1]
      have vin : vp_in (ss + x) 1866 := rf_in ei (by omega) (by decide)
      have D2 : ∀ w, clG_a s 8 F (x2 G 50 (ss + x).toNatClampNeg w) := fun w => D.st (by omega) (by omega)
      have hv2 : ∀ v, v = nI (f (p + i)) → ∀ l, l < i + 1 → x2 G 50 (ss + x).toNatClampNeg (FP.fmul (FP.i2f v.toInt8.toInt32) sc) 50 (s + l) = FP.fmul (FP.i2f (nI (f (p + l))).toInt8.toInt32) sc := by
        intro v hv' l hl
        subst hv'
        rw [ek]
        rcases Nat.lt_or_ge l i with y | y
        · rw [x2_o _ _ (by omega)]; exact hv l y
        · have : l = i := by omega
          subst this
          rw [x2_same]
      have pin : p + i < 2 ^ 31 := by omega
      have pin2 : ¬ n ≤ p + i := by omega
      have epi : pp + x = nI (p + i) := by rw [hpp, hx, nI_add]
      have hlt : ¬ (8 : Int32) ≤ x := by rw [hx, show (8 : Int32) = nI 8 from rfl]; exact nI_ge (by omega) (by omega)
      refine XC.block [3] 60 ?_
      refine And.intro (fun z => absurd z hlt) (fun _ => ?_)
      refine cl_at hF hG (p := p + i) pin epi (fun _ v hv' => ?_) (fun z => absurd z pin2)
      refine And.intro (cl_wn _ hsc) ?_
      exact And.intro vin (ih (i + 1) i1 _ (D2 _) (hv2 v hv') _ hx1)
  refine XC.block [3] 60 ?_
  exact loop 8 0 rfl F (fun _ _ _ => rfl) (fun l hl => absurd hl (Nat.not_lt_zero _)) _ rfl
theorem cl_uf_a (hG : rfG f n) (hF : clF f n I) {s p : Nat} (hs : s + 8 ≤ 1866) (hp : p + 4 ≤ n) {sc : UInt32} (hsc : Jvm.FP.Core.FFin sc) {ss pp : Int32} (hss : ss = nI s) (hpp : pp = nI p)
    (hok : ∀ G', clG_a s 8 F G' → (∀ i, i < 4 → G' 50 (s + i) = FP.fmul (FP.i2f ((nI (f (p + i)) &&& 15) - 8)) sc ∧ G' 50 (s + i + 4) = FP.fmul (FP.i2f ((nI (f (p + i)) >>> ((4 : Int32) &&& 31)) - 8)) sc) → Q none (shG X (md1 T), I, L, G')) : XM xE0 (d + 1) 110 [.ref 14, .ref 50, .int ss, .float sc, .int pp] (shG X (md1 T), I, L, F) Q := by
  have hn := hG.2
  have loop : ∀ (u i : Nat), i + u = 4 → ∀ G, clG_a s 8 F G → (∀ l, l < i → G 50 (s + l) = FP.fmul (FP.i2f ((nI (f (p + l)) &&& 15) - 8)) sc ∧ G 50 (s + l + 4) = FP.fmul (FP.i2f ((nI (f (p + l)) >>> ((4 : Int32) &&& 31)) - 8)) sc) → ∀ x y6, x = nI i → XC xE0 (d + 1) xM_110 (3, [some (.ref 14), some (.ref 50), some (.int ss), some (.float sc), some (.int pp), some (.int x), y6], [], (shG X (md1 T), I, L, G)) Q := by
    intro u
    induction u with
    | zero =>
      intro i hi G D hv x y6 hx
      have : i = 4 := by omega
      subst this
      refine XC.block [3] 60 ?_
      exact And.intro (fun _ => ⟨trivial, hok G D hv⟩) (fun z => absurd (show (4 : Int32) ≤ x by rw [hx]; decide) z)
    | succ u ih =>
      intro i hi G D hv x y6 hx
      have ei : ss + x = nI (s + i) := by rw [hss, hx, nI_add]
      have ei4 : ss + x + 4 = nI (s + i + 4) := by rw [ei, show (4 : Int32) = nI 4 from rfl, nI_add]
      have ek : (ss + x).toNatClampNeg = s + i := by rw [ei, nI_clamp (by omega)]
      have ek4 : (ss + x + 4).toNatClampNeg = s + i + 4 := by rw [ei4, nI_clamp (by omega)]
      have i1 : i + 1 + u = 4 := by omega
      have hx1 : x + 1 = nI (i + 1) := by rw [hx, nI_1]
      have vin : vp_in (ss + x) 1866 := rf_in ei (by omega) (by decide)
      have vin4 : vp_in (ss + x + 4) 1866 := rf_in ei4 (by omega) (by decide)
      have D2 : ∀ w w2, clG_a s 8 F (x2 (x2 G 50 (ss + x).toNatClampNeg w) 50 (ss + x + 4).toNatClampNeg w2) := fun w w2 => (D.st (by omega) (by omega)).st (by omega) (by omega)
      have hv2 : ∀ v, v = nI (f (p + i)) → ∀ l, l < i + 1 → x2 (x2 G 50 (ss + x).toNatClampNeg (FP.fmul (FP.i2f ((v &&& 15) - 8)) sc)) 50 (ss + x + 4).toNatClampNeg (FP.fmul (FP.i2f ((v >>> ((4 : Int32) &&& 31)) - 8)) sc) 50 (s + l) = FP.fmul (FP.i2f ((nI (f (p + l)) &&& 15) - 8)) sc ∧ x2 (x2 G 50 (ss + x).toNatClampNeg (FP.fmul (FP.i2f ((v &&& 15) - 8)) sc)) 50 (ss + x + 4).toNatClampNeg (FP.fmul (FP.i2f ((v >>> ((4 : Int32) &&& 31)) - 8)) sc) 50 (s + l + 4) = FP.fmul (FP.i2f ((nI (f (p + l)) >>> ((4 : Int32) &&& 31)) - 8)) sc := by
        intro v hv' l hl
        subst hv'
        rw [ek, ek4]
        rcases Nat.lt_or_ge l i with y | y
        · rw [x2_o _ _ (by omega), x2_o _ _ (by omega), x2_o _ _ (by omega), x2_o _ _ (by omega)]; exact hv l y
        · have : l = i := by omega
          subst this
          refine ⟨?_, ?_⟩
          · rw [x2_o _ _ (by omega), x2_same]
          · rw [x2_same]
      have pin : p + i < 2 ^ 31 := by omega
      have pin2 : ¬ n ≤ p + i := by omega
      have epi : pp + x = nI (p + i) := by rw [hpp, hx, nI_add]
      have hlt : ¬ (4 : Int32) ≤ x := by rw [hx, show (4 : Int32) = nI 4 from rfl]; exact nI_ge (by omega) (by omega)
      have c23 : ∀ v, v = nI (f (p + i)) → XC xE0 (d + 1) xM_110 (23, [some (.ref 14), some (.ref 50), some (.int ss), some (.float sc), some (.int pp), some (.int x), some (.int v)], [], (shG X (md1 T), I, L, G)) Q := by
        intro v hv'
        refine XC.block [3] 60 ?_
        refine And.intro (cl_wn _ hsc) ?_
        refine And.intro vin ?_
        refine And.intro (cl_wn _ hsc) ?_
        exact And.intro vin4 (ih (i + 1) i1 _ (D2 _ _) (hv2 v hv') _ _ hx1)
      refine XC.block [23] 60 ?_
      refine And.intro (fun z => absurd z hlt) (fun _ => ?_)
      exact cl_at hF hG (p := p + i) pin epi (fun _ v hv' => c23 v hv') (fun z => absurd z pin2)
  refine XC.block [3] 60 ?_
  exact loop 4 0 rfl F (fun _ _ _ => rfl) (fun l hl => absurd hl (Nat.not_lt_zero _)) _ _ rfl
end CLR_a
section CLR_b
variable {X : List (Option Nat)} {T : List xS} {f : Nat → Nat} {n b t k : Nat} {I J : Nat → Nat → Int32} {L : Nat → Nat → Int64} {F G : Nat → Nat → UInt32} {d : Nat} {Q : xP}
/-- nothing changes but the weights from s on, c of them -/
def clG_b (s c : Nat) (F F' : Nat → Nat → UInt32) : Prop := ∀ b k, ¬ (b = 63 ∧ s ≤ k ∧ k < s + c) → F' b k = F b k
theorem clG_b.st {s c k : Nat} {x : UInt32} (h : clG_b s c F G) (h1 : s ≤ k) (h2 : k < s + c) : clG_b s c F (x2 G 63 k x) := fun b k' hb => (x2_o _ _ (fun e => hb ⟨e.1, by omega, by omega⟩)).trans (h b k' hb)
theorem cl_uh_b (hG : rfG f n) (hF : clF f n I) {s c p : Nat} (hs : s + c ≤ 1866) (hp : p + 2 * c ≤ n) {ss cc pp : Int32} (hss : ss = nI s) (hcc : cc = nI c) (hpp : pp = nI p)
    (hok : (∀ i, i < c → clWi (nI (sNum f (p + 2 * i) 2)) 1098907648) → ∀ G', clG_b s c F G' → (∀ i, i < c → G' 63 (s + i) = clRe (nI (sNum f (p + 2 * i) 2))) → Q (some (.int 1)) (shG X (md2 T), I, L, G'))
    (hbad : (∃ i, i < c ∧ ¬ clWi (nI (sNum f (p + 2 * i) 2)) 1098907648) → ∀ G', clG_b s c F G' → Q (some (.int 0)) (shG X (md2 T), I, L, G')) : XM xE0 (d + 2) 109 [.ref 14, .ref 63, .int ss, .int cc, .int pp] (shG X (md2 T), I, L, F) Q := by
  have hn := hG.2
  have loop : ∀ (u i : Nat), i + u = c → ∀ G, clG_b s c F G → (∀ l, l < i → G 63 (s + l) = clRe (nI (sNum f (p + 2 * l) 2))) → (∀ l, l < i → clWi (nI (sNum f (p + 2 * l) 2)) 1098907648) → ∀ x y6, x = nI i → XC xE0 (d + 2) xM_109 (3, [some (.ref 14), some (.ref 63), some (.int ss), some (.int cc), some (.int pp), some (.int x), y6], [], (shG X (md2 T), I, L, G)) Q := by
    intro u
    induction u with
    | zero =>
      intro i hi G D hv hw x y6 hx
      have : i = c := by omega
      subst this
      refine XC.block [3] 60 ?_
      exact And.intro (fun _ => ⟨(show (1 : Int32) &&& 1 = 1 by decide), hok hw G D hv⟩) (fun z => absurd (show cc ≤ x by rw [hcc, hx]; exact nI_le (by omega) (by omega)) z)
    | succ u ih =>
      intro i hi G D hv hw x y6 hx
      have ei : ss + x = nI (s + i) := by rw [hss, hx, nI_add]
      have ek : (ss + x).toNatClampNeg = s + i := by rw [ei, nI_clamp (by omega)]
      have ic : i < c := by omega
      have i1 : i + 1 + u = c := by omega
      have hx1 : x + 1 = nI (i + 1) := by rw [hx, nI_1]
      have vin : vp_in (ss + x) 1866 := rf_in ei (by omega) (by decide)
      have D2 : clG_b s c F (x2 G 63 (ss + x).toNatClampNeg (clRe (nI (sNum f (p + 2 * i) 2)))) := D.st (by omega) (by omega)
      have hv2 : ∀ l, l < i + 1 → x2 G 63 (ss + x).toNatClampNeg (clRe (nI (sNum f (p + 2 * i) 2))) 63 (s + l) = clRe (nI (sNum f (p + 2 * l) 2)) := by
        intro l hl
        rw [ek]
        rcases Nat.lt_or_ge l i with y | y
        · rw [x2_o _ _ (by omega)]; exact hv l y
        · have : l = i := by omega
          subst this
          rw [x2_same]
      have hw2 : clWi (nI (sNum f (p + 2 * i) 2)) 1098907648 → ∀ l, l < i + 1 → clWi (nI (sNum f (p + 2 * l) 2)) 1098907648 := by
        intro h l hl
        rcases Nat.lt_or_ge l i with y | y
        · exact hw l y
        · have : l = i := by omega
          subst this
          exact h
      have c27 : ∀ h, h = nI (sNum f (p + 2 * i) 2) → XC xE0 (d + 2) xM_109 (27, [some (.ref 14), some (.ref 63), some (.int ss), some (.int cc), some (.int pp), some (.int x), some (.int h)], [], (shG X (md2 T), I, L, G)) Q := by
        intro h hh
        subst hh
        refine XC.block [39] 60 ?_
        refine cl_isWithin (fun w => ?_) (fun w => ?_)
        · refine And.intro (fun _ => ?_) (fun z => absurd (show ¬ (1 : Int32) = 0 by decide) z)
          refine XC.block [3] 60 ?_
          refine cl_realOf ?_
          exact And.intro vin (ih (i + 1) i1 _ D2 hv2 (hw2 w) _ _ hx1)
        · exact And.intro (fun z => absurd (show (0 : Int32) = 0 from rfl) z) (fun _ => ⟨(show (0 : Int32) &&& 1 = 0 by decide), hbad ⟨i, ic, w⟩ G D⟩)
      refine XC.block [27] 60 ?_
      refine And.intro (fun z => absurd (show cc ≤ x from z) (by rw [hcc, hx]; exact nI_ge (by omega) (by omega))) (fun _ => ?_)
      refine cl_number hF hG (p := p + 2 * i) (k := 2) (by decide) (by omega) (show pp + 2 * x = nI (p + 2 * i) by rw [hpp, hx, show (2 : Int32) = nI 2 from rfl, nI_mul, nI_add]) rfl (fun v hv' => ?_)
      exact c27 _ (show v.toInt32 = _ by rw [hv', lN_i])
  refine XC.block [3] 60 ?_
  exact loop c 0 (Nat.zero_add _) F (fun _ _ _ => rfl) (fun l hl => absurd hl (Nat.not_lt_zero _)) (fun l hl => absurd hl (Nat.not_lt_zero _)) _ _ rfl
theorem cl_ue_b (hG : rfG f n) (hF : clF f n I) {s p : Nat} (hs : s + 8 ≤ 1866) (hp : p + 8 ≤ n) {sc : UInt32} (hsc : Jvm.FP.Core.FFin sc) {ss pp : Int32} (hss : ss = nI s) (hpp : pp = nI p)
    (hok : ∀ G', clG_b s 8 F G' → (∀ i, i < 8 → G' 63 (s + i) = FP.fmul (FP.i2f (nI (f (p + i))).toInt8.toInt32) sc) → Q none (shG X (md2 T), I, L, G')) : XM xE0 (d + 1) 111 [.ref 14, .ref 63, .int ss, .float sc, .int pp] (shG X (md2 T), I, L, F) Q := by
  have hn := hG.2
  have loop : ∀ (u i : Nat), i + u = 8 → ∀ G, clG_b s 8 F G → (∀ l, l < i → G 63 (s + l) = FP.fmul (FP.i2f (nI (f (p + l))).toInt8.toInt32) sc) → ∀ x, x = nI i → XC xE0 (d + 1) xM_111 (3, [some (.ref 14), some (.ref 63), some (.int ss), some (.float sc), some (.int pp), some (.int x)], [], (shG X (md2 T), I, L, G)) Q := by
    intro u
    induction u with
    | zero =>
      intro i hi G D hv x hx
      have : i = 8 := by omega
      subst this
      refine XC.block [3] 60 ?_
      exact And.intro (fun _ => ⟨trivial, hok G D hv⟩) (fun z => absurd (show (8 : Int32) ≤ x by rw [hx]; decide) z)
    | succ u ih =>
      intro i hi G D hv x hx
      have ei : ss + x = nI (s + i) := by rw [hss, hx, nI_add]
      have ek : (ss + x).toNatClampNeg = s + i := by rw [ei, nI_clamp (by omega)]
      have i1 : i + 1 + u = 8 := by omega
      have hx1 : x + 1 = nI (i + 1) := by rw [hx, nI_1]
      have vin : vp_in (ss + x) 1866 := rf_in ei (by omega) (by decide)
      have D2 : ∀ w, clG_b s 8 F (x2 G 63 (ss + x).toNatClampNeg w) := fun w => D.st (by omega) (by omega)
      have hv2 : ∀ v, v = nI (f (p + i)) → ∀ l, l < i + 1 → x2 G 63 (ss + x).toNatClampNeg (FP.fmul (FP.i2f v.toInt8.toInt32) sc) 63 (s + l) = FP.fmul (FP.i2f (nI (f (p + l))).toInt8.toInt32) sc := by
        intro v hv' l hl
        subst hv'
        rw [ek]
        rcases Nat.lt_or_ge l i with y | y
        · rw [x2_o _ _ (by omega)]; exact hv l y
        · have : l = i := by omega
          subst this
          rw [x2_same]
      have pin : p + i < 2 ^ 31 := by omega
      have pin2 : ¬ n ≤ p + i := by omega
      have epi : pp + x = nI (p + i) := by rw [hpp, hx, nI_add]
      have hlt : ¬ (8 : Int32) ≤ x := by rw [hx, show (8 : Int32) = nI 8 from rfl]; exact nI_ge (by omega) (by omega)
      refine XC.block [3] 60 ?_
      refine And.intro (fun z => absurd z hlt) (fun _ => ?_)
      refine cl_at hF hG (p := p + i) pin epi (fun _ v hv' => ?_) (fun z => absurd z pin2)
      refine And.intro (cl_wn _ hsc) ?_
      exact And.intro vin (ih (i + 1) i1 _ (D2 _) (hv2 v hv') _ hx1)
  refine XC.block [3] 60 ?_
  exact loop 8 0 rfl F (fun _ _ _ => rfl) (fun l hl => absurd hl (Nat.not_lt_zero _)) _ rfl
theorem cl_uf_b (hG : rfG f n) (hF : clF f n I) {s p : Nat} (hs : s + 8 ≤ 1866) (hp : p + 4 ≤ n) {sc : UInt32} (hsc : Jvm.FP.Core.FFin sc) {ss pp : Int32} (hss : ss = nI s) (hpp : pp = nI p)
    (hok : ∀ G', clG_b s 8 F G' → (∀ i, i < 4 → G' 63 (s + i) = FP.fmul (FP.i2f ((nI (f (p + i)) &&& 15) - 8)) sc ∧ G' 63 (s + i + 4) = FP.fmul (FP.i2f ((nI (f (p + i)) >>> ((4 : Int32) &&& 31)) - 8)) sc) → Q none (shG X (md2 T), I, L, G')) : XM xE0 (d + 1) 110 [.ref 14, .ref 63, .int ss, .float sc, .int pp] (shG X (md2 T), I, L, F) Q := by
  have hn := hG.2
  have loop : ∀ (u i : Nat), i + u = 4 → ∀ G, clG_b s 8 F G → (∀ l, l < i → G 63 (s + l) = FP.fmul (FP.i2f ((nI (f (p + l)) &&& 15) - 8)) sc ∧ G 63 (s + l + 4) = FP.fmul (FP.i2f ((nI (f (p + l)) >>> ((4 : Int32) &&& 31)) - 8)) sc) → ∀ x y6, x = nI i → XC xE0 (d + 1) xM_110 (3, [some (.ref 14), some (.ref 63), some (.int ss), some (.float sc), some (.int pp), some (.int x), y6], [], (shG X (md2 T), I, L, G)) Q := by
    intro u
    induction u with
    | zero =>
      intro i hi G D hv x y6 hx
      have : i = 4 := by omega
      subst this
      refine XC.block [3] 60 ?_
      exact And.intro (fun _ => ⟨trivial, hok G D hv⟩) (fun z => absurd (show (4 : Int32) ≤ x by rw [hx]; decide) z)
    | succ u ih =>
      intro i hi G D hv x y6 hx
      have ei : ss + x = nI (s + i) := by rw [hss, hx, nI_add]
      have ei4 : ss + x + 4 = nI (s + i + 4) := by rw [ei, show (4 : Int32) = nI 4 from rfl, nI_add]
      have ek : (ss + x).toNatClampNeg = s + i := by rw [ei, nI_clamp (by omega)]
      have ek4 : (ss + x + 4).toNatClampNeg = s + i + 4 := by rw [ei4, nI_clamp (by omega)]
      have i1 : i + 1 + u = 4 := by omega
      have hx1 : x + 1 = nI (i + 1) := by rw [hx, nI_1]
      have vin : vp_in (ss + x) 1866 := rf_in ei (by omega) (by decide)
      have vin4 : vp_in (ss + x + 4) 1866 := rf_in ei4 (by omega) (by decide)
      have D2 : ∀ w w2, clG_b s 8 F (x2 (x2 G 63 (ss + x).toNatClampNeg w) 63 (ss + x + 4).toNatClampNeg w2) := fun w w2 => (D.st (by omega) (by omega)).st (by omega) (by omega)
      have hv2 : ∀ v, v = nI (f (p + i)) → ∀ l, l < i + 1 → x2 (x2 G 63 (ss + x).toNatClampNeg (FP.fmul (FP.i2f ((v &&& 15) - 8)) sc)) 63 (ss + x + 4).toNatClampNeg (FP.fmul (FP.i2f ((v >>> ((4 : Int32) &&& 31)) - 8)) sc) 63 (s + l) = FP.fmul (FP.i2f ((nI (f (p + l)) &&& 15) - 8)) sc ∧ x2 (x2 G 63 (ss + x).toNatClampNeg (FP.fmul (FP.i2f ((v &&& 15) - 8)) sc)) 63 (ss + x + 4).toNatClampNeg (FP.fmul (FP.i2f ((v >>> ((4 : Int32) &&& 31)) - 8)) sc) 63 (s + l + 4) = FP.fmul (FP.i2f ((nI (f (p + l)) >>> ((4 : Int32) &&& 31)) - 8)) sc := by
        intro v hv' l hl
        subst hv'
        rw [ek, ek4]
        rcases Nat.lt_or_ge l i with y | y
        · rw [x2_o _ _ (by omega), x2_o _ _ (by omega), x2_o _ _ (by omega), x2_o _ _ (by omega)]; exact hv l y
        · have : l = i := by omega
          subst this
          refine ⟨?_, ?_⟩
          · rw [x2_o _ _ (by omega), x2_same]
          · rw [x2_same]
      have pin : p + i < 2 ^ 31 := by omega
      have pin2 : ¬ n ≤ p + i := by omega
      have epi : pp + x = nI (p + i) := by rw [hpp, hx, nI_add]
      have hlt : ¬ (4 : Int32) ≤ x := by rw [hx, show (4 : Int32) = nI 4 from rfl]; exact nI_ge (by omega) (by omega)
      have c23 : ∀ v, v = nI (f (p + i)) → XC xE0 (d + 1) xM_110 (23, [some (.ref 14), some (.ref 63), some (.int ss), some (.float sc), some (.int pp), some (.int x), some (.int v)], [], (shG X (md2 T), I, L, G)) Q := by
        intro v hv'
        refine XC.block [3] 60 ?_
        refine And.intro (cl_wn _ hsc) ?_
        refine And.intro vin ?_
        refine And.intro (cl_wn _ hsc) ?_
        exact And.intro vin4 (ih (i + 1) i1 _ (D2 _ _) (hv2 v hv') _ _ hx1)
      refine XC.block [23] 60 ?_
      refine And.intro (fun z => absurd z hlt) (fun _ => ?_)
      exact cl_at hF hG (p := p + i) pin epi (fun _ v hv' => c23 v hv') (fun z => absurd z pin2)
  refine XC.block [3] 60 ?_
  exact loop 4 0 rfl F (fun _ _ _ => rfl) (fun l hl => absurd hl (Nat.not_lt_zero _)) _ _ rfl
end CLR_b
