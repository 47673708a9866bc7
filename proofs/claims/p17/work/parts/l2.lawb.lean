/-! the law: its walk -/
def xlS : List Nat := xtxl.map List.length
def xnS : Nat := xtxl.length
theorem lw_and : ∀ (l : List Int32), (l.all fun b => b &&& 255 == b) = true → ∀ j, l.getD j 0 &&& 255 = l.getD j 0
  | [], _, j => by rw [List.getD_nil]; decide
  | b :: l, h, j => by
    rw [List.all_cons, Bool.and_eq_true] at h
    cases j with
    | zero => exact eq_of_beq h.1
    | succ j => exact lw_and l h.2 j
theorem lw_txt : ∀ k, k < xnS → xlS.getD k 0 = xtlen k ∧ xtlen k < 2 ^ 31 ∧ ((xtxl.getD k []).all fun b => b &&& 255 == b) = true := by decide +kernel
theorem xTxE0 : xTxE xE0 xnS xlS xtxl := by
  intro k hk
  have hk : 1 ≤ (xtxl.getD k []).length := hk
  have hn : k < xnS := by
    rcases Nat.lt_or_ge k xtxl.length with q | q
    · exact q
    · rw [List.getD_eq_getElem?_getD, List.getElem?_eq_none q] at hk; exact absurd hk (by decide)
  obtain ⟨a, b, c⟩ := lw_txt k hn
  exact ⟨hn, a, b, fun j => lw_and _ c j⟩
def lwA (s : State) : Nat → Prop := fun q => s.heap.size ≤ q
def lwF (p : Program) (s : State) (m : MethodId) (c : Code) (b L : Nat) (xs : Nat → Int32) (ad adV : Nat → Nat) (cA : FieldType → ClassId) (D : va_G) : Prop :=
  p.tables.exec = Jvm.exec ∧ c.code = code ∧ c.maxLocals = 4 ∧ s.vm.findClass "TextEngineLaw" = some m.cls ∧ (∀ w ∈ xTB, w.before #[Value.ref b] s = true) ∧ (va_X b L xs s s.heap ∧ b < s.heap.size) ∧ va_K D xCl (xtys cA) s ∧ xEv xTF xTM xTSs xnS xlS xtxl ad adV (lwA s) s
theorem lw_k3 {i k L : Nat} (hi : i + 4 ≤ L) (hL : L ≤ 2048) (hk : k ≤ 3) : vp_in (nI i + nI k) L := by
  rw [nI_add]
  exact vp_in_nI (by omega) (by omega)
theorem lw_len {d y : Nat} {av : List Value} {h1 h1' : xH} {z : Option Value} (run : XM xE0 d y av h1 (fun v' h' => v' = z ∧ h' = h1')) : h1.1.length ≤ h1'.1.length ∧ xsz xE0 h1.1 ≤ xsz xE0 h1'.1 := by
  obtain ⟨n, k⟩ := run
  exact xr_len n _ _ _ _ _ k
theorem lw_zi (a : Int32) : ∀ (r : Nat → Option Nat) (w : Option Value), xvo r (some (.int a)) w → w = some (.int a) := by
  intro r w h
  obtain ⟨u, rfl, rfl⟩ := h
  rfl
theorem lw_zv : ∀ (r : Nat → Option Nat) (w : Option Value), xvo r none w → w = none := fun _ _ h => h
section LWC
variable {p : Program} {l : Launch} {e : Env} {s : State} {m : MethodId} {below : List Frame} {meth : Method} {c : Code} {Q : State → Prop} {b L : Nat} {xs : Nat → Int32}
variable {ad adV : Nat → Nat} {cA : FieldType → ClassId} {D : va_G} {H : Heap} {locs : List Loc} {pc : Nat} {ls : Array Slot} {h1 h2 h1' h2' : xH} {ws1 ws2 : va_W} {q1 q2 : Nat} {rf1 rf2 : List (Option Nat)}
theorem lw_do1 (hF : lwF p s m c b L xs ad adV cA D) {y n idx : Nat} (hM : xMok xTB (xE0.1 y) n) (hC : (xE0.1 y).1.cls = "TextEngine") (hlk : Cond.methodLink "TextEngineLaw" idx (xE0.1 y).1 ∈ xTB) (hin : Cond.instanceMethod (xE0.1 y).1 ∈ xTB) (hse : Cond.selects "TextEngine" (xE0.1 y).1 (xE0.1 y).1 ∈ xTB) (hdg : decode code pc = .ok (.invokevirtual idx, 3))
    {av rest : List Value} {z : Option Value} (run : XM xE0 100 y (.ref 0 :: av) h1 (fun v' h' => v' = z ∧ h' = h1')) (z1 : h1.1[0]? = some (.inr (0, rf1))) (hz : ∀ r w, xvo r z w → w = z) (b1 : h1'.1.length + h2.1.length ≤ 600000) (b2 : xsz xE0 h1'.1 + xsz xE0 h2.1 ≤ 7302250) (hrest : xcat rest ≤ 8) (hsz : ls.size = 4) (inv : lwI xE0 ad cA D xCl (lwA s) s h1 h2 ws1 ws2 H locs) (hq : xa ad ws1 0 = some q1) (hav : xva (fun _ => none) av av) (hn : av.length = n) (hfl : (xflat (.ref 0 :: av)).length ≤ (xE0.1 y).2.2.1)
    (kk : ∀ (ws1' : va_W) (H1 : Heap) (locs1 : List Loc), lwI xE0 ad cA D xCl (lwA s) s h1' h2 ws1' ws2 H1 locs1 → xa ad ws1' 0 = some q1 → W p l e room_1 s m #[Value.ref b] below meth c H1 locs1 (h1'.1.length + h2.1.length) (xsz xE0 h1'.1 + xsz xE0 h2.1) Q (F0 m (pc + 3) ls (z.toList ++ rest))) : W p l e room_1 s m #[Value.ref b] below meth c H locs (h1.1.length + h2.1.length) (xsz xE0 h1.1 + xsz xE0 h2.1) Q (F0 m pc ls (av.reverse ++ .ref q1 :: rest)) := by
  obtain ⟨hx, hb, hml, hown, hts, hXb, hK, hEv⟩ := hF
  obtain ⟨m1, m2⟩ := lw_len run
  have c1 : h1.1.length + h2.1.length + (h1'.1.length - h1.1.length) = h1'.1.length + h2.1.length := by omega
  have c2 : xsz xE0 h1.1 + xsz xE0 h2.1 + (xsz xE0 h1'.1 - xsz xE0 h1.1) = xsz xE0 h1'.1 + xsz xE0 h2.1 := by omega
  refine lw_callV (A := lwA s) xTab0 xTxE0 hx hb hml hts hown hK (fun _ h => h) hEv (ci := 0) rfl hM hC hlk hin hse hdg run z1 hav hz hn hfl (show h1'.1.length ≤ xt0 by unfold xt0; omega) ⟨by decide, by decide⟩ ⟨by rw [c1]; exact b1, by rw [c2]; exact b2⟩ hrest hsz inv hq (fun ws1' H1 locs1 i1 i2 => ?_)
  rw [c1, c2]
  exact kk ws1' H1 locs1 i1 i2
theorem lw_do2 (hF : lwF p s m c b L xs ad adV cA D) {y n idx : Nat} (hM : xMok xTB (xE0.1 y) n) (hC : (xE0.1 y).1.cls = "TextEngineModel") (hlk : Cond.methodLink "TextEngineLaw" idx (xE0.1 y).1 ∈ xTB) (hin : Cond.instanceMethod (xE0.1 y).1 ∈ xTB) (hse : Cond.selects "TextEngineModel" (xE0.1 y).1 (xE0.1 y).1 ∈ xTB) (hdg : decode code pc = .ok (.invokevirtual idx, 3))
    {av rest : List Value} {z : Option Value} (run : XM xE0 100 y (.ref 0 :: av) h2 (fun v' h' => v' = z ∧ h' = h2')) (z1 : h2.1[0]? = some (.inr (11, rf2))) (hz : ∀ r w, xvo r z w → w = z) (b1 : h1.1.length + h2'.1.length ≤ 600000) (b2 : xsz xE0 h1.1 + xsz xE0 h2'.1 ≤ 7302250) (hrest : xcat rest ≤ 8) (hsz : ls.size = 4) (inv : lwI xE0 ad cA D xCl (lwA s) s h1 h2 ws1 ws2 H locs) (hq : xa ad ws2 0 = some q2) (hav : xva (fun _ => none) av av) (hn : av.length = n) (hfl : (xflat (.ref 0 :: av)).length ≤ (xE0.1 y).2.2.1)
    (kk : ∀ (ws2' : va_W) (H1 : Heap) (locs1 : List Loc), lwI xE0 ad cA D xCl (lwA s) s h1 h2' ws1 ws2' H1 locs1 → xa ad ws2' 0 = some q2 → W p l e room_1 s m #[Value.ref b] below meth c H1 locs1 (h1.1.length + h2'.1.length) (xsz xE0 h1.1 + xsz xE0 h2'.1) Q (F0 m (pc + 3) ls (z.toList ++ rest))) : W p l e room_1 s m #[Value.ref b] below meth c H locs (h1.1.length + h2.1.length) (xsz xE0 h1.1 + xsz xE0 h2.1) Q (F0 m pc ls (av.reverse ++ .ref q2 :: rest)) := by
  obtain ⟨hx, hb, hml, hown, hts, hXb, hK, hEv⟩ := hF
  obtain ⟨m1, m2⟩ := lw_len run
  have c1 : h1.1.length + h2.1.length + (h2'.1.length - h2.1.length) = h1.1.length + h2'.1.length := by omega
  have c2 : xsz xE0 h1.1 + xsz xE0 h2.1 + (xsz xE0 h2'.1 - xsz xE0 h2.1) = xsz xE0 h1.1 + xsz xE0 h2'.1 := by omega
  refine lw_callV (A := lwA s) xTab0 xTxE0 hx hb hml hts hown hK (fun _ h => h) hEv (ci := 11) rfl hM hC hlk hin hse hdg run z1 hav hz hn hfl (show h2'.1.length ≤ xt0 by unfold xt0; omega) ⟨by decide, by decide⟩ ⟨by rw [c1]; exact b1, by rw [c2]; exact b2⟩ hrest hsz inv.swap hq (fun ws2' H1 locs1 i1 i2 => ?_)
  rw [c1, c2]
  exact kk ws2' H1 locs1 i1.swap i2
theorem lw_c0 {i : Nat} {a az : Int32} (r1 : XM xE0 100 1 [.ref 0, .long (lwJ (xs (nI i + 1).toNatClampNeg) (xs (nI i + 2).toNatClampNeg)), .int (xs (nI i + 3).toNatClampNeg)] h1 (fun v' h' => v' = some (.int a) ∧ h' = h1')) (r2 : XM xE0 100 25 [.ref 0, .long (lwJ (xs (nI i + 1).toNatClampNeg) (xs (nI i + 2).toNatClampNeg)), .int (xs (nI i + 3).toNatClampNeg)] h2 (fun v' h' => v' = some (.int az) ∧ h' = h2')) (hF : lwF p s m c b L xs ad adV cA D) (hi : i + 4 ≤ L) (hL : L ≤ 2048) (z1 : h1.1[0]? = some (.inr (0, rf1))) (z2 : h2.1[0]? = some (.inr (11, rf2))) (b1 : h1'.1.length + h2'.1.length ≤ 600000) (b2 : xsz xE0 h1'.1 + xsz xE0 h2'.1 ≤ 7302250) (inv : lwI xE0 ad cA D xCl (lwA s) s h1 h2 ws1 ws2 H locs) (hq1 : xa ad ws1 0 = some q1) (hq2 : xa ad ws2 0 = some q2) (hl : lv_has ls 4 [(0, .ref b), (1, .ref q1), (2, .ref q2), (3, .int (nI i))])
    (go : ∀ (ws1' ws2' : va_W) (H' : Heap) (locs' : List Loc), lwI xE0 ad cA D xCl (lwA s) s h1' h2' ws1' ws2' H' locs' → xa ad ws1' 0 = some q1 → xa ad ws2' 0 = some q2 → W p l e room_1 s m #[Value.ref b] below meth c H' locs' (h1'.1.length + h2'.1.length) (xsz xE0 h1'.1 + xsz xE0 h2'.1) Q (F0 m 652 ls [])) : W p l e room_1 s m #[Value.ref b] below meth c H locs (h1.1.length + h2.1.length) (xsz xE0 h1.1 + xsz xE0 h2.1) Q (F0 m 120 ls []) := by
  obtain ⟨hx, hb, hml, hown, hts, hXb, hK, hEv⟩ := id hF
  have hbA : ¬ lwA s b := Nat.not_le.mpr hXb.2
  have m1 := lw_len r1
  have m2 := lw_len r2
  refine lv_aload_n hx hb d_law_120 rfl (lv_at hl 1 rfl) ?_
  refine lv_aload_n hx hb d_law_121 rfl (lv_at hl 0 rfl) ?_
  refine lv_iload_n hx hb d_law_122 rfl (lv_at hl 3 rfl) ?_
  refine lv_iconst (v := 1) hx hb d_law_123 (by decide) ?_
  refine lv_iadd hx hb d_law_124 ?_
  refine va_sld (A := lwA s) hx hb hXb.1 hXb.2 hbA inv.2.2.2.2 (lw_k3 (k := 1) hi hL (by decide)) d_law_125 ?_
  refine lv_i2l hx hb d_law_126 rfl ?_
  refine lv_bipush (v := 32) hx hb d_law_127 (by decide) ?_
  refine lv_lshl hx hb d_law_129 rfl ?_
  refine lv_aload_n hx hb d_law_130 rfl (lv_at hl 0 rfl) ?_
  refine lv_iload_n hx hb d_law_131 rfl (lv_at hl 3 rfl) ?_
  refine lv_iconst (v := 2) hx hb d_law_132 (by decide) ?_
  refine lv_iadd hx hb d_law_133 ?_
  refine va_sld (A := lwA s) hx hb hXb.1 hXb.2 hbA inv.2.2.2.2 (lw_k3 (k := 2) hi hL (by decide)) d_law_134 ?_
  refine lv_i2l hx hb d_law_135 rfl ?_
  refine lv_ldc2 hx hb hown (hts _ (xw46 6 rfl rfl)) d_law_136 ?_
  refine lv_land hx hb d_law_139 ?_
  refine lv_lor hx hb d_law_140 ?_
  refine lv_aload_n hx hb d_law_141 rfl (lv_at hl 0 rfl) ?_
  refine lv_iload_n hx hb d_law_142 rfl (lv_at hl 3 rfl) ?_
  refine lv_iconst (v := 3) hx hb d_law_143 (by decide) ?_
  refine lv_iadd hx hb d_law_144 ?_
  refine va_sld (A := lwA s) hx hb hXb.1 hXb.2 hbA inv.2.2.2.2 (lw_k3 (k := 3) hi hL (by decide)) d_law_145 ?_
  refine lw_do1 hF (av := [.long (lwJ (xs (nI i + 1).toNatClampNeg) (xs (nI i + 2).toNatClampNeg)), .int (xs (nI i + 3).toNatClampNeg)]) (rest := []) xmok_1 rfl (xw14 15 rfl rfl) xmin_1 xmse_1 d_law_146 r1 z1 (lw_zi a) (by omega) (by omega) (show xcat [] ≤ 8 from Nat.le_of_ble_eq_true rfl) hl.1 inv hq1 ⟨_, _, rfl, rfl, _, _, rfl, rfl, rfl⟩ rfl (Nat.le_of_ble_eq_true rfl) (fun ws1 H locs inv hq1 => ?_)
  refine lv_pop hx hb d_law_149 rfl ?_
  refine lv_aload_n hx hb d_law_150 rfl (lv_at hl 2 rfl) ?_
  refine lv_aload_n hx hb d_law_151 rfl (lv_at hl 0 rfl) ?_
  refine lv_iload_n hx hb d_law_152 rfl (lv_at hl 3 rfl) ?_
  refine lv_iconst (v := 1) hx hb d_law_153 (by decide) ?_
  refine lv_iadd hx hb d_law_154 ?_
  refine va_sld (A := lwA s) hx hb hXb.1 hXb.2 hbA inv.2.2.2.2 (lw_k3 (k := 1) hi hL (by decide)) d_law_155 ?_
  refine lv_i2l hx hb d_law_156 rfl ?_
  refine lv_bipush (v := 32) hx hb d_law_157 (by decide) ?_
  refine lv_lshl hx hb d_law_159 rfl ?_
  refine lv_aload_n hx hb d_law_160 rfl (lv_at hl 0 rfl) ?_
  refine lv_iload_n hx hb d_law_161 rfl (lv_at hl 3 rfl) ?_
  refine lv_iconst (v := 2) hx hb d_law_162 (by decide) ?_
  refine lv_iadd hx hb d_law_163 ?_
  refine va_sld (A := lwA s) hx hb hXb.1 hXb.2 hbA inv.2.2.2.2 (lw_k3 (k := 2) hi hL (by decide)) d_law_164 ?_
  refine lv_i2l hx hb d_law_165 rfl ?_
  refine lv_ldc2 hx hb hown (hts _ (xw46 6 rfl rfl)) d_law_166 ?_
  refine lv_land hx hb d_law_169 ?_
  refine lv_lor hx hb d_law_170 ?_
  refine lv_aload_n hx hb d_law_171 rfl (lv_at hl 0 rfl) ?_
  refine lv_iload_n hx hb d_law_172 rfl (lv_at hl 3 rfl) ?_
  refine lv_iconst (v := 3) hx hb d_law_173 (by decide) ?_
  refine lv_iadd hx hb d_law_174 ?_
  refine va_sld (A := lwA s) hx hb hXb.1 hXb.2 hbA inv.2.2.2.2 (lw_k3 (k := 3) hi hL (by decide)) d_law_175 ?_
  refine lw_do2 hF (av := [.long (lwJ (xs (nI i + 1).toNatClampNeg) (xs (nI i + 2).toNatClampNeg)), .int (xs (nI i + 3).toNatClampNeg)]) (rest := []) xmok_25 rfl (xw37 29 rfl rfl) xmin_25 xmse_25 d_law_176 r2 z2 (lw_zi az) b1 b2 (show xcat [] ≤ 8 from Nat.le_of_ble_eq_true rfl) hl.1 inv hq2 ⟨_, _, rfl, rfl, _, _, rfl, rfl, rfl⟩ rfl (Nat.le_of_ble_eq_true rfl) (fun ws2 H locs inv hq2 => ?_)
  refine lv_pop hx hb d_law_179 rfl ?_
  refine lv_goto (tgt := 652) hx hb d_law_180 (by decide) ?_
  exact go _ _ _ _ inv hq1 hq2
theorem lw_c1 {i : Nat} {a az : Int32} (r1 : XM xE0 100 2 [.ref 0, .int (xs (nI i + 1).toNatClampNeg), .int (xs (nI i + 2).toNatClampNeg)] h1 (fun v' h' => v' = some (.int a) ∧ h' = h1')) (r2 : XM xE0 100 26 [.ref 0, .int (xs (nI i + 1).toNatClampNeg), .int (xs (nI i + 2).toNatClampNeg)] h2 (fun v' h' => v' = some (.int az) ∧ h' = h2')) (hF : lwF p s m c b L xs ad adV cA D) (hi : i + 4 ≤ L) (hL : L ≤ 2048) (z1 : h1.1[0]? = some (.inr (0, rf1))) (z2 : h2.1[0]? = some (.inr (11, rf2))) (b1 : h1'.1.length + h2'.1.length ≤ 600000) (b2 : xsz xE0 h1'.1 + xsz xE0 h2'.1 ≤ 7302250) (inv : lwI xE0 ad cA D xCl (lwA s) s h1 h2 ws1 ws2 H locs) (hq1 : xa ad ws1 0 = some q1) (hq2 : xa ad ws2 0 = some q2) (hl : lv_has ls 4 [(0, .ref b), (1, .ref q1), (2, .ref q2), (3, .int (nI i))])
    (go : ∀ (ws1' ws2' : va_W) (H' : Heap) (locs' : List Loc), lwI xE0 ad cA D xCl (lwA s) s h1' h2' ws1' ws2' H' locs' → xa ad ws1' 0 = some q1 → xa ad ws2' 0 = some q2 → W p l e room_1 s m #[Value.ref b] below meth c H' locs' (h1'.1.length + h2'.1.length) (xsz xE0 h1'.1 + xsz xE0 h2'.1) Q (F0 m 652 ls [])) : W p l e room_1 s m #[Value.ref b] below meth c H locs (h1.1.length + h2.1.length) (xsz xE0 h1.1 + xsz xE0 h2.1) Q (F0 m 183 ls []) := by
  obtain ⟨hx, hb, hml, hown, hts, hXb, hK, hEv⟩ := id hF
  have hbA : ¬ lwA s b := Nat.not_le.mpr hXb.2
  have m1 := lw_len r1
  have m2 := lw_len r2
  refine lv_aload_n hx hb d_law_183 rfl (lv_at hl 1 rfl) ?_
  refine lv_aload_n hx hb d_law_184 rfl (lv_at hl 0 rfl) ?_
  refine lv_iload_n hx hb d_law_185 rfl (lv_at hl 3 rfl) ?_
  refine lv_iconst (v := 1) hx hb d_law_186 (by decide) ?_
  refine lv_iadd hx hb d_law_187 ?_
  refine va_sld (A := lwA s) hx hb hXb.1 hXb.2 hbA inv.2.2.2.2 (lw_k3 (k := 1) hi hL (by decide)) d_law_188 ?_
  refine lv_aload_n hx hb d_law_189 rfl (lv_at hl 0 rfl) ?_
  refine lv_iload_n hx hb d_law_190 rfl (lv_at hl 3 rfl) ?_
  refine lv_iconst (v := 2) hx hb d_law_191 (by decide) ?_
  refine lv_iadd hx hb d_law_192 ?_
  refine va_sld (A := lwA s) hx hb hXb.1 hXb.2 hbA inv.2.2.2.2 (lw_k3 (k := 2) hi hL (by decide)) d_law_193 ?_
  refine lw_do1 hF (av := [.int (xs (nI i + 1).toNatClampNeg), .int (xs (nI i + 2).toNatClampNeg)]) (rest := []) xmok_2 rfl (xw14 23 rfl rfl) xmin_2 xmse_2 d_law_194 r1 z1 (lw_zi a) (by omega) (by omega) (show xcat [] ≤ 8 from Nat.le_of_ble_eq_true rfl) hl.1 inv hq1 ⟨_, _, rfl, rfl, _, _, rfl, rfl, rfl⟩ rfl (Nat.le_of_ble_eq_true rfl) (fun ws1 H locs inv hq1 => ?_)
  refine lv_pop hx hb d_law_197 rfl ?_
  refine lv_aload_n hx hb d_law_198 rfl (lv_at hl 2 rfl) ?_
  refine lv_aload_n hx hb d_law_199 rfl (lv_at hl 0 rfl) ?_
  refine lv_iload_n hx hb d_law_200 rfl (lv_at hl 3 rfl) ?_
  refine lv_iconst (v := 1) hx hb d_law_201 (by decide) ?_
  refine lv_iadd hx hb d_law_202 ?_
  refine va_sld (A := lwA s) hx hb hXb.1 hXb.2 hbA inv.2.2.2.2 (lw_k3 (k := 1) hi hL (by decide)) d_law_203 ?_
  refine lv_aload_n hx hb d_law_204 rfl (lv_at hl 0 rfl) ?_
  refine lv_iload_n hx hb d_law_205 rfl (lv_at hl 3 rfl) ?_
  refine lv_iconst (v := 2) hx hb d_law_206 (by decide) ?_
  refine lv_iadd hx hb d_law_207 ?_
  refine va_sld (A := lwA s) hx hb hXb.1 hXb.2 hbA inv.2.2.2.2 (lw_k3 (k := 2) hi hL (by decide)) d_law_208 ?_
  refine lw_do2 hF (av := [.int (xs (nI i + 1).toNatClampNeg), .int (xs (nI i + 2).toNatClampNeg)]) (rest := []) xmok_26 rfl (xw38 5 rfl rfl) xmin_26 xmse_26 d_law_209 r2 z2 (lw_zi az) b1 b2 (show xcat [] ≤ 8 from Nat.le_of_ble_eq_true rfl) hl.1 inv hq2 ⟨_, _, rfl, rfl, _, _, rfl, rfl, rfl⟩ rfl (Nat.le_of_ble_eq_true rfl) (fun ws2 H locs inv hq2 => ?_)
  refine lv_pop hx hb d_law_212 rfl ?_
  refine lv_goto (tgt := 652) hx hb d_law_213 (by decide) ?_
  exact go _ _ _ _ inv hq1 hq2
theorem lw_c2 {i : Nat} {a az : Int32} (r1 : XM xE0 100 3 [.ref 0] h1 (fun v' h' => v' = some (.int a) ∧ h' = h1')) (r2 : XM xE0 100 27 [.ref 0] h2 (fun v' h' => v' = some (.int az) ∧ h' = h2')) (hF : lwF p s m c b L xs ad adV cA D) (hi : i + 4 ≤ L) (hL : L ≤ 2048) (z1 : h1.1[0]? = some (.inr (0, rf1))) (z2 : h2.1[0]? = some (.inr (11, rf2))) (b1 : h1'.1.length + h2'.1.length ≤ 600000) (b2 : xsz xE0 h1'.1 + xsz xE0 h2'.1 ≤ 7302250) (inv : lwI xE0 ad cA D xCl (lwA s) s h1 h2 ws1 ws2 H locs) (hq1 : xa ad ws1 0 = some q1) (hq2 : xa ad ws2 0 = some q2) (hl : lv_has ls 4 [(0, .ref b), (1, .ref q1), (2, .ref q2), (3, .int (nI i))])
    (go : ∀ (ws1' ws2' : va_W) (H' : Heap) (locs' : List Loc), lwI xE0 ad cA D xCl (lwA s) s h1' h2' ws1' ws2' H' locs' → xa ad ws1' 0 = some q1 → xa ad ws2' 0 = some q2 → W p l e room_1 s m #[Value.ref b] below meth c H' locs' (h1'.1.length + h2'.1.length) (xsz xE0 h1'.1 + xsz xE0 h2'.1) Q (F0 m 652 ls [])) : W p l e room_1 s m #[Value.ref b] below meth c H locs (h1.1.length + h2.1.length) (xsz xE0 h1.1 + xsz xE0 h2.1) Q (F0 m 216 ls []) := by
  obtain ⟨hx, hb, hml, hown, hts, hXb, hK, hEv⟩ := id hF
  have hbA : ¬ lwA s b := Nat.not_le.mpr hXb.2
  have m1 := lw_len r1
  have m2 := lw_len r2
  refine lv_aload_n hx hb d_law_216 rfl (lv_at hl 1 rfl) ?_
  refine lw_do1 hF (av := []) (rest := []) xmok_3 rfl (xw14 31 rfl rfl) xmin_3 xmse_3 d_law_217 r1 z1 (lw_zi a) (by omega) (by omega) (show xcat [] ≤ 8 from Nat.le_of_ble_eq_true rfl) hl.1 inv hq1 rfl rfl (Nat.le_of_ble_eq_true rfl) (fun ws1 H locs inv hq1 => ?_)
  refine lv_pop hx hb d_law_220 rfl ?_
  refine lv_aload_n hx hb d_law_221 rfl (lv_at hl 2 rfl) ?_
  refine lw_do2 hF (av := []) (rest := []) xmok_27 rfl (xw38 9 rfl rfl) xmin_27 xmse_27 d_law_222 r2 z2 (lw_zi az) b1 b2 (show xcat [] ≤ 8 from Nat.le_of_ble_eq_true rfl) hl.1 inv hq2 rfl rfl (Nat.le_of_ble_eq_true rfl) (fun ws2 H locs inv hq2 => ?_)
  refine lv_pop hx hb d_law_225 rfl ?_
  refine lv_goto (tgt := 652) hx hb d_law_226 (by decide) ?_
  exact go _ _ _ _ inv hq1 hq2
theorem lw_c3 {i : Nat} {a az : Int32} (r1 : XM xE0 100 4 [.ref 0] h1 (fun v' h' => v' = some (.int a) ∧ h' = h1')) (r2 : XM xE0 100 52 [.ref 0] h2 (fun v' h' => v' = some (.int az) ∧ h' = h2')) (hF : lwF p s m c b L xs ad adV cA D) (hi : i + 4 ≤ L) (hL : L ≤ 2048) (z1 : h1.1[0]? = some (.inr (0, rf1))) (z2 : h2.1[0]? = some (.inr (11, rf2))) (b1 : h1'.1.length + h2'.1.length ≤ 600000) (b2 : xsz xE0 h1'.1 + xsz xE0 h2'.1 ≤ 7302250) (inv : lwI xE0 ad cA D xCl (lwA s) s h1 h2 ws1 ws2 H locs) (hq1 : xa ad ws1 0 = some q1) (hq2 : xa ad ws2 0 = some q2) (hl : lv_has ls 4 [(0, .ref b), (1, .ref q1), (2, .ref q2), (3, .int (nI i))])
    (go : ∀ (ws1' ws2' : va_W) (H' : Heap) (locs' : List Loc), lwI xE0 ad cA D xCl (lwA s) s h1' h2' ws1' ws2' H' locs' → xa ad ws1' 0 = some q1 → xa ad ws2' 0 = some q2 → W p l e room_1 s m #[Value.ref b] below meth c H' locs' (h1'.1.length + h2'.1.length) (xsz xE0 h1'.1 + xsz xE0 h2'.1) Q (F0 m 652 ls [])) : W p l e room_1 s m #[Value.ref b] below meth c H locs (h1.1.length + h2.1.length) (xsz xE0 h1.1 + xsz xE0 h2.1) Q (F0 m 229 ls []) := by
  obtain ⟨hx, hb, hml, hown, hts, hXb, hK, hEv⟩ := id hF
  have hbA : ¬ lwA s b := Nat.not_le.mpr hXb.2
  have m1 := lw_len r1
  have m2 := lw_len r2
  refine lv_aload_n hx hb d_law_229 rfl (lv_at hl 1 rfl) ?_
  refine lw_do1 hF (av := []) (rest := []) xmok_4 rfl (xw15 3 rfl rfl) xmin_4 xmse_4 d_law_230 r1 z1 (lw_zi a) (by omega) (by omega) (show xcat [] ≤ 8 from Nat.le_of_ble_eq_true rfl) hl.1 inv hq1 rfl rfl (Nat.le_of_ble_eq_true rfl) (fun ws1 H locs inv hq1 => ?_)
  refine lv_pop hx hb d_law_233 rfl ?_
  refine lv_aload_n hx hb d_law_234 rfl (lv_at hl 2 rfl) ?_
  refine lw_do2 hF (av := []) (rest := []) xmok_52 rfl (xw38 13 rfl rfl) xmin_52 xmse_52 d_law_235 r2 z2 (lw_zi az) b1 b2 (show xcat [] ≤ 8 from Nat.le_of_ble_eq_true rfl) hl.1 inv hq2 rfl rfl (Nat.le_of_ble_eq_true rfl) (fun ws2 H locs inv hq2 => ?_)
  refine lv_pop hx hb d_law_238 rfl ?_
  refine lv_goto (tgt := 652) hx hb d_law_239 (by decide) ?_
  exact go _ _ _ _ inv hq1 hq2
theorem lw_c4 {i : Nat} {a az : Int32} (r1 : XM xE0 100 7 [.ref 0] h1 (fun v' h' => v' = some (.int a) ∧ h' = h1')) (r2 : XM xE0 100 55 [.ref 0] h2 (fun v' h' => v' = some (.int az) ∧ h' = h2')) (hF : lwF p s m c b L xs ad adV cA D) (hi : i + 4 ≤ L) (hL : L ≤ 2048) (z1 : h1.1[0]? = some (.inr (0, rf1))) (z2 : h2.1[0]? = some (.inr (11, rf2))) (b1 : h1'.1.length + h2'.1.length ≤ 600000) (b2 : xsz xE0 h1'.1 + xsz xE0 h2'.1 ≤ 7302250) (inv : lwI xE0 ad cA D xCl (lwA s) s h1 h2 ws1 ws2 H locs) (hq1 : xa ad ws1 0 = some q1) (hq2 : xa ad ws2 0 = some q2) (hl : lv_has ls 4 [(0, .ref b), (1, .ref q1), (2, .ref q2), (3, .int (nI i))])
    (go : ∀ (ws1' ws2' : va_W) (H' : Heap) (locs' : List Loc), lwI xE0 ad cA D xCl (lwA s) s h1' h2' ws1' ws2' H' locs' → xa ad ws1' 0 = some q1 → xa ad ws2' 0 = some q2 → W p l e room_1 s m #[Value.ref b] below meth c H' locs' (h1'.1.length + h2'.1.length) (xsz xE0 h1'.1 + xsz xE0 h2'.1) Q (F0 m 652 ls [])) : W p l e room_1 s m #[Value.ref b] below meth c H locs (h1.1.length + h2.1.length) (xsz xE0 h1.1 + xsz xE0 h2.1) Q (F0 m 242 ls []) := by
  obtain ⟨hx, hb, hml, hown, hts, hXb, hK, hEv⟩ := id hF
  have hbA : ¬ lwA s b := Nat.not_le.mpr hXb.2
  have m1 := lw_len r1
  have m2 := lw_len r2
  refine lv_aload_n hx hb d_law_242 rfl (lv_at hl 1 rfl) ?_
  refine lw_do1 hF (av := []) (rest := []) xmok_7 rfl (xw24 25 rfl rfl) xmin_7 xmse_7 d_law_243 r1 z1 (lw_zi a) (by omega) (by omega) (show xcat [] ≤ 8 from Nat.le_of_ble_eq_true rfl) hl.1 inv hq1 rfl rfl (Nat.le_of_ble_eq_true rfl) (fun ws1 H locs inv hq1 => ?_)
  refine lv_pop hx hb d_law_246 rfl ?_
  refine lv_aload_n hx hb d_law_247 rfl (lv_at hl 2 rfl) ?_
  refine lw_do2 hF (av := []) (rest := []) xmok_55 rfl (xw43 11 rfl rfl) xmin_55 xmse_55 d_law_248 r2 z2 (lw_zi az) b1 b2 (show xcat [] ≤ 8 from Nat.le_of_ble_eq_true rfl) hl.1 inv hq2 rfl rfl (Nat.le_of_ble_eq_true rfl) (fun ws2 H locs inv hq2 => ?_)
  refine lv_pop hx hb d_law_251 rfl ?_
  refine lv_goto (tgt := 652) hx hb d_law_252 (by decide) ?_
  exact go _ _ _ _ inv hq1 hq2
theorem lw_c5 {i : Nat} {a az : Int32} (r1 : XM xE0 100 8 [.ref 0, .int (xs (nI i + 1).toNatClampNeg)] h1 (fun v' h' => v' = some (.int a) ∧ h' = h1')) (r2 : XM xE0 100 56 [.ref 0, .int (xs (nI i + 1).toNatClampNeg)] h2 (fun v' h' => v' = some (.int az) ∧ h' = h2')) (hF : lwF p s m c b L xs ad adV cA D) (hi : i + 4 ≤ L) (hL : L ≤ 2048) (z1 : h1.1[0]? = some (.inr (0, rf1))) (z2 : h2.1[0]? = some (.inr (11, rf2))) (b1 : h1'.1.length + h2'.1.length ≤ 600000) (b2 : xsz xE0 h1'.1 + xsz xE0 h2'.1 ≤ 7302250) (inv : lwI xE0 ad cA D xCl (lwA s) s h1 h2 ws1 ws2 H locs) (hq1 : xa ad ws1 0 = some q1) (hq2 : xa ad ws2 0 = some q2) (hl : lv_has ls 4 [(0, .ref b), (1, .ref q1), (2, .ref q2), (3, .int (nI i))])
    (go : ∀ (ws1' ws2' : va_W) (H' : Heap) (locs' : List Loc), lwI xE0 ad cA D xCl (lwA s) s h1' h2' ws1' ws2' H' locs' → xa ad ws1' 0 = some q1 → xa ad ws2' 0 = some q2 → W p l e room_1 s m #[Value.ref b] below meth c H' locs' (h1'.1.length + h2'.1.length) (xsz xE0 h1'.1 + xsz xE0 h2'.1) Q (F0 m 652 ls [])) : W p l e room_1 s m #[Value.ref b] below meth c H locs (h1.1.length + h2.1.length) (xsz xE0 h1.1 + xsz xE0 h2.1) Q (F0 m 255 ls []) := by
  obtain ⟨hx, hb, hml, hown, hts, hXb, hK, hEv⟩ := id hF
  have hbA : ¬ lwA s b := Nat.not_le.mpr hXb.2
  have m1 := lw_len r1
  have m2 := lw_len r2
  refine lv_aload_n hx hb d_law_255 rfl (lv_at hl 1 rfl) ?_
  refine lv_aload_n hx hb d_law_256 rfl (lv_at hl 0 rfl) ?_
  refine lv_iload_n hx hb d_law_257 rfl (lv_at hl 3 rfl) ?_
  refine lv_iconst (v := 1) hx hb d_law_258 (by decide) ?_
  refine lv_iadd hx hb d_law_259 ?_
  refine va_sld (A := lwA s) hx hb hXb.1 hXb.2 hbA inv.2.2.2.2 (lw_k3 (k := 1) hi hL (by decide)) d_law_260 ?_
  refine lw_do1 hF (av := [.int (xs (nI i + 1).toNatClampNeg)]) (rest := []) xmok_8 rfl (xw24 29 rfl rfl) xmin_8 xmse_8 d_law_261 r1 z1 (lw_zi a) (by omega) (by omega) (show xcat [] ≤ 8 from Nat.le_of_ble_eq_true rfl) hl.1 inv hq1 ⟨_, _, rfl, rfl, rfl⟩ rfl (Nat.le_of_ble_eq_true rfl) (fun ws1 H locs inv hq1 => ?_)
  refine lv_pop hx hb d_law_264 rfl ?_
  refine lv_aload_n hx hb d_law_265 rfl (lv_at hl 2 rfl) ?_
  refine lv_aload_n hx hb d_law_266 rfl (lv_at hl 0 rfl) ?_
  refine lv_iload_n hx hb d_law_267 rfl (lv_at hl 3 rfl) ?_
  refine lv_iconst (v := 1) hx hb d_law_268 (by decide) ?_
  refine lv_iadd hx hb d_law_269 ?_
  refine va_sld (A := lwA s) hx hb hXb.1 hXb.2 hbA inv.2.2.2.2 (lw_k3 (k := 1) hi hL (by decide)) d_law_270 ?_
  refine lw_do2 hF (av := [.int (xs (nI i + 1).toNatClampNeg)]) (rest := []) xmok_56 rfl (xw43 15 rfl rfl) xmin_56 xmse_56 d_law_271 r2 z2 (lw_zi az) b1 b2 (show xcat [] ≤ 8 from Nat.le_of_ble_eq_true rfl) hl.1 inv hq2 ⟨_, _, rfl, rfl, rfl⟩ rfl (Nat.le_of_ble_eq_true rfl) (fun ws2 H locs inv hq2 => ?_)
  refine lv_pop hx hb d_law_274 rfl ?_
  refine lv_goto (tgt := 652) hx hb d_law_275 (by decide) ?_
  exact go _ _ _ _ inv hq1 hq2
theorem lw_c6 {i : Nat} {a az : Int32} (r1 : XM xE0 100 9 [.ref 0, .int (xs (nI i + 1).toNatClampNeg), .int (xs (nI i + 2).toNatClampNeg), .int (xs (nI i + 3).toNatClampNeg)] h1 (fun v' h' => v' = some (.int a) ∧ h' = h1')) (r2 : XM xE0 100 57 [.ref 0, .int (xs (nI i + 1).toNatClampNeg), .int (xs (nI i + 2).toNatClampNeg), .int (xs (nI i + 3).toNatClampNeg)] h2 (fun v' h' => v' = some (.int az) ∧ h' = h2')) (hF : lwF p s m c b L xs ad adV cA D) (hi : i + 4 ≤ L) (hL : L ≤ 2048) (z1 : h1.1[0]? = some (.inr (0, rf1))) (z2 : h2.1[0]? = some (.inr (11, rf2))) (b1 : h1'.1.length + h2'.1.length ≤ 600000) (b2 : xsz xE0 h1'.1 + xsz xE0 h2'.1 ≤ 7302250) (inv : lwI xE0 ad cA D xCl (lwA s) s h1 h2 ws1 ws2 H locs) (hq1 : xa ad ws1 0 = some q1) (hq2 : xa ad ws2 0 = some q2) (hl : lv_has ls 4 [(0, .ref b), (1, .ref q1), (2, .ref q2), (3, .int (nI i))])
    (go : ∀ (ws1' ws2' : va_W) (H' : Heap) (locs' : List Loc), lwI xE0 ad cA D xCl (lwA s) s h1' h2' ws1' ws2' H' locs' → xa ad ws1' 0 = some q1 → xa ad ws2' 0 = some q2 → W p l e room_1 s m #[Value.ref b] below meth c H' locs' (h1'.1.length + h2'.1.length) (xsz xE0 h1'.1 + xsz xE0 h2'.1) Q (F0 m 652 ls [])) : W p l e room_1 s m #[Value.ref b] below meth c H locs (h1.1.length + h2.1.length) (xsz xE0 h1.1 + xsz xE0 h2.1) Q (F0 m 278 ls []) := by
  obtain ⟨hx, hb, hml, hown, hts, hXb, hK, hEv⟩ := id hF
  have hbA : ¬ lwA s b := Nat.not_le.mpr hXb.2
  have m1 := lw_len r1
  have m2 := lw_len r2
  refine lv_aload_n hx hb d_law_278 rfl (lv_at hl 1 rfl) ?_
  refine lv_aload_n hx hb d_law_279 rfl (lv_at hl 0 rfl) ?_
  refine lv_iload_n hx hb d_law_280 rfl (lv_at hl 3 rfl) ?_
  refine lv_iconst (v := 1) hx hb d_law_281 (by decide) ?_
  refine lv_iadd hx hb d_law_282 ?_
  refine va_sld (A := lwA s) hx hb hXb.1 hXb.2 hbA inv.2.2.2.2 (lw_k3 (k := 1) hi hL (by decide)) d_law_283 ?_
  refine lv_aload_n hx hb d_law_284 rfl (lv_at hl 0 rfl) ?_
  refine lv_iload_n hx hb d_law_285 rfl (lv_at hl 3 rfl) ?_
  refine lv_iconst (v := 2) hx hb d_law_286 (by decide) ?_
  refine lv_iadd hx hb d_law_287 ?_
  refine va_sld (A := lwA s) hx hb hXb.1 hXb.2 hbA inv.2.2.2.2 (lw_k3 (k := 2) hi hL (by decide)) d_law_288 ?_
  refine lv_aload_n hx hb d_law_289 rfl (lv_at hl 0 rfl) ?_
  refine lv_iload_n hx hb d_law_290 rfl (lv_at hl 3 rfl) ?_
  refine lv_iconst (v := 3) hx hb d_law_291 (by decide) ?_
  refine lv_iadd hx hb d_law_292 ?_
  refine va_sld (A := lwA s) hx hb hXb.1 hXb.2 hbA inv.2.2.2.2 (lw_k3 (k := 3) hi hL (by decide)) d_law_293 ?_
  refine lw_do1 hF (av := [.int (xs (nI i + 1).toNatClampNeg), .int (xs (nI i + 2).toNatClampNeg), .int (xs (nI i + 3).toNatClampNeg)]) (rest := []) xmok_9 rfl (xw25 1 rfl rfl) xmin_9 xmse_9 d_law_294 r1 z1 (lw_zi a) (by omega) (by omega) (show xcat [] ≤ 8 from Nat.le_of_ble_eq_true rfl) hl.1 inv hq1 ⟨_, _, rfl, rfl, _, _, rfl, rfl, _, _, rfl, rfl, rfl⟩ rfl (Nat.le_of_ble_eq_true rfl) (fun ws1 H locs inv hq1 => ?_)
  refine lv_pop hx hb d_law_297 rfl ?_
  refine lv_aload_n hx hb d_law_298 rfl (lv_at hl 2 rfl) ?_
  refine lv_aload_n hx hb d_law_299 rfl (lv_at hl 0 rfl) ?_
  refine lv_iload_n hx hb d_law_300 rfl (lv_at hl 3 rfl) ?_
  refine lv_iconst (v := 1) hx hb d_law_301 (by decide) ?_
  refine lv_iadd hx hb d_law_302 ?_
  refine va_sld (A := lwA s) hx hb hXb.1 hXb.2 hbA inv.2.2.2.2 (lw_k3 (k := 1) hi hL (by decide)) d_law_303 ?_
  refine lv_aload_n hx hb d_law_304 rfl (lv_at hl 0 rfl) ?_
  refine lv_iload_n hx hb d_law_305 rfl (lv_at hl 3 rfl) ?_
  refine lv_iconst (v := 2) hx hb d_law_306 (by decide) ?_
  refine lv_iadd hx hb d_law_307 ?_
  refine va_sld (A := lwA s) hx hb hXb.1 hXb.2 hbA inv.2.2.2.2 (lw_k3 (k := 2) hi hL (by decide)) d_law_308 ?_
  refine lv_aload_n hx hb d_law_309 rfl (lv_at hl 0 rfl) ?_
  refine lv_iload_n hx hb d_law_310 rfl (lv_at hl 3 rfl) ?_
  refine lv_iconst (v := 3) hx hb d_law_311 (by decide) ?_
  refine lv_iadd hx hb d_law_312 ?_
  refine va_sld (A := lwA s) hx hb hXb.1 hXb.2 hbA inv.2.2.2.2 (lw_k3 (k := 3) hi hL (by decide)) d_law_313 ?_
  refine lw_do2 hF (av := [.int (xs (nI i + 1).toNatClampNeg), .int (xs (nI i + 2).toNatClampNeg), .int (xs (nI i + 3).toNatClampNeg)]) (rest := []) xmok_57 rfl (xw43 19 rfl rfl) xmin_57 xmse_57 d_law_314 r2 z2 (lw_zi az) b1 b2 (show xcat [] ≤ 8 from Nat.le_of_ble_eq_true rfl) hl.1 inv hq2 ⟨_, _, rfl, rfl, _, _, rfl, rfl, _, _, rfl, rfl, rfl⟩ rfl (Nat.le_of_ble_eq_true rfl) (fun ws2 H locs inv hq2 => ?_)
  refine lv_pop hx hb d_law_317 rfl ?_
  refine lv_goto (tgt := 652) hx hb d_law_318 (by decide) ?_
  exact go _ _ _ _ inv hq1 hq2
theorem lw_c7 {i : Nat} {a az : Int32} (r1 : XM xE0 100 10 [.ref 0, .long (lwJ (xs (nI i + 1).toNatClampNeg) (xs (nI i + 2).toNatClampNeg)), .int (xs (nI i + 3).toNatClampNeg)] h1 (fun v' h' => v' = some (.int a) ∧ h' = h1')) (r2 : XM xE0 100 58 [.ref 0, .long (lwJ (xs (nI i + 1).toNatClampNeg) (xs (nI i + 2).toNatClampNeg)), .int (xs (nI i + 3).toNatClampNeg)] h2 (fun v' h' => v' = some (.int az) ∧ h' = h2')) (hF : lwF p s m c b L xs ad adV cA D) (hi : i + 4 ≤ L) (hL : L ≤ 2048) (z1 : h1.1[0]? = some (.inr (0, rf1))) (z2 : h2.1[0]? = some (.inr (11, rf2))) (b1 : h1'.1.length + h2'.1.length ≤ 600000) (b2 : xsz xE0 h1'.1 + xsz xE0 h2'.1 ≤ 7302250) (inv : lwI xE0 ad cA D xCl (lwA s) s h1 h2 ws1 ws2 H locs) (hq1 : xa ad ws1 0 = some q1) (hq2 : xa ad ws2 0 = some q2) (hl : lv_has ls 4 [(0, .ref b), (1, .ref q1), (2, .ref q2), (3, .int (nI i))])
    (go : ∀ (ws1' ws2' : va_W) (H' : Heap) (locs' : List Loc), lwI xE0 ad cA D xCl (lwA s) s h1' h2' ws1' ws2' H' locs' → xa ad ws1' 0 = some q1 → xa ad ws2' 0 = some q2 → W p l e room_1 s m #[Value.ref b] below meth c H' locs' (h1'.1.length + h2'.1.length) (xsz xE0 h1'.1 + xsz xE0 h2'.1) Q (F0 m 652 ls [])) : W p l e room_1 s m #[Value.ref b] below meth c H locs (h1.1.length + h2.1.length) (xsz xE0 h1.1 + xsz xE0 h2.1) Q (F0 m 321 ls []) := by
  obtain ⟨hx, hb, hml, hown, hts, hXb, hK, hEv⟩ := id hF
  have hbA : ¬ lwA s b := Nat.not_le.mpr hXb.2
  have m1 := lw_len r1
  have m2 := lw_len r2
  refine lv_aload_n hx hb d_law_321 rfl (lv_at hl 1 rfl) ?_
  refine lv_aload_n hx hb d_law_322 rfl (lv_at hl 0 rfl) ?_
  refine lv_iload_n hx hb d_law_323 rfl (lv_at hl 3 rfl) ?_
  refine lv_iconst (v := 1) hx hb d_law_324 (by decide) ?_
  refine lv_iadd hx hb d_law_325 ?_
  refine va_sld (A := lwA s) hx hb hXb.1 hXb.2 hbA inv.2.2.2.2 (lw_k3 (k := 1) hi hL (by decide)) d_law_326 ?_
  refine lv_i2l hx hb d_law_327 rfl ?_
  refine lv_bipush (v := 32) hx hb d_law_328 (by decide) ?_
  refine lv_lshl hx hb d_law_330 rfl ?_
  refine lv_aload_n hx hb d_law_331 rfl (lv_at hl 0 rfl) ?_
  refine lv_iload_n hx hb d_law_332 rfl (lv_at hl 3 rfl) ?_
  refine lv_iconst (v := 2) hx hb d_law_333 (by decide) ?_
  refine lv_iadd hx hb d_law_334 ?_
  refine va_sld (A := lwA s) hx hb hXb.1 hXb.2 hbA inv.2.2.2.2 (lw_k3 (k := 2) hi hL (by decide)) d_law_335 ?_
  refine lv_i2l hx hb d_law_336 rfl ?_
  refine lv_ldc2 hx hb hown (hts _ (xw46 6 rfl rfl)) d_law_337 ?_
  refine lv_land hx hb d_law_340 ?_
  refine lv_lor hx hb d_law_341 ?_
  refine lv_aload_n hx hb d_law_342 rfl (lv_at hl 0 rfl) ?_
  refine lv_iload_n hx hb d_law_343 rfl (lv_at hl 3 rfl) ?_
  refine lv_iconst (v := 3) hx hb d_law_344 (by decide) ?_
  refine lv_iadd hx hb d_law_345 ?_
  refine va_sld (A := lwA s) hx hb hXb.1 hXb.2 hbA inv.2.2.2.2 (lw_k3 (k := 3) hi hL (by decide)) d_law_346 ?_
  refine lw_do1 hF (av := [.long (lwJ (xs (nI i + 1).toNatClampNeg) (xs (nI i + 2).toNatClampNeg)), .int (xs (nI i + 3).toNatClampNeg)]) (rest := []) xmok_10 rfl (xw25 14 rfl rfl) xmin_10 xmse_10 d_law_347 r1 z1 (lw_zi a) (by omega) (by omega) (show xcat [] ≤ 8 from Nat.le_of_ble_eq_true rfl) hl.1 inv hq1 ⟨_, _, rfl, rfl, _, _, rfl, rfl, rfl⟩ rfl (Nat.le_of_ble_eq_true rfl) (fun ws1 H locs inv hq1 => ?_)
  refine lv_pop hx hb d_law_350 rfl ?_
  refine lv_aload_n hx hb d_law_351 rfl (lv_at hl 2 rfl) ?_
  refine lv_aload_n hx hb d_law_352 rfl (lv_at hl 0 rfl) ?_
  refine lv_iload_n hx hb d_law_353 rfl (lv_at hl 3 rfl) ?_
  refine lv_iconst (v := 1) hx hb d_law_354 (by decide) ?_
  refine lv_iadd hx hb d_law_355 ?_
  refine va_sld (A := lwA s) hx hb hXb.1 hXb.2 hbA inv.2.2.2.2 (lw_k3 (k := 1) hi hL (by decide)) d_law_356 ?_
  refine lv_i2l hx hb d_law_357 rfl ?_
  refine lv_bipush (v := 32) hx hb d_law_358 (by decide) ?_
  refine lv_lshl hx hb d_law_360 rfl ?_
  refine lv_aload_n hx hb d_law_361 rfl (lv_at hl 0 rfl) ?_
  refine lv_iload_n hx hb d_law_362 rfl (lv_at hl 3 rfl) ?_
  refine lv_iconst (v := 2) hx hb d_law_363 (by decide) ?_
  refine lv_iadd hx hb d_law_364 ?_
  refine va_sld (A := lwA s) hx hb hXb.1 hXb.2 hbA inv.2.2.2.2 (lw_k3 (k := 2) hi hL (by decide)) d_law_365 ?_
  refine lv_i2l hx hb d_law_366 rfl ?_
  refine lv_ldc2 hx hb hown (hts _ (xw46 6 rfl rfl)) d_law_367 ?_
  refine lv_land hx hb d_law_370 ?_
  refine lv_lor hx hb d_law_371 ?_
  refine lv_aload_n hx hb d_law_372 rfl (lv_at hl 0 rfl) ?_
  refine lv_iload_n hx hb d_law_373 rfl (lv_at hl 3 rfl) ?_
  refine lv_iconst (v := 3) hx hb d_law_374 (by decide) ?_
  refine lv_iadd hx hb d_law_375 ?_
  refine va_sld (A := lwA s) hx hb hXb.1 hXb.2 hbA inv.2.2.2.2 (lw_k3 (k := 3) hi hL (by decide)) d_law_376 ?_
  refine lw_do2 hF (av := [.long (lwJ (xs (nI i + 1).toNatClampNeg) (xs (nI i + 2).toNatClampNeg)), .int (xs (nI i + 3).toNatClampNeg)]) (rest := []) xmok_58 rfl (xw43 24 rfl rfl) xmin_58 xmse_58 d_law_377 r2 z2 (lw_zi az) b1 b2 (show xcat [] ≤ 8 from Nat.le_of_ble_eq_true rfl) hl.1 inv hq2 ⟨_, _, rfl, rfl, _, _, rfl, rfl, rfl⟩ rfl (Nat.le_of_ble_eq_true rfl) (fun ws2 H locs inv hq2 => ?_)
  refine lv_pop hx hb d_law_380 rfl ?_
  refine lv_goto (tgt := 652) hx hb d_law_381 (by decide) ?_
  exact go _ _ _ _ inv hq1 hq2
theorem lw_c8 {i : Nat} {a az : Int32} (r1 : XM xE0 100 11 [.ref 0] h1 (fun v' h' => v' = some (.int a) ∧ h' = h1')) (r2 : XM xE0 100 59 [.ref 0] h2 (fun v' h' => v' = some (.int az) ∧ h' = h2')) (hF : lwF p s m c b L xs ad adV cA D) (hi : i + 4 ≤ L) (hL : L ≤ 2048) (z1 : h1.1[0]? = some (.inr (0, rf1))) (z2 : h2.1[0]? = some (.inr (11, rf2))) (b1 : h1'.1.length + h2'.1.length ≤ 600000) (b2 : xsz xE0 h1'.1 + xsz xE0 h2'.1 ≤ 7302250) (inv : lwI xE0 ad cA D xCl (lwA s) s h1 h2 ws1 ws2 H locs) (hq1 : xa ad ws1 0 = some q1) (hq2 : xa ad ws2 0 = some q2) (hl : lv_has ls 4 [(0, .ref b), (1, .ref q1), (2, .ref q2), (3, .int (nI i))])
    (go : ∀ (ws1' ws2' : va_W) (H' : Heap) (locs' : List Loc), lwI xE0 ad cA D xCl (lwA s) s h1' h2' ws1' ws2' H' locs' → xa ad ws1' 0 = some q1 → xa ad ws2' 0 = some q2 → W p l e room_1 s m #[Value.ref b] below meth c H' locs' (h1'.1.length + h2'.1.length) (xsz xE0 h1'.1 + xsz xE0 h2'.1) Q (F0 m 652 ls [])) : W p l e room_1 s m #[Value.ref b] below meth c H locs (h1.1.length + h2.1.length) (xsz xE0 h1.1 + xsz xE0 h2.1) Q (F0 m 384 ls []) := by
  obtain ⟨hx, hb, hml, hown, hts, hXb, hK, hEv⟩ := id hF
  have hbA : ¬ lwA s b := Nat.not_le.mpr hXb.2
  have m1 := lw_len r1
  have m2 := lw_len r2
  refine lv_aload_n hx hb d_law_384 rfl (lv_at hl 1 rfl) ?_
  refine lw_do1 hF (av := []) (rest := []) xmok_11 rfl (xw25 18 rfl rfl) xmin_11 xmse_11 d_law_385 r1 z1 (lw_zi a) (by omega) (by omega) (show xcat [] ≤ 8 from Nat.le_of_ble_eq_true rfl) hl.1 inv hq1 rfl rfl (Nat.le_of_ble_eq_true rfl) (fun ws1 H locs inv hq1 => ?_)
  refine lv_pop hx hb d_law_388 rfl ?_
  refine lv_aload_n hx hb d_law_389 rfl (lv_at hl 2 rfl) ?_
  refine lw_do2 hF (av := []) (rest := []) xmok_59 rfl (xw43 28 rfl rfl) xmin_59 xmse_59 d_law_390 r2 z2 (lw_zi az) b1 b2 (show xcat [] ≤ 8 from Nat.le_of_ble_eq_true rfl) hl.1 inv hq2 rfl rfl (Nat.le_of_ble_eq_true rfl) (fun ws2 H locs inv hq2 => ?_)
  refine lv_pop hx hb d_law_393 rfl ?_
  refine lv_goto (tgt := 652) hx hb d_law_394 (by decide) ?_
  exact go _ _ _ _ inv hq1 hq2
theorem lw_c9 {i : Nat} {a az : Int32} (r1 : XM xE0 100 12 [.ref 0, .int (xs (nI i + 1).toNatClampNeg)] h1 (fun v' h' => v' = some (.int a) ∧ h' = h1')) (r2 : XM xE0 100 60 [.ref 0, .int (xs (nI i + 1).toNatClampNeg)] h2 (fun v' h' => v' = some (.int az) ∧ h' = h2')) (hF : lwF p s m c b L xs ad adV cA D) (hi : i + 4 ≤ L) (hL : L ≤ 2048) (z1 : h1.1[0]? = some (.inr (0, rf1))) (z2 : h2.1[0]? = some (.inr (11, rf2))) (b1 : h1'.1.length + h2'.1.length ≤ 600000) (b2 : xsz xE0 h1'.1 + xsz xE0 h2'.1 ≤ 7302250) (inv : lwI xE0 ad cA D xCl (lwA s) s h1 h2 ws1 ws2 H locs) (hq1 : xa ad ws1 0 = some q1) (hq2 : xa ad ws2 0 = some q2) (hl : lv_has ls 4 [(0, .ref b), (1, .ref q1), (2, .ref q2), (3, .int (nI i))])
    (go : ∀ (ws1' ws2' : va_W) (H' : Heap) (locs' : List Loc), lwI xE0 ad cA D xCl (lwA s) s h1' h2' ws1' ws2' H' locs' → xa ad ws1' 0 = some q1 → xa ad ws2' 0 = some q2 → W p l e room_1 s m #[Value.ref b] below meth c H' locs' (h1'.1.length + h2'.1.length) (xsz xE0 h1'.1 + xsz xE0 h2'.1) Q (F0 m 652 ls [])) : W p l e room_1 s m #[Value.ref b] below meth c H locs (h1.1.length + h2.1.length) (xsz xE0 h1.1 + xsz xE0 h2.1) Q (F0 m 397 ls []) := by
  obtain ⟨hx, hb, hml, hown, hts, hXb, hK, hEv⟩ := id hF
  have hbA : ¬ lwA s b := Nat.not_le.mpr hXb.2
  have m1 := lw_len r1
  have m2 := lw_len r2
  refine lv_aload_n hx hb d_law_397 rfl (lv_at hl 1 rfl) ?_
  refine lv_aload_n hx hb d_law_398 rfl (lv_at hl 0 rfl) ?_
  refine lv_iload_n hx hb d_law_399 rfl (lv_at hl 3 rfl) ?_
  refine lv_iconst (v := 1) hx hb d_law_400 (by decide) ?_
  refine lv_iadd hx hb d_law_401 ?_
  refine va_sld (A := lwA s) hx hb hXb.1 hXb.2 hbA inv.2.2.2.2 (lw_k3 (k := 1) hi hL (by decide)) d_law_402 ?_
  refine lw_do1 hF (av := [.int (xs (nI i + 1).toNatClampNeg)]) (rest := []) xmok_12 rfl (xw26 7 rfl rfl) xmin_12 xmse_12 d_law_403 r1 z1 (lw_zi a) (by omega) (by omega) (show xcat [] ≤ 8 from Nat.le_of_ble_eq_true rfl) hl.1 inv hq1 ⟨_, _, rfl, rfl, rfl⟩ rfl (Nat.le_of_ble_eq_true rfl) (fun ws1 H locs inv hq1 => ?_)
  refine lv_pop hx hb d_law_406 rfl ?_
  refine lv_aload_n hx hb d_law_407 rfl (lv_at hl 2 rfl) ?_
  refine lv_aload_n hx hb d_law_408 rfl (lv_at hl 0 rfl) ?_
  refine lv_iload_n hx hb d_law_409 rfl (lv_at hl 3 rfl) ?_
  refine lv_iconst (v := 1) hx hb d_law_410 (by decide) ?_
  refine lv_iadd hx hb d_law_411 ?_
  refine va_sld (A := lwA s) hx hb hXb.1 hXb.2 hbA inv.2.2.2.2 (lw_k3 (k := 1) hi hL (by decide)) d_law_412 ?_
  refine lw_do2 hF (av := [.int (xs (nI i + 1).toNatClampNeg)]) (rest := []) xmok_60 rfl (xw44 0 rfl rfl) xmin_60 xmse_60 d_law_413 r2 z2 (lw_zi az) b1 b2 (show xcat [] ≤ 8 from Nat.le_of_ble_eq_true rfl) hl.1 inv hq2 ⟨_, _, rfl, rfl, rfl⟩ rfl (Nat.le_of_ble_eq_true rfl) (fun ws2 H locs inv hq2 => ?_)
  refine lv_pop hx hb d_law_416 rfl ?_
  refine lv_goto (tgt := 652) hx hb d_law_417 (by decide) ?_
  exact go _ _ _ _ inv hq1 hq2
theorem lw_c10 {i : Nat} {a az : Int32} (r1 : XM xE0 100 13 [.ref 0, .int (xs (nI i + 1).toNatClampNeg), .int (xs (nI i + 2).toNatClampNeg)] h1 (fun v' h' => v' = some (.int a) ∧ h' = h1')) (r2 : XM xE0 100 61 [.ref 0, .int (xs (nI i + 1).toNatClampNeg), .int (xs (nI i + 2).toNatClampNeg)] h2 (fun v' h' => v' = some (.int az) ∧ h' = h2')) (hF : lwF p s m c b L xs ad adV cA D) (hi : i + 4 ≤ L) (hL : L ≤ 2048) (z1 : h1.1[0]? = some (.inr (0, rf1))) (z2 : h2.1[0]? = some (.inr (11, rf2))) (b1 : h1'.1.length + h2'.1.length ≤ 600000) (b2 : xsz xE0 h1'.1 + xsz xE0 h2'.1 ≤ 7302250) (inv : lwI xE0 ad cA D xCl (lwA s) s h1 h2 ws1 ws2 H locs) (hq1 : xa ad ws1 0 = some q1) (hq2 : xa ad ws2 0 = some q2) (hl : lv_has ls 4 [(0, .ref b), (1, .ref q1), (2, .ref q2), (3, .int (nI i))])
    (go : ∀ (ws1' ws2' : va_W) (H' : Heap) (locs' : List Loc), lwI xE0 ad cA D xCl (lwA s) s h1' h2' ws1' ws2' H' locs' → xa ad ws1' 0 = some q1 → xa ad ws2' 0 = some q2 → W p l e room_1 s m #[Value.ref b] below meth c H' locs' (h1'.1.length + h2'.1.length) (xsz xE0 h1'.1 + xsz xE0 h2'.1) Q (F0 m 652 ls [])) : W p l e room_1 s m #[Value.ref b] below meth c H locs (h1.1.length + h2.1.length) (xsz xE0 h1.1 + xsz xE0 h2.1) Q (F0 m 420 ls []) := by
  obtain ⟨hx, hb, hml, hown, hts, hXb, hK, hEv⟩ := id hF
  have hbA : ¬ lwA s b := Nat.not_le.mpr hXb.2
  have m1 := lw_len r1
  have m2 := lw_len r2
  refine lv_aload_n hx hb d_law_420 rfl (lv_at hl 1 rfl) ?_
  refine lv_aload_n hx hb d_law_421 rfl (lv_at hl 0 rfl) ?_
  refine lv_iload_n hx hb d_law_422 rfl (lv_at hl 3 rfl) ?_
  refine lv_iconst (v := 1) hx hb d_law_423 (by decide) ?_
  refine lv_iadd hx hb d_law_424 ?_
  refine va_sld (A := lwA s) hx hb hXb.1 hXb.2 hbA inv.2.2.2.2 (lw_k3 (k := 1) hi hL (by decide)) d_law_425 ?_
  refine lv_aload_n hx hb d_law_426 rfl (lv_at hl 0 rfl) ?_
  refine lv_iload_n hx hb d_law_427 rfl (lv_at hl 3 rfl) ?_
  refine lv_iconst (v := 2) hx hb d_law_428 (by decide) ?_
  refine lv_iadd hx hb d_law_429 ?_
  refine va_sld (A := lwA s) hx hb hXb.1 hXb.2 hbA inv.2.2.2.2 (lw_k3 (k := 2) hi hL (by decide)) d_law_430 ?_
  refine lw_do1 hF (av := [.int (xs (nI i + 1).toNatClampNeg), .int (xs (nI i + 2).toNatClampNeg)]) (rest := []) xmok_13 rfl (xw26 11 rfl rfl) xmin_13 xmse_13 d_law_431 r1 z1 (lw_zi a) (by omega) (by omega) (show xcat [] ≤ 8 from Nat.le_of_ble_eq_true rfl) hl.1 inv hq1 ⟨_, _, rfl, rfl, _, _, rfl, rfl, rfl⟩ rfl (Nat.le_of_ble_eq_true rfl) (fun ws1 H locs inv hq1 => ?_)
  refine lv_pop hx hb d_law_434 rfl ?_
  refine lv_aload_n hx hb d_law_435 rfl (lv_at hl 2 rfl) ?_
  refine lv_aload_n hx hb d_law_436 rfl (lv_at hl 0 rfl) ?_
  refine lv_iload_n hx hb d_law_437 rfl (lv_at hl 3 rfl) ?_
  refine lv_iconst (v := 1) hx hb d_law_438 (by decide) ?_
  refine lv_iadd hx hb d_law_439 ?_
  refine va_sld (A := lwA s) hx hb hXb.1 hXb.2 hbA inv.2.2.2.2 (lw_k3 (k := 1) hi hL (by decide)) d_law_440 ?_
  refine lv_aload_n hx hb d_law_441 rfl (lv_at hl 0 rfl) ?_
  refine lv_iload_n hx hb d_law_442 rfl (lv_at hl 3 rfl) ?_
  refine lv_iconst (v := 2) hx hb d_law_443 (by decide) ?_
  refine lv_iadd hx hb d_law_444 ?_
  refine va_sld (A := lwA s) hx hb hXb.1 hXb.2 hbA inv.2.2.2.2 (lw_k3 (k := 2) hi hL (by decide)) d_law_445 ?_
  refine lw_do2 hF (av := [.int (xs (nI i + 1).toNatClampNeg), .int (xs (nI i + 2).toNatClampNeg)]) (rest := []) xmok_61 rfl (xw44 4 rfl rfl) xmin_61 xmse_61 d_law_446 r2 z2 (lw_zi az) b1 b2 (show xcat [] ≤ 8 from Nat.le_of_ble_eq_true rfl) hl.1 inv hq2 ⟨_, _, rfl, rfl, _, _, rfl, rfl, rfl⟩ rfl (Nat.le_of_ble_eq_true rfl) (fun ws2 H locs inv hq2 => ?_)
  refine lv_pop hx hb d_law_449 rfl ?_
  refine lv_goto (tgt := 652) hx hb d_law_450 (by decide) ?_
  exact go _ _ _ _ inv hq1 hq2
theorem lw_c11 {i : Nat} {a az : Int32} (r1 : XM xE0 100 14 [.ref 0, .int (xs (nI i + 1).toNatClampNeg)] h1 (fun v' h' => v' = some (.int a) ∧ h' = h1')) (r2 : XM xE0 100 69 [.ref 0, .int (xs (nI i + 1).toNatClampNeg)] h2 (fun v' h' => v' = some (.int az) ∧ h' = h2')) (hF : lwF p s m c b L xs ad adV cA D) (hi : i + 4 ≤ L) (hL : L ≤ 2048) (z1 : h1.1[0]? = some (.inr (0, rf1))) (z2 : h2.1[0]? = some (.inr (11, rf2))) (b1 : h1'.1.length + h2'.1.length ≤ 600000) (b2 : xsz xE0 h1'.1 + xsz xE0 h2'.1 ≤ 7302250) (inv : lwI xE0 ad cA D xCl (lwA s) s h1 h2 ws1 ws2 H locs) (hq1 : xa ad ws1 0 = some q1) (hq2 : xa ad ws2 0 = some q2) (hl : lv_has ls 4 [(0, .ref b), (1, .ref q1), (2, .ref q2), (3, .int (nI i))])
    (go : ∀ (ws1' ws2' : va_W) (H' : Heap) (locs' : List Loc), lwI xE0 ad cA D xCl (lwA s) s h1' h2' ws1' ws2' H' locs' → xa ad ws1' 0 = some q1 → xa ad ws2' 0 = some q2 → W p l e room_1 s m #[Value.ref b] below meth c H' locs' (h1'.1.length + h2'.1.length) (xsz xE0 h1'.1 + xsz xE0 h2'.1) Q (F0 m 652 ls [])) : W p l e room_1 s m #[Value.ref b] below meth c H locs (h1.1.length + h2.1.length) (xsz xE0 h1.1 + xsz xE0 h2.1) Q (F0 m 453 ls []) := by
  obtain ⟨hx, hb, hml, hown, hts, hXb, hK, hEv⟩ := id hF
  have hbA : ¬ lwA s b := Nat.not_le.mpr hXb.2
  have m1 := lw_len r1
  have m2 := lw_len r2
  refine lv_aload_n hx hb d_law_453 rfl (lv_at hl 1 rfl) ?_
  refine lv_aload_n hx hb d_law_454 rfl (lv_at hl 0 rfl) ?_
  refine lv_iload_n hx hb d_law_455 rfl (lv_at hl 3 rfl) ?_
  refine lv_iconst (v := 1) hx hb d_law_456 (by decide) ?_
  refine lv_iadd hx hb d_law_457 ?_
  refine va_sld (A := lwA s) hx hb hXb.1 hXb.2 hbA inv.2.2.2.2 (lw_k3 (k := 1) hi hL (by decide)) d_law_458 ?_
  refine lw_do1 hF (av := [.int (xs (nI i + 1).toNatClampNeg)]) (rest := []) xmok_14 rfl (xw27 7 rfl rfl) xmin_14 xmse_14 d_law_459 r1 z1 (lw_zi a) (by omega) (by omega) (show xcat [] ≤ 8 from Nat.le_of_ble_eq_true rfl) hl.1 inv hq1 ⟨_, _, rfl, rfl, rfl⟩ rfl (Nat.le_of_ble_eq_true rfl) (fun ws1 H locs inv hq1 => ?_)
  refine lv_pop hx hb d_law_462 rfl ?_
  refine lv_aload_n hx hb d_law_463 rfl (lv_at hl 2 rfl) ?_
  refine lv_aload_n hx hb d_law_464 rfl (lv_at hl 0 rfl) ?_
  refine lv_iload_n hx hb d_law_465 rfl (lv_at hl 3 rfl) ?_
  refine lv_iconst (v := 1) hx hb d_law_466 (by decide) ?_
  refine lv_iadd hx hb d_law_467 ?_
  refine va_sld (A := lwA s) hx hb hXb.1 hXb.2 hbA inv.2.2.2.2 (lw_k3 (k := 1) hi hL (by decide)) d_law_468 ?_
  refine lw_do2 hF (av := [.int (xs (nI i + 1).toNatClampNeg)]) (rest := []) xmok_69 rfl (xw44 8 rfl rfl) xmin_69 xmse_69 d_law_469 r2 z2 (lw_zi az) b1 b2 (show xcat [] ≤ 8 from Nat.le_of_ble_eq_true rfl) hl.1 inv hq2 ⟨_, _, rfl, rfl, rfl⟩ rfl (Nat.le_of_ble_eq_true rfl) (fun ws2 H locs inv hq2 => ?_)
  refine lv_pop hx hb d_law_472 rfl ?_
  refine lv_goto (tgt := 652) hx hb d_law_473 (by decide) ?_
  exact go _ _ _ _ inv hq1 hq2
theorem lw_c12 {i : Nat} {a az : Int32} (r1 : XM xE0 100 15 [.ref 0, .int (xs (nI i + 1).toNatClampNeg)] h1 (fun v' h' => v' = some (.int a) ∧ h' = h1')) (r2 : XM xE0 100 70 [.ref 0, .int (xs (nI i + 1).toNatClampNeg)] h2 (fun v' h' => v' = some (.int az) ∧ h' = h2')) (hF : lwF p s m c b L xs ad adV cA D) (hi : i + 4 ≤ L) (hL : L ≤ 2048) (z1 : h1.1[0]? = some (.inr (0, rf1))) (z2 : h2.1[0]? = some (.inr (11, rf2))) (b1 : h1'.1.length + h2'.1.length ≤ 600000) (b2 : xsz xE0 h1'.1 + xsz xE0 h2'.1 ≤ 7302250) (inv : lwI xE0 ad cA D xCl (lwA s) s h1 h2 ws1 ws2 H locs) (hq1 : xa ad ws1 0 = some q1) (hq2 : xa ad ws2 0 = some q2) (hl : lv_has ls 4 [(0, .ref b), (1, .ref q1), (2, .ref q2), (3, .int (nI i))])
    (go : ∀ (ws1' ws2' : va_W) (H' : Heap) (locs' : List Loc), lwI xE0 ad cA D xCl (lwA s) s h1' h2' ws1' ws2' H' locs' → xa ad ws1' 0 = some q1 → xa ad ws2' 0 = some q2 → W p l e room_1 s m #[Value.ref b] below meth c H' locs' (h1'.1.length + h2'.1.length) (xsz xE0 h1'.1 + xsz xE0 h2'.1) Q (F0 m 652 ls [])) : W p l e room_1 s m #[Value.ref b] below meth c H locs (h1.1.length + h2.1.length) (xsz xE0 h1.1 + xsz xE0 h2.1) Q (F0 m 476 ls []) := by
  obtain ⟨hx, hb, hml, hown, hts, hXb, hK, hEv⟩ := id hF
  have hbA : ¬ lwA s b := Nat.not_le.mpr hXb.2
  have m1 := lw_len r1
  have m2 := lw_len r2
  refine lv_aload_n hx hb d_law_476 rfl (lv_at hl 1 rfl) ?_
  refine lv_aload_n hx hb d_law_477 rfl (lv_at hl 0 rfl) ?_
  refine lv_iload_n hx hb d_law_478 rfl (lv_at hl 3 rfl) ?_
  refine lv_iconst (v := 1) hx hb d_law_479 (by decide) ?_
  refine lv_iadd hx hb d_law_480 ?_
  refine va_sld (A := lwA s) hx hb hXb.1 hXb.2 hbA inv.2.2.2.2 (lw_k3 (k := 1) hi hL (by decide)) d_law_481 ?_
  refine lw_do1 hF (av := [.int (xs (nI i + 1).toNatClampNeg)]) (rest := []) xmok_15 rfl (xw29 6 rfl rfl) xmin_15 xmse_15 d_law_482 r1 z1 (lw_zi a) (by omega) (by omega) (show xcat [] ≤ 8 from Nat.le_of_ble_eq_true rfl) hl.1 inv hq1 ⟨_, _, rfl, rfl, rfl⟩ rfl (Nat.le_of_ble_eq_true rfl) (fun ws1 H locs inv hq1 => ?_)
  refine lv_pop hx hb d_law_485 rfl ?_
  refine lv_aload_n hx hb d_law_486 rfl (lv_at hl 2 rfl) ?_
  refine lv_aload_n hx hb d_law_487 rfl (lv_at hl 0 rfl) ?_
  refine lv_iload_n hx hb d_law_488 rfl (lv_at hl 3 rfl) ?_
  refine lv_iconst (v := 1) hx hb d_law_489 (by decide) ?_
  refine lv_iadd hx hb d_law_490 ?_
  refine va_sld (A := lwA s) hx hb hXb.1 hXb.2 hbA inv.2.2.2.2 (lw_k3 (k := 1) hi hL (by decide)) d_law_491 ?_
  refine lw_do2 hF (av := [.int (xs (nI i + 1).toNatClampNeg)]) (rest := []) xmok_70 rfl (xw45 10 rfl rfl) xmin_70 xmse_70 d_law_492 r2 z2 (lw_zi az) b1 b2 (show xcat [] ≤ 8 from Nat.le_of_ble_eq_true rfl) hl.1 inv hq2 ⟨_, _, rfl, rfl, rfl⟩ rfl (Nat.le_of_ble_eq_true rfl) (fun ws2 H locs inv hq2 => ?_)
  refine lv_pop hx hb d_law_495 rfl ?_
  refine lv_goto (tgt := 652) hx hb d_law_496 (by decide) ?_
  exact go _ _ _ _ inv hq1 hq2
theorem lw_c13 {i : Nat} {a az : Int32} (r1 : XM xE0 100 17 [.ref 0, .long (lwJ (xs (nI i + 1).toNatClampNeg) (xs (nI i + 2).toNatClampNeg))] h1 (fun v' h' => v' = none ∧ h' = h1')) (r2 : XM xE0 100 71 [.ref 0, .long (lwJ (xs (nI i + 1).toNatClampNeg) (xs (nI i + 2).toNatClampNeg))] h2 (fun v' h' => v' = none ∧ h' = h2')) (hF : lwF p s m c b L xs ad adV cA D) (hi : i + 4 ≤ L) (hL : L ≤ 2048) (z1 : h1.1[0]? = some (.inr (0, rf1))) (z2 : h2.1[0]? = some (.inr (11, rf2))) (b1 : h1'.1.length + h2'.1.length ≤ 600000) (b2 : xsz xE0 h1'.1 + xsz xE0 h2'.1 ≤ 7302250) (inv : lwI xE0 ad cA D xCl (lwA s) s h1 h2 ws1 ws2 H locs) (hq1 : xa ad ws1 0 = some q1) (hq2 : xa ad ws2 0 = some q2) (hl : lv_has ls 4 [(0, .ref b), (1, .ref q1), (2, .ref q2), (3, .int (nI i))])
    (go : ∀ (ws1' ws2' : va_W) (H' : Heap) (locs' : List Loc), lwI xE0 ad cA D xCl (lwA s) s h1' h2' ws1' ws2' H' locs' → xa ad ws1' 0 = some q1 → xa ad ws2' 0 = some q2 → W p l e room_1 s m #[Value.ref b] below meth c H' locs' (h1'.1.length + h2'.1.length) (xsz xE0 h1'.1 + xsz xE0 h2'.1) Q (F0 m 652 ls [])) : W p l e room_1 s m #[Value.ref b] below meth c H locs (h1.1.length + h2.1.length) (xsz xE0 h1.1 + xsz xE0 h2.1) Q (F0 m 499 ls []) := by
  obtain ⟨hx, hb, hml, hown, hts, hXb, hK, hEv⟩ := id hF
  have hbA : ¬ lwA s b := Nat.not_le.mpr hXb.2
  have m1 := lw_len r1
  have m2 := lw_len r2
  refine lv_aload_n hx hb d_law_499 rfl (lv_at hl 1 rfl) ?_
  refine lv_aload_n hx hb d_law_500 rfl (lv_at hl 0 rfl) ?_
  refine lv_iload_n hx hb d_law_501 rfl (lv_at hl 3 rfl) ?_
  refine lv_iconst (v := 1) hx hb d_law_502 (by decide) ?_
  refine lv_iadd hx hb d_law_503 ?_
  refine va_sld (A := lwA s) hx hb hXb.1 hXb.2 hbA inv.2.2.2.2 (lw_k3 (k := 1) hi hL (by decide)) d_law_504 ?_
  refine lv_i2l hx hb d_law_505 rfl ?_
  refine lv_bipush (v := 32) hx hb d_law_506 (by decide) ?_
  refine lv_lshl hx hb d_law_508 rfl ?_
  refine lv_aload_n hx hb d_law_509 rfl (lv_at hl 0 rfl) ?_
  refine lv_iload_n hx hb d_law_510 rfl (lv_at hl 3 rfl) ?_
  refine lv_iconst (v := 2) hx hb d_law_511 (by decide) ?_
  refine lv_iadd hx hb d_law_512 ?_
  refine va_sld (A := lwA s) hx hb hXb.1 hXb.2 hbA inv.2.2.2.2 (lw_k3 (k := 2) hi hL (by decide)) d_law_513 ?_
  refine lv_i2l hx hb d_law_514 rfl ?_
  refine lv_ldc2 hx hb hown (hts _ (xw46 6 rfl rfl)) d_law_515 ?_
  refine lv_land hx hb d_law_518 ?_
  refine lv_lor hx hb d_law_519 ?_
  refine lw_do1 hF (av := [.long (lwJ (xs (nI i + 1).toNatClampNeg) (xs (nI i + 2).toNatClampNeg))]) (rest := []) xmok_17 rfl (xw29 15 rfl rfl) xmin_17 xmse_17 d_law_520 r1 z1 lw_zv (by omega) (by omega) (show xcat [] ≤ 8 from Nat.le_of_ble_eq_true rfl) hl.1 inv hq1 ⟨_, _, rfl, rfl, rfl⟩ rfl (Nat.le_of_ble_eq_true rfl) (fun ws1 H locs inv hq1 => ?_)
  refine lv_aload_n hx hb d_law_523 rfl (lv_at hl 2 rfl) ?_
  refine lv_aload_n hx hb d_law_524 rfl (lv_at hl 0 rfl) ?_
  refine lv_iload_n hx hb d_law_525 rfl (lv_at hl 3 rfl) ?_
  refine lv_iconst (v := 1) hx hb d_law_526 (by decide) ?_
  refine lv_iadd hx hb d_law_527 ?_
  refine va_sld (A := lwA s) hx hb hXb.1 hXb.2 hbA inv.2.2.2.2 (lw_k3 (k := 1) hi hL (by decide)) d_law_528 ?_
  refine lv_i2l hx hb d_law_529 rfl ?_
  refine lv_bipush (v := 32) hx hb d_law_530 (by decide) ?_
  refine lv_lshl hx hb d_law_532 rfl ?_
  refine lv_aload_n hx hb d_law_533 rfl (lv_at hl 0 rfl) ?_
  refine lv_iload_n hx hb d_law_534 rfl (lv_at hl 3 rfl) ?_
  refine lv_iconst (v := 2) hx hb d_law_535 (by decide) ?_
  refine lv_iadd hx hb d_law_536 ?_
  refine va_sld (A := lwA s) hx hb hXb.1 hXb.2 hbA inv.2.2.2.2 (lw_k3 (k := 2) hi hL (by decide)) d_law_537 ?_
  refine lv_i2l hx hb d_law_538 rfl ?_
  refine lv_ldc2 hx hb hown (hts _ (xw46 6 rfl rfl)) d_law_539 ?_
  refine lv_land hx hb d_law_542 ?_
  refine lv_lor hx hb d_law_543 ?_
  refine lw_do2 hF (av := [.long (lwJ (xs (nI i + 1).toNatClampNeg) (xs (nI i + 2).toNatClampNeg))]) (rest := []) xmok_71 rfl (xw45 15 rfl rfl) xmin_71 xmse_71 d_law_544 r2 z2 lw_zv b1 b2 (show xcat [] ≤ 8 from Nat.le_of_ble_eq_true rfl) hl.1 inv hq2 ⟨_, _, rfl, rfl, rfl⟩ rfl (Nat.le_of_ble_eq_true rfl) (fun ws2 H locs inv hq2 => ?_)
  refine lv_goto (tgt := 652) hx hb d_law_547 (by decide) ?_
  exact go _ _ _ _ inv hq1 hq2
theorem lw_c14 {i : Nat} {a az : Int32} (r1 : XM xE0 100 18 [.ref 0, .int (xs (nI i + 1).toNatClampNeg), .int (xs (nI i + 2).toNatClampNeg), .int (xs (nI i + 3).toNatClampNeg)] h1 (fun v' h' => v' = some (.int a) ∧ h' = h1')) (r2 : XM xE0 100 73 [.ref 0, .int (xs (nI i + 1).toNatClampNeg), .int (xs (nI i + 2).toNatClampNeg), .int (xs (nI i + 3).toNatClampNeg)] h2 (fun v' h' => v' = some (.int az) ∧ h' = h2')) (hF : lwF p s m c b L xs ad adV cA D) (hi : i + 4 ≤ L) (hL : L ≤ 2048) (z1 : h1.1[0]? = some (.inr (0, rf1))) (z2 : h2.1[0]? = some (.inr (11, rf2))) (b1 : h1'.1.length + h2'.1.length ≤ 600000) (b2 : xsz xE0 h1'.1 + xsz xE0 h2'.1 ≤ 7302250) (inv : lwI xE0 ad cA D xCl (lwA s) s h1 h2 ws1 ws2 H locs) (hq1 : xa ad ws1 0 = some q1) (hq2 : xa ad ws2 0 = some q2) (hl : lv_has ls 4 [(0, .ref b), (1, .ref q1), (2, .ref q2), (3, .int (nI i))])
    (go : ∀ (ws1' ws2' : va_W) (H' : Heap) (locs' : List Loc), lwI xE0 ad cA D xCl (lwA s) s h1' h2' ws1' ws2' H' locs' → xa ad ws1' 0 = some q1 → xa ad ws2' 0 = some q2 → W p l e room_1 s m #[Value.ref b] below meth c H' locs' (h1'.1.length + h2'.1.length) (xsz xE0 h1'.1 + xsz xE0 h2'.1) Q (F0 m 652 ls [])) : W p l e room_1 s m #[Value.ref b] below meth c H locs (h1.1.length + h2.1.length) (xsz xE0 h1.1 + xsz xE0 h2.1) Q (F0 m 550 ls []) := by
  obtain ⟨hx, hb, hml, hown, hts, hXb, hK, hEv⟩ := id hF
  have hbA : ¬ lwA s b := Nat.not_le.mpr hXb.2
  have m1 := lw_len r1
  have m2 := lw_len r2
  refine lv_aload_n hx hb d_law_550 rfl (lv_at hl 1 rfl) ?_
  refine lv_aload_n hx hb d_law_551 rfl (lv_at hl 0 rfl) ?_
  refine lv_iload_n hx hb d_law_552 rfl (lv_at hl 3 rfl) ?_
  refine lv_iconst (v := 1) hx hb d_law_553 (by decide) ?_
  refine lv_iadd hx hb d_law_554 ?_
  refine va_sld (A := lwA s) hx hb hXb.1 hXb.2 hbA inv.2.2.2.2 (lw_k3 (k := 1) hi hL (by decide)) d_law_555 ?_
  refine lv_aload_n hx hb d_law_556 rfl (lv_at hl 0 rfl) ?_
  refine lv_iload_n hx hb d_law_557 rfl (lv_at hl 3 rfl) ?_
  refine lv_iconst (v := 2) hx hb d_law_558 (by decide) ?_
  refine lv_iadd hx hb d_law_559 ?_
  refine va_sld (A := lwA s) hx hb hXb.1 hXb.2 hbA inv.2.2.2.2 (lw_k3 (k := 2) hi hL (by decide)) d_law_560 ?_
  refine lv_aload_n hx hb d_law_561 rfl (lv_at hl 0 rfl) ?_
  refine lv_iload_n hx hb d_law_562 rfl (lv_at hl 3 rfl) ?_
  refine lv_iconst (v := 3) hx hb d_law_563 (by decide) ?_
  refine lv_iadd hx hb d_law_564 ?_
  refine va_sld (A := lwA s) hx hb hXb.1 hXb.2 hbA inv.2.2.2.2 (lw_k3 (k := 3) hi hL (by decide)) d_law_565 ?_
  refine lw_do1 hF (av := [.int (xs (nI i + 1).toNatClampNeg), .int (xs (nI i + 2).toNatClampNeg), .int (xs (nI i + 3).toNatClampNeg)]) (rest := []) xmok_18 rfl (xw29 19 rfl rfl) xmin_18 xmse_18 d_law_566 r1 z1 (lw_zi a) (by omega) (by omega) (show xcat [] ≤ 8 from Nat.le_of_ble_eq_true rfl) hl.1 inv hq1 ⟨_, _, rfl, rfl, _, _, rfl, rfl, _, _, rfl, rfl, rfl⟩ rfl (Nat.le_of_ble_eq_true rfl) (fun ws1 H locs inv hq1 => ?_)
  refine lv_pop hx hb d_law_569 rfl ?_
  refine lv_aload_n hx hb d_law_570 rfl (lv_at hl 2 rfl) ?_
  refine lv_aload_n hx hb d_law_571 rfl (lv_at hl 0 rfl) ?_
  refine lv_iload_n hx hb d_law_572 rfl (lv_at hl 3 rfl) ?_
  refine lv_iconst (v := 1) hx hb d_law_573 (by decide) ?_
  refine lv_iadd hx hb d_law_574 ?_
  refine va_sld (A := lwA s) hx hb hXb.1 hXb.2 hbA inv.2.2.2.2 (lw_k3 (k := 1) hi hL (by decide)) d_law_575 ?_
  refine lv_aload_n hx hb d_law_576 rfl (lv_at hl 0 rfl) ?_
  refine lv_iload_n hx hb d_law_577 rfl (lv_at hl 3 rfl) ?_
  refine lv_iconst (v := 2) hx hb d_law_578 (by decide) ?_
  refine lv_iadd hx hb d_law_579 ?_
  refine va_sld (A := lwA s) hx hb hXb.1 hXb.2 hbA inv.2.2.2.2 (lw_k3 (k := 2) hi hL (by decide)) d_law_580 ?_
  refine lv_aload_n hx hb d_law_581 rfl (lv_at hl 0 rfl) ?_
  refine lv_iload_n hx hb d_law_582 rfl (lv_at hl 3 rfl) ?_
  refine lv_iconst (v := 3) hx hb d_law_583 (by decide) ?_
  refine lv_iadd hx hb d_law_584 ?_
  refine va_sld (A := lwA s) hx hb hXb.1 hXb.2 hbA inv.2.2.2.2 (lw_k3 (k := 3) hi hL (by decide)) d_law_585 ?_
  refine lw_do2 hF (av := [.int (xs (nI i + 1).toNatClampNeg), .int (xs (nI i + 2).toNatClampNeg), .int (xs (nI i + 3).toNatClampNeg)]) (rest := []) xmok_73 rfl (xw45 19 rfl rfl) xmin_73 xmse_73 d_law_586 r2 z2 (lw_zi az) b1 b2 (show xcat [] ≤ 8 from Nat.le_of_ble_eq_true rfl) hl.1 inv hq2 ⟨_, _, rfl, rfl, _, _, rfl, rfl, _, _, rfl, rfl, rfl⟩ rfl (Nat.le_of_ble_eq_true rfl) (fun ws2 H locs inv hq2 => ?_)
  refine lv_pop hx hb d_law_589 rfl ?_
  refine lv_goto (tgt := 652) hx hb d_law_590 (by decide) ?_
  exact go _ _ _ _ inv hq1 hq2
theorem lw_c15 {i : Nat} {a az : Int32} (r1 : XM xE0 100 19 [.ref 0, .int (xs (nI i + 1).toNatClampNeg)] h1 (fun v' h' => v' = some (.int a) ∧ h' = h1')) (r2 : XM xE0 100 74 [.ref 0, .int (xs (nI i + 1).toNatClampNeg)] h2 (fun v' h' => v' = some (.int a) ∧ h' = h2')) (hF : lwF p s m c b L xs ad adV cA D) (hi : i + 4 ≤ L) (hL : L ≤ 2048) (z1 : h1.1[0]? = some (.inr (0, rf1))) (z2 : h2.1[0]? = some (.inr (11, rf2))) (b1 : h1'.1.length + h2'.1.length ≤ 600000) (b2 : xsz xE0 h1'.1 + xsz xE0 h2'.1 ≤ 7302250) (inv : lwI xE0 ad cA D xCl (lwA s) s h1 h2 ws1 ws2 H locs) (hq1 : xa ad ws1 0 = some q1) (hq2 : xa ad ws2 0 = some q2) (hl : lv_has ls 4 [(0, .ref b), (1, .ref q1), (2, .ref q2), (3, .int (nI i))])
    (go : ∀ (ws1' ws2' : va_W) (H' : Heap) (locs' : List Loc), lwI xE0 ad cA D xCl (lwA s) s h1' h2' ws1' ws2' H' locs' → xa ad ws1' 0 = some q1 → xa ad ws2' 0 = some q2 → W p l e room_1 s m #[Value.ref b] below meth c H' locs' (h1'.1.length + h2'.1.length) (xsz xE0 h1'.1 + xsz xE0 h2'.1) Q (F0 m 652 ls [])) : W p l e room_1 s m #[Value.ref b] below meth c H locs (h1.1.length + h2.1.length) (xsz xE0 h1.1 + xsz xE0 h2.1) Q (F0 m 593 ls []) := by
  obtain ⟨hx, hb, hml, hown, hts, hXb, hK, hEv⟩ := id hF
  have hbA : ¬ lwA s b := Nat.not_le.mpr hXb.2
  have m1 := lw_len r1
  have m2 := lw_len r2
  refine lv_aload_n hx hb d_law_593 rfl (lv_at hl 1 rfl) ?_
  refine lv_aload_n hx hb d_law_594 rfl (lv_at hl 0 rfl) ?_
  refine lv_iload_n hx hb d_law_595 rfl (lv_at hl 3 rfl) ?_
  refine lv_iconst (v := 1) hx hb d_law_596 (by decide) ?_
  refine lv_iadd hx hb d_law_597 ?_
  refine va_sld (A := lwA s) hx hb hXb.1 hXb.2 hbA inv.2.2.2.2 (lw_k3 (k := 1) hi hL (by decide)) d_law_598 ?_
  refine lw_do1 hF (av := [.int (xs (nI i + 1).toNatClampNeg)]) (rest := []) xmok_19 rfl (xw30 17 rfl rfl) xmin_19 xmse_19 d_law_599 r1 z1 (lw_zi a) (by omega) (by omega) (show xcat [] ≤ 8 from Nat.le_of_ble_eq_true rfl) hl.1 inv hq1 ⟨_, _, rfl, rfl, rfl⟩ rfl (Nat.le_of_ble_eq_true rfl) (fun ws1 H locs inv hq1 => ?_)
  refine lv_aload_n hx hb d_law_602 rfl (lv_at hl 2 rfl) ?_
  refine lv_aload_n hx hb d_law_603 rfl (lv_at hl 0 rfl) ?_
  refine lv_iload_n hx hb d_law_604 rfl (lv_at hl 3 rfl) ?_
  refine lv_iconst (v := 1) hx hb d_law_605 (by decide) ?_
  refine lv_iadd hx hb d_law_606 ?_
  refine va_sld (A := lwA s) hx hb hXb.1 hXb.2 hbA inv.2.2.2.2 (lw_k3 (k := 1) hi hL (by decide)) d_law_607 ?_
  refine lw_do2 hF (av := [.int (xs (nI i + 1).toNatClampNeg)]) (rest := [.int a]) xmok_74 rfl (xw45 28 rfl rfl) xmin_74 xmse_74 d_law_608 r2 z2 (lw_zi a) b1 b2 (show xcat [.int a] ≤ 8 from Nat.le_of_ble_eq_true rfl) hl.1 inv hq2 ⟨_, _, rfl, rfl, rfl⟩ rfl (Nat.le_of_ble_eq_true rfl) (fun ws2 H locs inv hq2 => ?_)
  exact lv_icmp_eq (tgt := 652) hx hb d_law_611 (by decide) (fun _ => go _ _ _ _ inv hq1 hq2) (fun z => absurd rfl z)
theorem lw_c16 {i : Nat} {a az : Int32} (r1 : XM xE0 100 21 [.ref 0, .int (xs (nI i + 1).toNatClampNeg)] h1 (fun v' h' => v' = some (.int a) ∧ h' = h1')) (r2 : XM xE0 100 75 [.ref 0, .int (xs (nI i + 1).toNatClampNeg)] h2 (fun v' h' => v' = some (.int az) ∧ h' = h2')) (hF : lwF p s m c b L xs ad adV cA D) (hi : i + 4 ≤ L) (hL : L ≤ 2048) (z1 : h1.1[0]? = some (.inr (0, rf1))) (z2 : h2.1[0]? = some (.inr (11, rf2))) (b1 : h1'.1.length + h2'.1.length ≤ 600000) (b2 : xsz xE0 h1'.1 + xsz xE0 h2'.1 ≤ 7302250) (inv : lwI xE0 ad cA D xCl (lwA s) s h1 h2 ws1 ws2 H locs) (hq1 : xa ad ws1 0 = some q1) (hq2 : xa ad ws2 0 = some q2) (hl : lv_has ls 4 [(0, .ref b), (1, .ref q1), (2, .ref q2), (3, .int (nI i))])
    (go : ∀ (ws1' ws2' : va_W) (H' : Heap) (locs' : List Loc), lwI xE0 ad cA D xCl (lwA s) s h1' h2' ws1' ws2' H' locs' → xa ad ws1' 0 = some q1 → xa ad ws2' 0 = some q2 → W p l e room_1 s m #[Value.ref b] below meth c H' locs' (h1'.1.length + h2'.1.length) (xsz xE0 h1'.1 + xsz xE0 h2'.1) Q (F0 m 652 ls [])) : W p l e room_1 s m #[Value.ref b] below meth c H locs (h1.1.length + h2.1.length) (xsz xE0 h1.1 + xsz xE0 h2.1) Q (F0 m 616 ls []) := by
  obtain ⟨hx, hb, hml, hown, hts, hXb, hK, hEv⟩ := id hF
  have hbA : ¬ lwA s b := Nat.not_le.mpr hXb.2
  have m1 := lw_len r1
  have m2 := lw_len r2
  refine lv_aload_n hx hb d_law_616 rfl (lv_at hl 1 rfl) ?_
  refine lv_aload_n hx hb d_law_617 rfl (lv_at hl 0 rfl) ?_
  refine lv_iload_n hx hb d_law_618 rfl (lv_at hl 3 rfl) ?_
  refine lv_iconst (v := 1) hx hb d_law_619 (by decide) ?_
  refine lv_iadd hx hb d_law_620 ?_
  refine va_sld (A := lwA s) hx hb hXb.1 hXb.2 hbA inv.2.2.2.2 (lw_k3 (k := 1) hi hL (by decide)) d_law_621 ?_
  refine lw_do1 hF (av := [.int (xs (nI i + 1).toNatClampNeg)]) (rest := []) xmok_21 rfl (xw30 29 rfl rfl) xmin_21 xmse_21 d_law_622 r1 z1 (lw_zi a) (by omega) (by omega) (show xcat [] ≤ 8 from Nat.le_of_ble_eq_true rfl) hl.1 inv hq1 ⟨_, _, rfl, rfl, rfl⟩ rfl (Nat.le_of_ble_eq_true rfl) (fun ws1 H locs inv hq1 => ?_)
  refine lv_pop hx hb d_law_625 rfl ?_
  refine lv_aload_n hx hb d_law_626 rfl (lv_at hl 2 rfl) ?_
  refine lv_aload_n hx hb d_law_627 rfl (lv_at hl 0 rfl) ?_
  refine lv_iload_n hx hb d_law_628 rfl (lv_at hl 3 rfl) ?_
  refine lv_iconst (v := 1) hx hb d_law_629 (by decide) ?_
  refine lv_iadd hx hb d_law_630 ?_
  refine va_sld (A := lwA s) hx hb hXb.1 hXb.2 hbA inv.2.2.2.2 (lw_k3 (k := 1) hi hL (by decide)) d_law_631 ?_
  refine lw_do2 hF (av := [.int (xs (nI i + 1).toNatClampNeg)]) (rest := []) xmok_75 rfl (xw46 1 rfl rfl) xmin_75 xmse_75 d_law_632 r2 z2 (lw_zi az) b1 b2 (show xcat [] ≤ 8 from Nat.le_of_ble_eq_true rfl) hl.1 inv hq2 ⟨_, _, rfl, rfl, rfl⟩ rfl (Nat.le_of_ble_eq_true rfl) (fun ws2 H locs inv hq2 => ?_)
  refine lv_pop hx hb d_law_635 rfl ?_
  refine lv_goto (tgt := 652) hx hb d_law_636 (by decide) ?_
  exact go _ _ _ _ inv hq1 hq2
theorem lw_c17 {i : Nat} {a az : Int32} (r1 : XM xE0 100 22 [.ref 0] h1 (fun v' h' => v' = some (.int a) ∧ h' = h1')) (r2 : XM xE0 100 76 [.ref 0] h2 (fun v' h' => v' = some (.int az) ∧ h' = h2')) (hF : lwF p s m c b L xs ad adV cA D) (hi : i + 4 ≤ L) (hL : L ≤ 2048) (z1 : h1.1[0]? = some (.inr (0, rf1))) (z2 : h2.1[0]? = some (.inr (11, rf2))) (b1 : h1'.1.length + h2'.1.length ≤ 600000) (b2 : xsz xE0 h1'.1 + xsz xE0 h2'.1 ≤ 7302250) (inv : lwI xE0 ad cA D xCl (lwA s) s h1 h2 ws1 ws2 H locs) (hq1 : xa ad ws1 0 = some q1) (hq2 : xa ad ws2 0 = some q2) (hl : lv_has ls 4 [(0, .ref b), (1, .ref q1), (2, .ref q2), (3, .int (nI i))])
    (go : ∀ (ws1' ws2' : va_W) (H' : Heap) (locs' : List Loc), lwI xE0 ad cA D xCl (lwA s) s h1' h2' ws1' ws2' H' locs' → xa ad ws1' 0 = some q1 → xa ad ws2' 0 = some q2 → W p l e room_1 s m #[Value.ref b] below meth c H' locs' (h1'.1.length + h2'.1.length) (xsz xE0 h1'.1 + xsz xE0 h2'.1) Q (F0 m 652 ls [])) : W p l e room_1 s m #[Value.ref b] below meth c H locs (h1.1.length + h2.1.length) (xsz xE0 h1.1 + xsz xE0 h2.1) Q (F0 m 639 ls []) := by
  obtain ⟨hx, hb, hml, hown, hts, hXb, hK, hEv⟩ := id hF
  have hbA : ¬ lwA s b := Nat.not_le.mpr hXb.2
  have m1 := lw_len r1
  have m2 := lw_len r2
  refine lv_aload_n hx hb d_law_639 rfl (lv_at hl 1 rfl) ?_
  refine lw_do1 hF (av := []) (rest := []) xmok_22 rfl (xw31 5 rfl rfl) xmin_22 xmse_22 d_law_640 r1 z1 (lw_zi a) (by omega) (by omega) (show xcat [] ≤ 8 from Nat.le_of_ble_eq_true rfl) hl.1 inv hq1 rfl rfl (Nat.le_of_ble_eq_true rfl) (fun ws1 H locs inv hq1 => ?_)
  refine lv_pop hx hb d_law_643 rfl ?_
  refine lv_aload_n hx hb d_law_644 rfl (lv_at hl 2 rfl) ?_
  refine lw_do2 hF (av := []) (rest := []) xmok_76 rfl (xw46 5 rfl rfl) xmin_76 xmse_76 d_law_645 r2 z2 (lw_zi az) b1 b2 (show xcat [] ≤ 8 from Nat.le_of_ble_eq_true rfl) hl.1 inv hq2 rfl rfl (Nat.le_of_ble_eq_true rfl) (fun ws2 H locs inv hq2 => ?_)
  refine lv_pop hx hb d_law_648 rfl ?_
  refine lv_goto (tgt := 652) hx hb d_law_649 (by decide) ?_
  exact go _ _ _ _ inv hq1 hq2
end LWC
