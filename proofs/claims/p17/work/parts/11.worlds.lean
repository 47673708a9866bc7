/-! the law: two worlds side by side, a call on one of them -/
def lwI (E : xE) (ad : Nat → Nat) (cA : FieldType → ClassId) (D : va_G) (cl : List vw_C) (A : Nat → Prop) (s : State) (h1 h2 : xH) (ws1 ws2 : va_W) (H : Heap) (locs : List Loc) : Prop :=
  (xW E ad cA h1 ws1 ∧ xW E ad cA h2 ws2) ∧ (va_P D cl ws1 H ∧ va_P D cl ws2 H) ∧ (va_D A ws1 ∧ va_D A ws2) ∧ (∀ (i j : Nat) (x y : Nat × va_E), ws1[i]? = some x → ws2[j]? = some y → x.1 ≠ y.1) ∧ va_S A s.heap H locs
section LWW
variable {p : Program} {l : Launch} {e : Env} {R : Room} {s : State} {m : MethodId} {args : Array Value} {below : List Frame} {meth : Method} {c : Code} {Q : State → Prop}
variable {E : xE} {ad adV : Nat → Nat} {cA : FieldType → ClassId} {D : va_G} {cl : List vw_C} {A : Nat → Prop} {nL : Nat} {H H1 : Heap} {locs locs1 : List Loc} {cells slots pc : Nat} {ls : Array Slot} {cc : ByteArray}
variable {TB : List Cond} {TF : List xNF} {TM : List xNM} {TS : List xTS} {nS : Nat} {lenS : List Nat} {bytS : List (List Int32)} {own : String} {h1 h2 h1' : xH} {ws1 ws2 ws1' : va_W}
theorem lwI.swap (k : lwI E ad cA D cl A s h1 h2 ws1 ws2 H locs) : lwI E ad cA D cl A s h2 h1 ws2 ws1 H locs := ⟨⟨k.1.2, k.1.1⟩, ⟨k.2.1.2, k.2.1.1⟩, ⟨k.2.2.1.2, k.2.2.1.1⟩, fun i j x y a b e => k.2.2.2.1 j i y x b a e.symm, k.2.2.2.2⟩
theorem lwI.next (k : lwI E ad cA D cl A s h1 h2 ws1 ws2 H locs) (hAB : ∀ q, va_A ws1 H.size q → A q) (q2 : xW E ad cA h1' ws1') (q4 : va_P D cl ws1' H1) (q6 : va_D (va_A ws1 H.size) ws1') (hk : ∀ q : Nat, q < H.size → ¬ va_A ws1 H.size q → H1[q]? = H[q]?) (q7 : va_S A s.heap H1 locs1) : lwI E ad cA D cl A s h1' h2 ws1' ws2 H1 locs1 := by
  have apart : ∀ (j : Nat) (y : Nat × va_E), ws2[j]? = some y → y.1 < H.size ∧ ¬ va_A ws1 H.size y.1 := by
    intro j y hy
    have hl := (k.2.1.2 j y hy).lt
    refine ⟨hl, fun z => ?_⟩
    rcases z with ⟨i, e9, z⟩ | z
    · exact k.2.2.2.1 i j _ y z hy rfl
    · omega
  refine ⟨⟨q2, k.1.2⟩, ⟨q4, fun j y hy => (k.2.1.2 j y hy).kept (hk y.1 (apart j y hy).1 (apart j y hy).2)⟩, ⟨q6.weaken (fun _ q _ z => hAB q.1 z), k.2.2.1.2⟩, fun i j x y hx hy e9 => ?_, q7⟩
  exact (apart j y hy).2 (by rw [← e9]; exact q6.2 i x hx)
theorem xcallK {mc1 ms1 : Nat} {ws : va_W} {st0 rest : List Value} {v : Option Value} {h' : xH} {a : Array Value} (hr : va_Run p l e R s m args below meth c H locs cells slots mc1 ms1 (F0 m pc ls st0) rest (xQc E ad cA D cl ws H.size v h' a) (va_A ws H.size)) (hS : va_S A s.heap H locs) (hAB : ∀ q, va_A ws H.size q → A q)
    (kk : ∀ (vc : Option Value) (ws' : va_W) (H1 : Heap) (locs1 : List Loc), xvo (xa ad ws') v vc → xW E ad cA h' ws' → xmon (xa ad ws) (xa ad ws') → va_P D cl ws' H1 → va_D (va_A ws H.size) ws' → (∀ q : Nat, q < H.size → ¬ va_A ws H.size q → H1[q]? = H[q]?) → va_S A s.heap H1 locs1 → W p l e R s m args below meth c H1 locs1 (cells + mc1) (slots + ms1) Q (F0 m (pc + 3) ls (vc.toList ++ rest))) : W p l e R s m args below meth c H locs cells slots Q (F0 m pc ls st0) := by
  intro T hT X
  obtain ⟨v9, st₀, t, T', L, h0, X', hL, e1, e2, ⟨⟨vc, ws', hv, hq1, hq2, hq3, hq4, hq5, hq6⟩, hz, hk⟩, stp⟩ := hr T hT X
  cases hv
  rw [h0] at hz hk
  obtain ⟨t2, a1, b1⟩ := kk v9 ws' T'.heap (locs ++ L) hq1 hq2 hq3 (by rw [e1]; exact hq4) hq6 (fun q x y => by rw [e1]; exact hk q x y)
    ⟨Nat.le_trans hS.1 (by rw [e1]; exact hz), fun q h1 h2 => by rw [e1, hk q (Nat.lt_of_lt_of_le h1 hS.1) (fun z => h2 (hAB q z))]; exact hS.2.1 q h1 h2, fun q hq => by
      rcases List.mem_append.mp hq with z | z
      · exact hS.2.2 q z
      · exact hAB _ (hL q z)⟩ T' rfl X'
  exact ⟨t2, stp t2 a1, b1⟩
theorem lw_met (hT : xTab TB TF TM TS cl E) (hX : xTxE E nS lenS bytS) {d y : Nat} {av : List Value} {z : Option Value} (run : XM E d y av h1 (fun v' h' => v' = z ∧ h' = h1')) : xMet l TB TF TM TS nS lenS bytS E ad adV cA D cl d (E.1 y) av h1 z h1' := by
  obtain ⟨n0, run⟩ := run
  exact xMet_of hT (fun hF hfin f k => xstepG hT hX n0 hF hfin f k) run
set_option maxRecDepth 20000 in
theorem lw_room1 {d a F L : Nat} (hR : d + 9 ≤ F ∧ 60 * d + 460 ≤ L) (ha : a ≤ 40) : d + 8 + 1 ≤ F ∧ 8 + (a + 11) + (60 * d + 400) ≤ L := by
  obtain ⟨h1, h2⟩ := hR
  refine ⟨h1, Nat.le_trans ?_ h2⟩
  have h3 : 8 + (a + 11) ≤ 60 := by omega
  have h4 := Nat.add_le_add_right h3 (60 * d + 400)
  refine Nat.le_trans h4 ?_
  generalize 60 * d = k
  omega
theorem lw_callV (hT : xTab TB TF TM TS cl E) (hX : xTxE E nS lenS bytS) (hx : p.tables.exec = Jvm.exec) (hb : c.code = cc) (hml : c.maxLocals = nL) (hts : ∀ w ∈ TB, w.before args s = true) (hown : s.vm.findClass own = some m.cls) (hK : va_K D cl (xtys cA) s) (hA : ∀ q, s.heap.size ≤ q → A q) (hEv : xEv TF TM TS nS lenS bytS ad adV A s)
    {d y n ci idx : Nat} {r : vw_C} (hr : cl[ci]? = some r) (hM : xMok TB (E.1 y) n) (hC : (E.1 y).1.cls = r.1) (hlk : Cond.methodLink own idx (E.1 y).1 ∈ TB) (hin : Cond.instanceMethod (E.1 y).1 ∈ TB) (hse : Cond.selects r.1 (E.1 y).1 (E.1 y).1 ∈ TB) (hdg : decode cc pc = .ok (.invokevirtual idx, 3))
    {av rest : List Value} {z : Option Value} {rf : List (Option Nat)} {q : Nat} (run : XM E d y (.ref 0 :: av) h1 (fun v' h' => v' = z ∧ h' = h1')) (h0 : h1.1[0]? = some (.inr (ci, rf))) (hav : xva (fun _ => none) av av) (hz : ∀ r w, xvo r z w → w = z) (hn : av.length = n) (hfl : (xflat (.ref 0 :: av)).length ≤ (E.1 y).2.2.1) (hfin : h1'.1.length ≤ xt0) (hR : d + 9 ≤ R.frames ∧ 60 * d + 460 ≤ R.locals) (hc : cells + (h1'.1.length - h1.1.length) ≤ R.cells ∧ slots + (xsz E h1'.1 - xsz E h1.1) ≤ R.slots) (hrest : xcat rest ≤ 8) (hsz : ls.size = nL) (inv : lwI E ad cA D cl A s h1 h2 ws1 ws2 H locs) (hq : xa ad ws1 0 = some q)
    (kk : ∀ (ws1' : va_W) (H1 : Heap) (locs1 : List Loc), lwI E ad cA D cl A s h1' h2 ws1' ws2 H1 locs1 → xa ad ws1' 0 = some q → W p l e R s m args below meth c H1 locs1 (cells + (h1'.1.length - h1.1.length)) (slots + (xsz E h1'.1 - xsz E h1.1)) Q (F0 m (pc + 3) ls (z.toList ++ rest))) : W p l e R s m args below meth c H locs cells slots Q (F0 m pc ls (av.reverse ++ .ref q :: rest)) := by
  have hP := inv.2.1.1
  have hD := inv.2.2.1.1
  have hS := inv.2.2.2.2
  have hAB := xAB hD hS hA
  have hgd := hT.1
  obtain ⟨e9, g6, fs, rfl, -⟩ := xW_at inv.1.1 h0 hq
  have hM9 := lw_met (l := l) (ad := ad) (adV := adV) (cA := cA) (D := D) hT hX run hfl hfin ws1 (.ref q :: av) H.size inv.1.1 ⟨_, _, rfl, ⟨q, hq, rfl⟩, xva_mono (fun k a h => by cases h) hav⟩
  have hpre := xpre (avC := .ref q :: av) hP hD hS hA hK hEv
  refine xcallK (a := (Value.ref q :: av).toArray) (va_runV (As := av) (rest := rest) ⟨hx, hb, hml, hown, hts⟩ hM9 (cwV (C := r.1) n hts (fun w hw => ?_) rfl rfl rfl ⟨hC, hM.2.2.1⟩ (lw_room1 hR hM.2.2.2)) ⟨hpre.1, va_recv hK hP hr g6, hpre.2⟩ rfl hn hsz rfl (by show 2 * 0 + xcat rest ≤ 8; omega) hdg hc) hS hAB (fun vc ws' H1 locs1 q1 q2 q3 q4 q6 hk q7 => ?_)
  · have hg := xgood hgd hM
    unfold wsV at hw
    rcases List.mem_append.mp hw with z | z
    · simp only [List.mem_cons, List.not_mem_nil, or_false] at z
      rcases z with rfl | rfl | rfl | rfl
      · exact ⟨hlk, good_of_word (hgd _ hlk)⟩
      · exact ⟨hin, good_of_word (hgd _ hin)⟩
      · exact ⟨hse, good_of_word (hgd _ hse)⟩
      · rw [← hC]; exact ⟨hM.2.1, good_of_word (hgd _ hM.2.1)⟩
    · exact hg w z
  · rw [hz _ _ q1]
    exact kk ws' H1 locs1 (inv.next hAB q2 q4 q6 hk q7) (q3 _ _ hq)
theorem lw_callI (hT : xTab TB TF TM TS cl E) (hX : xTxE E nS lenS bytS) (hx : p.tables.exec = Jvm.exec) (hb : c.code = cc) (hml : c.maxLocals = nL) (hts : ∀ w ∈ TB, w.before args s = true) (hown : s.vm.findClass own = some m.cls) (hK : va_K D cl (xtys cA) s) (hA : ∀ q, s.heap.size ≤ q → A q) (hEv : xEv TF TM TS nS lenS bytS ad adV A s)
    {d y idx : Nat} (hM : xMok TB (E.1 y) 0) (hret : (E.1 y).2.2.2.1 = none) (hini : (E.1 y).1.name = "<init>") (hlk : Cond.methodLink own idx (E.1 y).1 ∈ TB) (hin : Cond.instanceMethod (E.1 y).1 ∈ TB) (hdg : decode cc pc = .ok (.invokespecial idx, 3))
    {rest : List Value} {q : Nat} (run : XM E d y [.ref 0] h1 (fun v' h' => v' = none ∧ h' = h1')) (hfl : 1 ≤ (E.1 y).2.2.1) (hfin : h1'.1.length ≤ xt0) (hR : d + 9 ≤ R.frames ∧ 60 * d + 460 ≤ R.locals) (hc : cells + (h1'.1.length - h1.1.length) ≤ R.cells ∧ slots + (xsz E h1'.1 - xsz E h1.1) ≤ R.slots) (hrest : xcat rest ≤ 8) (hsz : ls.size = nL) (inv : lwI E ad cA D cl A s h1 h2 ws1 ws2 H locs) (hq : xa ad ws1 0 = some q)
    (kk : ∀ (ws1' : va_W) (H1 : Heap) (locs1 : List Loc), lwI E ad cA D cl A s h1' h2 ws1' ws2 H1 locs1 → xa ad ws1' 0 = some q → W p l e R s m args below meth c H1 locs1 (cells + (h1'.1.length - h1.1.length)) (slots + (xsz E h1'.1 - xsz E h1.1)) Q (F0 m (pc + 3) ls rest)) : W p l e R s m args below meth c H locs cells slots Q (F0 m pc ls (.ref q :: rest)) := by
  have hP := inv.2.1.1
  have hD := inv.2.2.1.1
  have hS := inv.2.2.2.2
  have hAB := xAB hD hS hA
  have hgd := hT.1
  have hM9 := lw_met (l := l) (ad := ad) (adV := adV) (cA := cA) (D := D) hT hX run hfl hfin ws1 [.ref q] H.size inv.1.1 ⟨_, _, rfl, ⟨q, hq, rfl⟩, rfl⟩
  have hpre := xpre (avC := [.ref q]) hP hD hS hA hK hEv
  have hw9 : xws TB (E.1 y) = Cond.code (E.1 y).1 (E.1 y).2.1 (E.1 y).2.2.1 none :: TB := by rw [← hret]; rfl
  refine xcallK (a := ([Value.ref q] : List Value).toArray) (va_runI (As := []) (rest := rest) ⟨hx, hb, hml, hown, hts⟩ hM9 (cwI 0 hts (xgood hgd hM) hw9 rfl rfl (hts _ hM.2.1) (hts _ hlk) (hts _ hin) hini hM.2.2.1 (lw_room1 hR hM.2.2.2)) hpre rfl rfl hsz rfl (by show 2 * 0 + xcat rest ≤ 8; omega) hdg hc) hS hAB (fun vc ws' H1 locs1 q1 q2 q3 q4 q6 hk q7 => ?_)
  rw [show vc = none from q1]
  exact kk ws' H1 locs1 (inv.next hAB q2 q4 q6 hk q7) (q3 _ _ hq)
/-- nothing on paper -/
def lw_h0 : xH := ([], (fun _ _ => 0), (fun _ _ => 0), (fun _ _ => 0))
/-- on paper: an object alone, as new makes it -/
def lw_hn (E : xE) (ci : Nat) : xH := ([.inr (ci, (E.2.1 ci).map fun _ => none)], xclr lw_h0.2 0)
theorem lw_xW0 : xW E ad cA lw_h0 [] := ⟨rfl, Nat.zero_le _, fun i t h => by cases h⟩
/-- new, beside the first world -/
theorem lw_new (hT : xTab TB TF TM TS cl E) (hx : p.tables.exec = Jvm.exec) (hb : c.code = cc) (hts : ∀ w ∈ TB, w.before args s = true) (hown : s.vm.findClass own = some m.cls) (hK : va_K D cl (xtys cA) s) (hA : ∀ q, s.heap.size ≤ q → A q)
    {ci idx : Nat} {r : vw_C} (hr : cl[ci]? = some r) (hlk : Cond.classLink own idx r.1 ∈ TB) (hdg : decode cc pc = .ok (.new idx, 3)) {rest : List Value} (hc : cells + 1 ≤ R.cells ∧ slots + (E.2.1 ci).length ≤ R.slots) (inv : lwI E ad cA D cl A s h1 lw_h0 ws1 [] H locs)
    (kk : ∀ (q : Nat) (ws2 : va_W) (H1 : Heap), lwI E ad cA D cl A s h1 (lw_hn E ci) ws1 ws2 H1 locs → xa ad ws2 0 = some q → W p l e R s m args below meth c H1 locs (cells + 1) (slots + (E.2.1 ci).length) Q (F0 m (pc + 3) ls (.ref q :: rest))) : W p l e R s m args below meth c H locs cells slots Q (F0 m pc ls rest) := by
  obtain ⟨t1, t2, t3, t4, t5, t6, t7⟩ := hT.2.1 _ r hr
  refine va_new (C := r.1) (T := r.2.1) (N := r.2.2) (fs := (E.2.1 ci).map defaultValue) hx hb hts t1 (fun k => (E.2.1 ci).getD k .int) t3 hown (hts _ hlk) (hts _ t5) (hts _ t6) hK inv.2.1.1 inv.2.2.1.1 inv.2.2.2.2 hA hr (fun j hj => ?_) hc.1 (by rw [← t2]; exact hc.2) hdg (fun q H1 hP1 hD1 hS1 => ?_)
  · have hj2 : j < (E.2.1 ci).length := by rw [t2]; exact hj
    simp [vp_V, List.getD_eq_getElem?_getD, hj2]
  · have hW1 : xW E ad cA (lw_hn E ci) [(q, Sum.inr (ci, (E.2.1 ci).map defaultValue))] := by
      refine xW_push (ws := []) lw_xW0 (by decide) (fun i hi => xclr_row _ _ hi) ⟨_, rfl, by simp, by simp, fun k ty hk => ?_⟩
      refine ⟨defaultValue ty, by rw [List.getElem?_map, hk]; rfl, ?_⟩
      have hnd := t7 ty (List.mem_of_getElem? hk)
      have hrk : xrv ((E.2.1 ci).map fun _ => (none : Option Nat))[k]? = .null := by rw [List.getElem?_map, hk]; rfl
      cases ty <;> first | exact absurd rfl hnd | (show _ = _; simp only [xget, xclr, x0_at, defaultValue]; rfl) | (show _ = _; simp only [xget, xclr, x0_at, defaultValue]) | (show xv _ (xrv _) _; rw [hrk]; rfl)
    rw [← t2]
    have hat : (ws1 ++ [(q, (Sum.inr (ci, (E.2.1 ci).map defaultValue) : va_E))])[ws1.length]? = some (q, Sum.inr (ci, (E.2.1 ci).map defaultValue)) := by
      rw [List.getElem?_append_right (Nat.le_refl _), Nat.sub_self]; rfl
    refine kk q [(q, Sum.inr (ci, (E.2.1 ci).map defaultValue))] H1 ⟨⟨inv.1.1, hW1⟩, ⟨fun k x hk => hP1 k x (by rw [List.getElem?_append_left (List.getElem?_eq_some_iff.mp hk).1]; exact hk), fun k x hk => ?_⟩, ⟨inv.2.2.1.1, ⟨fun i j x y hi hj _ => ?_, fun k x hk => ?_⟩⟩, fun i j x y hi hj e9 => ?_, hS1⟩ (xa_of (show 0 < xt0 by decide) rfl)
    · cases k with
      | zero => cases hk; exact hP1 _ _ hat
      | succ k => cases hk
    · cases i with
      | zero => cases j with
        | zero => rfl
        | succ j => cases hj
      | succ i => cases hi
    · cases k with
      | zero => cases hk; exact hD1.2 _ _ hat
      | succ k => cases hk
    · cases j with
      | zero =>
        cases hj
        have hl := (List.getElem?_eq_some_iff.mp hi).1
        have := hD1.1 i ws1.length x _ (by rw [List.getElem?_append_left hl]; exact hi) hat e9
        omega
      | succ j => cases hj
end LWW
