/-! calls -/
abbrev xNM : Type := String × Nat × MethodName × String
def xnm (q : xNM) : Cond := .methodLinkNest q.1 q.2.1 q.2.2.1 q.2.2.2
abbrev xTS : Type := String × Nat × String × Nat
/-- the texts, and what the JDK's own fields hold -/
def xTe (nS : Nat) (lenS : List Nat) (bytS : List (List Int32)) (ad adV : Nat → Nat) (A : Nat → Prop) (U : State) (H : Heap) : Prop := vk_S nS lenS bytS ad adV A U H ∧ va_Z "java/lang/String" "COMPACT_STRINGS" "Z" (.int 1) A U H ∧ va_Zq "jdk/internal/util/Preconditions" "SIOOBE_FORMATTER" "Ljava/util/function/BiFunction;" A U H
theorem xTe.moved {nS : Nat} {lenS : List Nat} {bytS : List (List Int32)} {ad adV : Nat → Nat} {A : Nat → Prop} {u U : State} {H : Heap} (hvm : u.vm.Alike U.vm) (h : xTe nS lenS bytS ad adV A u H) : xTe nS lenS bytS ad adV A U H := ⟨vk_S.moved hvm h.1, va_Z.moved hvm h.2.1, va_Zq.moved hvm h.2.2⟩
theorem xTe.kept {nS : Nat} {lenS : List Nat} {bytS : List (List Int32)} {ad adV : Nat → Nat} {A : Nat → Prop} {U : State} {H H1 : Heap} (h : xTe nS lenS bytS ad adV A U H) (hq : ∀ a : Nat, a < H.size → ¬ A a → H1[a]? = H[a]?) : xTe nS lenS bytS ad adV A U H1 := ⟨h.1.kept hq, h.2.1.kept hq, h.2.2.kept hq⟩
theorem xTe.narrow {nS : Nat} {lenS : List Nat} {bytS : List (List Int32)} {ad adV : Nat → Nat} {A B : Nat → Prop} {U : State} {H : Heap} (h : xTe nS lenS bytS ad adV A U H) (hAB : ∀ q, B q → A q) : xTe nS lenS bytS ad adV B U H := ⟨h.1.narrow hAB, h.2.1.narrow hAB, h.2.2.narrow hAB⟩
/-- what stays true of the machine's tables and texts: links to private members of nest mates, the texts -/
def xEv (TF : List xNF) (TM : List xNM) (TS : List xTS) (nS : Nat) (lenS : List Nat) (bytS : List (List Int32)) (ad adV : Nat → Nat) (A : Nat → Prop) (U : State) : Prop :=
  (∀ q ∈ TF, va_Nw (xnf q) U) ∧ (∀ q ∈ TM, va_Nw (xnm q) U) ∧ xTe nS lenS bytS ad adV A U U.heap ∧ (∀ q ∈ TS, vk_R q.1 q.2.1 q.2.2.1 (ad q.2.2.2) U) ∧ (Cond.arrayOver (.array .float)).before #[] U = true
theorem xEv.calling {TF : List xNF} {TM : List xNM} {TS : List xTS} {nS : Nat} {lenS : List Nat} {bytS : List (List Int32)} {ad adV : Nat → Nat} {A : Nat → Prop} {U : State} (k : xEv TF TM TS nS lenS bytS ad adV A U) (g : JFrame) (mk : MethodId) (a : Array Value) : xEv TF TM TS nS lenS bytS ad adV A (U.calling g mk a) :=
  ⟨fun q hq => va_Nw.same rfl rfl (k.1 q hq), fun q hq => va_Nw.same rfl rfl (k.2.1 q hq), xTe.moved (u := U) (U := U.calling g mk a) (Vm.Alike.refl U.vm) k.2.2.1, fun q hq => vk_R.same (u := U) rfl (k.2.2.2.1 q hq), k.2.2.2.2⟩
theorem xEv.warm {TF : List xNF} {TM : List xNM} {TS : List xTS} {nS : Nat} {lenS : List Nat} {bytS : List (List Int32)} {ad adV : Nat → Nat} {A B : Nat → Prop} {s U : State} {H : Heap} {locs : List Loc} (k : xEv TF TM TS nS lenS bytS ad adV A s) (hW : s.WarmedH U.vm) (hU : U.heap = H) (hS : va_S A s.heap H locs) (hAB : ∀ q, B q → A q) : xEv TF TM TS nS lenS bytS ad adV B U :=
  ⟨fun q hq => va_Nw.warmF hW (k.1 q hq), fun q hq => va_Nw.warmM hW (k.2.1 q hq), by rw [hU]; exact ((xTe.moved hW.alike k.2.2.1).kept hS.2.1).narrow hAB, fun q hq => vk_R.warm hW (k.2.2.2.1 q hq), arrayOver_alikeB hW.alike k.2.2.2.2⟩
/-- a method's start -/
def xPc (TF : List xNF) (TM : List xNM) (TS : List xTS) (nS : Nat) (lenS : List Nat) (bytS : List (List Int32)) (ad adV : Nat → Nat) (cA : FieldType → ClassId) (D : va_G) (cl : List vw_C) (avC : List Value) (ws : va_W) (sz : Nat) : Array Value → State → Prop :=
  va_Pc avC (fun U => U.heap.size = sz ∧ va_P D cl ws U.heap ∧ va_K D cl (xtys cA) U ∧ va_D (fun _ => True) ws ∧ xEv TF TM TS nS lenS bytS ad adV (va_A ws sz) U)
/-- a method's end -/
def xQc (E : xE) (ad : Nat → Nat) (cA : FieldType → ClassId) (D : va_G) (cl : List vw_C) (ws0 : va_W) (sz : Nat) (v : Option Value) (h' : xH) : Array Value → State → Outcome → State → Prop := fun _ st oc t =>
  (∃ (vc : Option Value) (ws' : va_W), oc = .returned vc ∧ xvo (xa ad ws') v vc ∧ xW E ad cA h' ws' ∧ xmon (xa ad ws0) (xa ad ws') ∧ va_P D cl ws' t.heap ∧ va_K D cl (xtys cA) t ∧ va_D (va_A ws0 sz) ws') ∧ va_F (va_A ws0 sz) st t
def xws (TB : List Cond) (M : xM) : List Cond := Cond.code M.1 M.2.1 M.2.2.1 M.2.2.2.1 :: TB
/-- what the machine does when a method is called, as it is on paper -/
def xMet (l : Launch) (TB : List Cond) (TF : List xNF) (TM : List xNM) (TS : List xTS) (nS : Nat) (lenS : List Nat) (bytS : List (List Int32)) (E : xE) (ad adV : Nat → Nat) (cA : FieldType → ClassId) (D : va_G) (cl : List vw_C) (d : Nat) (M : xM) (av : List Value) (h : xH) (v : Option Value) (h' : xH) : Prop :=
  (xflat av).length ≤ M.2.2.1 → h'.1.length ≤ xt0 → ∀ (ws : va_W) (avC : List Value) (sz : Nat), xW E ad cA h ws → xva (xa ad ws) av avC → Met l M.1 (xws TB M) (xroom d (h'.1.length - h.1.length) (xsz E h'.1 - xsz E h.1)) (xPc TF TM TS nS lenS bytS ad adV cA D cl avC ws sz) (xQc E ad cA D cl ws sz v h') (h'.1.length - h.1.length) (xsz E h'.1 - xsz E h.1) (va_A ws sz)
/-- what the tables say of a method that is called with n values -/
def xMok (TB : List Cond) (M : xM) (n : Nat) : Prop := Cond.code M.1 M.2.1 M.2.2.1 M.2.2.2.1 ∈ TB ∧ Cond.initialized M.1.cls ∈ TB ∧ (M.1.cls ≠ "java/lang/invoke/MethodHandle" ∧ M.1.cls ≠ "java/lang/invoke/VarHandle" ∧ (parseMethodDescriptor M.1.desc).map (fun d => d.parameters.length) = some n) ∧ M.2.2.1 ≤ 40
theorem xgood {TB : List Cond} {M : xM} {n : Nat} (hgd : ∀ w ∈ TB, goodWord w = true) (hM : xMok TB M n) : GoodIn TB (xws TB M) := by
  intro w hw
  rcases List.mem_cons.mp hw with rfl | hw
  · exact ⟨hM.1, good_of_word (hgd _ hM.1)⟩
  · exact ⟨hw, good_of_word (hgd _ hw)⟩
section XSC
variable {p : Program} {l : Launch} {e : Env} {R : Room} {s : State} {m : MethodId} {args : Array Value} {below : List Frame} {meth : Method} {c : Code} {Q : State → Prop}
variable {E : xE} {ad adV : Nat → Nat} {cA : FieldType → ClassId} {D : va_G} {cl : List vw_C} {A : Nat → Prop} {r0 : Nat → Option Nat} {nL mc ms fin finS : Nat}
variable {rc : Nat → xM → xF → xP → Prop} {rn : xF → xP → Prop} {d : Nat} {Q0 : xP} {pc : Nat} {ls : xL} {st : List Value} {h : xH} {cc : ByteArray} {TB : List Cond} {TF : List xNF} {TM : List xNM} {TS : List xTS} {nS : Nat} {lenS : List Nat} {bytS : List (List Int32)} {own : String}
/-- behind a call -/
theorem xcallW {cells slots mc1 ms1 : Nat} {ws : va_W} {H : Heap} {locs : List Loc} {lsC : Array Slot} {st0 rest : List Value} {v : Option Value} {h' : xH} {a : Array Value} (hr : va_Run p l e R s m args below meth c H locs cells slots mc1 ms1 (F0 m pc lsC st0) rest (xQc E ad cA D cl ws H.size v h' a) (va_A ws H.size)) (hS : va_S A s.heap H locs) (hAB : ∀ q, va_A ws H.size q → A q)
    (kk : ∀ (vc : Option Value) (ws' : va_W) (H1 : Heap) (locs1 : List Loc), xvo (xa ad ws') v vc → xW E ad cA h' ws' → xmon (xa ad ws) (xa ad ws') → va_P D cl ws' H1 → va_D A ws' → va_S A s.heap H1 locs1 → W p l e R s m args below meth c H1 locs1 (cells + mc1) (slots + ms1) Q (F0 m (pc + 3) lsC (vc.toList ++ rest))) : W p l e R s m args below meth c H locs cells slots Q (F0 m pc lsC st0) := by
  intro T hT X
  obtain ⟨v9, st₀, t, T', L, h0, X', hL, e1, e2, ⟨⟨vc, ws', hv, hq1, hq2, hq3, hq4, hq5, hq6⟩, hz, hk⟩, stp⟩ := hr T hT X
  cases hv
  rw [h0] at hz hk
  obtain ⟨t2, a1, b1⟩ := kk v9 ws' T'.heap (locs ++ L) hq1 hq2 hq3 (by rw [e1]; exact hq4) (hq6.weaken (fun _ _ _ z => hAB _ z))
    ⟨Nat.le_trans hS.1 (by rw [e1]; exact hz), fun q h1 h2 => by rw [e1, hk q (Nat.lt_of_lt_of_le h1 hS.1) (fun z => h2 (hAB q z))]; exact hS.2.1 q h1 h2, fun q hq => by
      rcases List.mem_append.mp hq with z | z
      · exact hS.2.2 q z
      · exact hAB _ (hL q z)⟩ T' rfl X'
  exact ⟨t2, stp t2 a1, b1⟩
theorem xAB {ws : va_W} {H : Heap} {locs : List Loc} (hD : va_D A ws) (hS : va_S A s.heap H locs) (hA : ∀ q, s.heap.size ≤ q → A q) : ∀ q, va_A ws H.size q → A q := by
  intro q z
  rcases z with ⟨k, e9, z⟩ | z
  · exact hD.2 k _ z
  · exact hA q (Nat.le_trans hS.1 z)
theorem xpre {ws : va_W} {H : Heap} {locs : List Loc} {avC : List Value} (hP : va_P D cl ws H) (hD : va_D A ws) (hS : va_S A s.heap H locs) (hA : ∀ q, s.heap.size ≤ q → A q) (hK : va_K D cl (xtys cA) s) (hEv : xEv TF TM TS nS lenS bytS ad adV A s) : PreS s H (xPc TF TM TS nS lenS bytS ad adV cA D cl avC ws H.size) avC :=
  ⟨fun a U g mk q => by obtain ⟨q0, q1, qP, qK, qD, qE⟩ := q; exact ⟨q0, q1, qP, va_K.moved (u := U) (U := U.calling g mk a) (Vm.Alike.refl U.vm) qK, qD, qE.calling g mk a⟩, fun U hU hW => ⟨rfl, by rw [hU], by rw [hU]; exact hP, va_K.moved hW.alike hK, hD.weaken (fun _ _ _ _ => trivial), hEv.warm hW hU hS (xAB hD hS hA)⟩⟩
/-- the whole of a call, but for its kind -/
theorem so_callG (hN : ∀ f, rn f Q0 → xG p l e R s m args below meth c Q E ad cA D cl A r0 nL mc ms fin finS f) (hA : ∀ q, s.heap.size ≤ q → A q) (hlen : ∀ f : xF, rn f Q0 → f.2.2.2.1.length ≤ fin ∧ xsz E f.2.2.2.1 ≤ finS) (hRc : R.cells = mc) (hRs : R.slots = ms)
    {y : Nat} {av rest : List Value} (hmono : ∀ (d : Nat) (M : xM) (f : xF) (v : Option Value) (h' : xH), rc d M f (fun v' h2 => v' = v ∧ h2 = h') → f.2.2.2.1.length ≤ h'.1.length ∧ xsz E f.2.2.2.1 ≤ xsz E h'.1) (hdet : ∀ (d : Nat) (M : xM) (f : xF) (P : xP), rc d M f P → ∃ v h', P v h' ∧ rc d M f (fun v' h2 => v' = v ∧ h2 = h'))
    (run : ∀ (d' : Nat) (v : Option Value) (h' : xH), d = d' + 1 → h'.1.length ≤ fin → rc d' (E.1 y) (0, xent (E.1 y) av, [], h) (fun v' h2 => v' = v ∧ h2 = h') → ∀ (cells slots : Nat) (ws : va_W) (H : Heap) (locs : List Loc) (lsC : Array Slot) (stC : List Value), cells + (h'.1.length - h.1.length) ≤ R.cells → slots + (xsz E h'.1 - xsz E h.1) ≤ R.slots → xRel E ad cA D cl A r0 s nL (pc, ls, st, h) ws H locs lsC stC → ∃ (restC : List Value) (a : Array Value), xva (xa ad ws) rest restC ∧ va_Run p l e R s m args below meth c H locs cells slots (h'.1.length - h.1.length) (xsz E h'.1 - xsz E h.1) (F0 m pc lsC stC) restC (xQc E ad cA D cl ws H.size v h' a) (va_A ws H.size))
    (kk : xwo E rc rn d Q0 (.inr (.inr (.inr (.inl (y, av, pc + 3, ls, rest, h)))))) : xG p l e R s m args below meth c Q E ad cA D cl A r0 nL mc ms fin finS (pc, ls, st, h) := by
  cases d with
  | zero => exact kk.elim
  | succ d' =>
    have kk : rc d' (E.1 y) (0, xent (E.1 y) av, [], h) (fun v h' => rn (pc + 3, ls, v.toList ++ rest, h') Q0) := kk
    obtain ⟨v, h', hnext, hrun⟩ := hdet _ _ _ _ kk
    obtain ⟨hm1, hm2⟩ := hmono _ _ _ _ _ hrun
    have hm1 : h.1.length ≤ h'.1.length := hm1
    have hm2 : xsz E h.1 ≤ xsz E h'.1 := hm2
    obtain ⟨hl1, hl2⟩ := hlen _ hnext
    have hl1 : h'.1.length ≤ fin := hl1
    have hl2 : xsz E h'.1 ≤ finS := hl2
    intro cells slots ws H locs lsC stC h1 h2 hrel
    have h1 : cells + fin ≤ mc + h.1.length := h1
    have h2 : slots + finS ≤ ms + xsz E h.1 := h2
    obtain ⟨restC, a, hrC, hgo⟩ := run d' v h' rfl hl1 hrun cells slots ws H locs lsC stC (by rw [hRc]; omega) (by rw [hRs]; omega) hrel
    obtain ⟨⟨hW, hm⟩, hP, hD, hS, hl, hst⟩ := hrel
    refine xcallW hgo hS (xAB hD hS hA) (fun vc ws' H1 locs1 q1 q2 q3 q4 q5 q6 => ?_)
    refine hN _ hnext _ _ ws' H1 locs1 lsC _ (show _ + fin ≤ mc + h'.1.length by omega) (show _ + finS ≤ ms + xsz E h'.1 by omega) ⟨⟨q2, fun k a z => q3 _ _ (hm k a z)⟩, q4, q5, q6, xls_mono q3 hl, ?_⟩
    cases v with
    | none => rw [show vc = none from q1]; exact xva_mono q3 hrC
    | some v9 =>
      obtain ⟨u, rfl, hu⟩ := q1
      exact ⟨u, restC, rfl, hu, xva_mono q3 hrC⟩
theorem so_cls (hx : p.tables.exec = Jvm.exec) (hb : c.code = cc) (hml : c.maxLocals = nL) (hts : ∀ w ∈ TB, w.before args s = true) (hgd : ∀ w ∈ TB, goodWord w = true) (hown : s.vm.findClass own = some m.cls) (hK : va_K D cl (xtys cA) s) (hA : ∀ q, s.heap.size ≤ q → A q) (hEv : xEv TF TM TS nS lenS bytS ad adV A s) (hlen : ∀ f : xF, rn f Q0 → f.2.2.2.1.length ≤ fin ∧ xsz E f.2.2.2.1 ≤ finS) (hR : R = xroom d mc ms)
    (hmono : ∀ (d : Nat) (M : xM) (f : xF) (v : Option Value) (h' : xH), rc d M f (fun v' h2 => v' = v ∧ h2 = h') → f.2.2.2.1.length ≤ h'.1.length ∧ xsz E f.2.2.2.1 ≤ xsz E h'.1) (hdet : ∀ (d : Nat) (M : xM) (f : xF) (P : xP), rc d M f P → ∃ v h', P v h' ∧ rc d M f (fun v' h2 => v' = v ∧ h2 = h')) (hfin : fin ≤ xt0)
    (hMet : ∀ (d : Nat) (y : Nat) (av : List Value) (h : xH) (v : Option Value) (h' : xH), rc d (E.1 y) (0, xent (E.1 y) av, [], h) (fun v' h2 => v' = v ∧ h2 = h') → xMet l TB TF TM TS nS lenS bytS E ad adV cA D cl d (E.1 y) av h v h') (hN : ∀ f, rn f Q0 → xG p l e R s m args below meth c Q E ad cA D cl A r0 nL mc ms fin finS f) {y n idx : Nat} (hM : xMok TB (E.1 y) n) (hlk : Cond.methodLink own idx (E.1 y).1 ∈ TB) (hst : Cond.static (E.1 y).1 ∈ TB) (hdg : decode cc pc = .ok (.invokestatic idx, 3))
    (kk : xwo E rc rn d Q0 (xcl E (pc + 3) ls st h y n)) : xG p l e R s m args below meth c Q E ad cA D cl A r0 nL mc ms fin finS (pc, ls, st, h) := by
  unfold xcl at kk
  split at kk
  · rename_i av rst hpop
    cases hb8 : (Nat.ble (xcat rst) 8 && Nat.ble (xflat av).length (E.1 y).2.2.1) with
    | false => rw [hb8] at kk; exact kk.1.elim
    | true =>
      rw [hb8] at kk
      rw [Bool.and_eq_true] at hb8
      have hc8 := Nat.le_of_ble_eq_true hb8.1
      have hfl := Nat.le_of_ble_eq_true hb8.2
      refine so_callG hN hA hlen (by rw [hR]; rfl) (by rw [hR]; rfl) hmono hdet (fun d9 v h' hd9 hle hrun cells slots ws H locs lsC stC hc1 hs1 hrel => ?_) kk
      obtain ⟨⟨hW, hm⟩, hP, hD, hS, hl, hst9⟩ := hrel
      obtain ⟨as, e1, e2, e3⟩ := xpop_spec (r := xa ad ws) n st [] av rst hpop
      rw [List.append_nil] at e1
      subst e1
      have hst9 : xva (xa ad ws) st stC := hst9
      rw [e3] at hst9
      obtain ⟨wa, wb, rfl, g1, g2⟩ := xva_split hst9
      have g1 := xva_rev g1
      rw [List.reverse_reverse] at g1
      subst hd9
      refine ⟨wb, wa.reverse.toArray, g2, va_runS (As := wa.reverse) (rest := wb) ⟨hx, hb, hml, hown, hts⟩ (hMet _ _ _ _ _ _ hrun hfl (Nat.le_trans hle hfin) ws wa.reverse H.size hW g1) (va_cwS n hts (fun w hw => ?_) rfl rfl rfl hM.2.2.1 (by
        rw [hR]
        show d9 + 8 + 1 ≤ d9 + 1 + 8 ∧ 8 + (_ + 11) + (60 * d9 + 400) ≤ 60 * (d9 + 1) + 400
        have := hM.2.2.2
        omega)) (xpre hP hD hS hA hK hEv) rfl (by rw [xva_len g1, e2]) hl.1 (by show wa ++ wb = _; rw [List.reverse_reverse]) (by show 2 * 0 + xcat wb ≤ 8; rw [xva_cat g2]; omega) hdg ⟨hc1, hs1⟩⟩
      have hg := xgood hgd hM
      unfold va_wsS at hw
      rcases List.mem_append.mp hw with z | z
      · simp only [List.mem_cons, List.not_mem_nil, or_false] at z
        rcases z with rfl | rfl | rfl
        · exact ⟨hlk, good_of_word (hgd _ hlk)⟩
        · exact ⟨hst, good_of_word (hgd _ hst)⟩
        · exact ⟨hM.2.1, good_of_word (hgd _ hM.2.1)⟩
      · exact hg w z
  · exact kk.1.elim
theorem so_clv (hx : p.tables.exec = Jvm.exec) (hb : c.code = cc) (hml : c.maxLocals = nL) (hts : ∀ w ∈ TB, w.before args s = true) (hgd : ∀ w ∈ TB, goodWord w = true) (hown : s.vm.findClass own = some m.cls) (hK : va_K D cl (xtys cA) s) (hA : ∀ q, s.heap.size ≤ q → A q) (hEv : xEv TF TM TS nS lenS bytS ad adV A s) (hlen : ∀ f : xF, rn f Q0 → f.2.2.2.1.length ≤ fin ∧ xsz E f.2.2.2.1 ≤ finS) (hR : R = xroom d mc ms)
    (hmono : ∀ (d : Nat) (M : xM) (f : xF) (v : Option Value) (h' : xH), rc d M f (fun v' h2 => v' = v ∧ h2 = h') → f.2.2.2.1.length ≤ h'.1.length ∧ xsz E f.2.2.2.1 ≤ xsz E h'.1) (hdet : ∀ (d : Nat) (M : xM) (f : xF) (P : xP), rc d M f P → ∃ v h', P v h' ∧ rc d M f (fun v' h2 => v' = v ∧ h2 = h')) (hfin : fin ≤ xt0)
    (hMet : ∀ (d : Nat) (y : Nat) (av : List Value) (h : xH) (v : Option Value) (h' : xH), rc d (E.1 y) (0, xent (E.1 y) av, [], h) (fun v' h2 => v' = v ∧ h2 = h') → xMet l TB TF TM TS nS lenS bytS E ad adV cA D cl d (E.1 y) av h v h') (hN : ∀ f, rn f Q0 → xG p l e R s m args below meth c Q E ad cA D cl A r0 nL mc ms fin finS f) {y n ci idx : Nat} {r : vw_C} (hr : cl[ci]? = some r) (hM : xMok TB (E.1 y) n) (hC : (E.1 y).1.cls = r.1) (hlk : Cond.methodLink own idx (E.1 y).1 ∈ TB) (hin : Cond.instanceMethod (E.1 y).1 ∈ TB) (hse : Cond.selects r.1 (E.1 y).1 (E.1 y).1 ∈ TB) (hdg : decode cc pc = .ok (.invokevirtual idx, 3))
    (kk : xwo E rc rn d Q0 (xclv E (pc + 3) ls st h y n ci)) : xG p l e R s m args below meth c Q E ad cA D cl A r0 nL mc ms fin finS (pc, ls, st, h) := by
  unfold xclv at kk
  split at kk
  · rename_i av rst hpop
    cases hb8 : (Nat.ble (xcat rst) 8 && Nat.ble (xflat av).length (E.1 y).2.2.1 && xis E ci av h) with
    | false => rw [hb8] at kk; exact kk.1.elim
    | true =>
      rw [hb8] at kk
      rw [Bool.and_eq_true, Bool.and_eq_true] at hb8
      have hc8 := Nat.le_of_ble_eq_true hb8.1.1
      have hfl := Nat.le_of_ble_eq_true hb8.1.2
      have hci := hb8.2
      refine so_callG hN hA hlen (by rw [hR]; rfl) (by rw [hR]; rfl) hmono hdet (fun d9 v h' hd9 hle hrun cells slots ws H locs lsC stC hc1 hs1 hrel => ?_) kk
      obtain ⟨⟨hW, hm⟩, hP, hD, hS, hl, hst9⟩ := hrel
      obtain ⟨as, e1, e2, e3⟩ := xpop_spec (r := xa ad ws) (n + 1) st [] av rst hpop
      rw [List.append_nil] at e1
      subst e1
      have hst9 : xva (xa ad ws) st stC := hst9
      rw [e3] at hst9
      obtain ⟨wa, wb, rfl, g1, g2⟩ := xva_split hst9
      have g1 := xva_rev g1
      rw [List.reverse_reverse] at g1
      have hM9 := hMet _ _ _ _ _ _ hrun hfl (Nat.le_trans hle hfin) ws wa.reverse H.size hW g1
      unfold xis at hci
      split at hci
      · rename_i b as2 
        split at hci
        · rename_i c2 rf hbc
          have := Nat.eq_of_beq_eq_true hci
          subst this
          obtain ⟨u, us, g3, ⟨q, hq, rfl⟩, g5⟩ := g1
          obtain ⟨e9, g6, fs, rfl, -⟩ := xW_at hW hbc hq
          rw [g3] at hM9
          have g4 : wa = us.reverse ++ [.ref q] := by
            have := congrArg List.reverse g3
            rw [List.reverse_reverse, List.reverse_cons] at this
            exact this
          subst hd9
          refine ⟨wb, (Value.ref q :: us).toArray, g2, va_runV (As := us) (rest := wb) ⟨hx, hb, hml, hown, hts⟩ hM9 (cwV (C := r.1) n hts (fun w hw => ?_) rfl rfl rfl ⟨hC, hM.2.2.1⟩ (by
            rw [hR]
            show d9 + 8 + 1 ≤ d9 + 1 + 8 ∧ 8 + (_ + 11) + (60 * d9 + 400) ≤ 60 * (d9 + 1) + 400
            have := hM.2.2.2
            omega)) ⟨(xpre hP hD hS hA hK hEv).1, va_recv hK hP hr g6, (xpre hP hD hS hA hK hEv).2⟩ rfl (by have := xva_len g5; simp only [List.length_cons] at e2; omega) hl.1 (by show wa ++ wb = _; rw [g4]; simp) (by show 2 * 0 + xcat wb ≤ 8; rw [xva_cat g2]; omega) hdg ⟨hc1, hs1⟩⟩
          have hg := xgood hgd hM
          unfold wsV at hw
          rcases List.mem_append.mp hw with z | z
          · simp only [List.mem_cons, List.not_mem_nil, or_false] at z
            rcases z with rfl | rfl | rfl | rfl
            · exact ⟨hlk, good_of_word (hgd _ hlk)⟩
            · exact ⟨hin, good_of_word (hgd _ hin)⟩
            · exact ⟨hse, good_of_word (hgd _ hse)⟩
            · rw [← hC]; exact ⟨hM.2.1, good_of_word (hgd _ hM.2.1)⟩
          · exact hg w z
        · cases hci
      · cases hci
  · exact kk.1.elim
theorem so_cli (hx : p.tables.exec = Jvm.exec) (hb : c.code = cc) (hml : c.maxLocals = nL) (hts : ∀ w ∈ TB, w.before args s = true) (hgd : ∀ w ∈ TB, goodWord w = true) (hown : s.vm.findClass own = some m.cls) (hK : va_K D cl (xtys cA) s) (hA : ∀ q, s.heap.size ≤ q → A q) (hEv : xEv TF TM TS nS lenS bytS ad adV A s) (hlen : ∀ f : xF, rn f Q0 → f.2.2.2.1.length ≤ fin ∧ xsz E f.2.2.2.1 ≤ finS) (hR : R = xroom d mc ms)
    (hmono : ∀ (d : Nat) (M : xM) (f : xF) (v : Option Value) (h' : xH), rc d M f (fun v' h2 => v' = v ∧ h2 = h') → f.2.2.2.1.length ≤ h'.1.length ∧ xsz E f.2.2.2.1 ≤ xsz E h'.1) (hdet : ∀ (d : Nat) (M : xM) (f : xF) (P : xP), rc d M f P → ∃ v h', P v h' ∧ rc d M f (fun v' h2 => v' = v ∧ h2 = h')) (hfin : fin ≤ xt0)
    (hMet : ∀ (d : Nat) (y : Nat) (av : List Value) (h : xH) (v : Option Value) (h' : xH), rc d (E.1 y) (0, xent (E.1 y) av, [], h) (fun v' h2 => v' = v ∧ h2 = h') → xMet l TB TF TM TS nS lenS bytS E ad adV cA D cl d (E.1 y) av h v h') (hN : ∀ f, rn f Q0 → xG p l e R s m args below meth c Q E ad cA D cl A r0 nL mc ms fin finS f) {y n ci idx : Nat} (hM : xMok TB (E.1 y) n) (hret : (E.1 y).2.2.2.1 = none) (hini : (E.1 y).1.name = "<init>") (hlk : Cond.methodLink own idx (E.1 y).1 ∈ TB ∨ ∃ host, (own, idx, (E.1 y).1, host) ∈ TM) (hin : Cond.instanceMethod (E.1 y).1 ∈ TB) (hdg : decode cc pc = .ok (.invokespecial idx, 3))
    (kk : xwo E rc rn d Q0 (xclv E (pc + 3) ls st h y n ci)) : xG p l e R s m args below meth c Q E ad cA D cl A r0 nL mc ms fin finS (pc, ls, st, h) := by
  unfold xclv at kk
  split at kk
  · rename_i av rst hpop
    cases hb8 : (Nat.ble (xcat rst) 8 && Nat.ble (xflat av).length (E.1 y).2.2.1 && xis E ci av h) with
    | false => rw [hb8] at kk; exact kk.1.elim
    | true =>
      rw [hb8] at kk
      rw [Bool.and_eq_true, Bool.and_eq_true] at hb8
      have hc8 := Nat.le_of_ble_eq_true hb8.1.1
      have hfl := Nat.le_of_ble_eq_true hb8.1.2
      have hci := hb8.2
      refine so_callG hN hA hlen (by rw [hR]; rfl) (by rw [hR]; rfl) hmono hdet (fun d9 v h' hd9 hle hrun cells slots ws H locs lsC stC hc1 hs1 hrel => ?_) kk
      obtain ⟨⟨hW, hm⟩, hP, hD, hS, hl, hst9⟩ := hrel
      obtain ⟨as, e1, e2, e3⟩ := xpop_spec (r := xa ad ws) (n + 1) st [] av rst hpop
      rw [List.append_nil] at e1
      subst e1
      have hst9 : xva (xa ad ws) st stC := hst9
      rw [e3] at hst9
      obtain ⟨wa, wb, rfl, g1, g2⟩ := xva_split hst9
      have g1 := xva_rev g1
      rw [List.reverse_reverse] at g1
      have hM9 := hMet _ _ _ _ _ _ hrun hfl (Nat.le_trans hle hfin) ws wa.reverse H.size hW g1
      unfold xis at hci
      split at hci
      · rename_i b as2 
        split at hci
        · rename_i c2 rf hbc
          have := Nat.eq_of_beq_eq_true hci
          subst this
          obtain ⟨u, us, g3, ⟨q, hq, rfl⟩, g5⟩ := g1
          obtain ⟨e9, g6, fs, rfl, -⟩ := xW_at hW hbc hq
          rw [g3] at hM9
          have g4 : wa = us.reverse ++ [.ref q] := by
            have := congrArg List.reverse g3
            rw [List.reverse_reverse, List.reverse_cons] at this
            exact this
          subst hd9
          have hw9 : xws TB (E.1 y) = Cond.code (E.1 y).1 (E.1 y).2.1 (E.1 y).2.2.1 none :: TB := by rw [← hret]; rfl
          rcases hlk with hlk | ⟨host, hlk⟩
          · exact ⟨wb, (Value.ref q :: us).toArray, g2, va_runI (As := us) (rest := wb) ⟨hx, hb, hml, hown, hts⟩ hM9 (cwI n hts (xgood hgd hM) hw9 rfl rfl (hts _ hM.2.1) (hts _ hlk) (hts _ hin) hini hM.2.2.1 (by
            rw [hR]
            show d9 + 8 + 1 ≤ d9 + 1 + 8 ∧ 8 + (_ + 11) + (60 * d9 + 400) ≤ 60 * (d9 + 1) + 400
            have := hM.2.2.2
            omega)) (xpre hP hD hS hA hK hEv) rfl (by have := xva_len g5; simp only [List.length_cons] at e2; omega) hl.1 (by show wa ++ wb = _; rw [g4]; simp) (by show 2 * 0 + xcat wb ≤ 8; rw [xva_cat g2]; omega) hdg ⟨hc1, hs1⟩⟩
          · exact ⟨wb, (Value.ref q :: us).toArray, g2, va_runIN (As := us) (rest := wb) ⟨hx, hb, hml, hown, hts⟩ hM9 ⟨va_cnB n hts (xgood hgd hM) hw9 rfl rfl (hEv.2.1 _ hlk) (hts _ hM.2.1) hM.2.2.1 (by
            rw [hR]
            show d9 + 8 + 1 ≤ d9 + 1 + 8 ∧ 8 + (_ + 11) + (60 * d9 + 400) ≤ 60 * (d9 + 1) + 400
            have := hM.2.2.2
            omega), hini, hts _ hin⟩ (xpre hP hD hS hA hK hEv) rfl (by have := xva_len g5; simp only [List.length_cons] at e2; omega) hl.1 (by show wa ++ wb = _; rw [g4]; simp) (by show 2 * 0 + xcat wb ≤ 8; rw [xva_cat g2]; omega) hdg ⟨hc1, hs1⟩⟩
        · cases hci
      · cases hci
  · exact kk.1.elim
end XSC
