/-! the texts: String.length() and String.charAt() -/
def xtL : xM := (⟨"java/lang/String", "length", "()I"⟩, prog_15_method_54_code, 1, some .int, "java/lang/String", fun _ => none)
def xtK : xM := (⟨"java/lang/String", "coder", "()B"⟩, prog_15_method_152_code, 1, some .byte, "java/lang/String", fun _ => none)
def xtC : xM := (⟨"java/lang/String", "charAt", "(I)C"⟩, prog_15_method_56_code, 2, some .char, "java/lang/String", fun _ => none)
def xtI : xM := (⟨"java/lang/String", "isLatin1", "()Z"⟩, prog_15_method_154_code, 1, some .boolean, "java/lang/String", fun _ => none)
def xtA : xM := (⟨"java/lang/StringLatin1", "charAt", "([BI)C"⟩, prog_16_method_2_code, 2, some .char, "java/lang/StringLatin1", fun _ => none)
def xtX : xM := (⟨"java/lang/String", "checkIndex", "(II)V"⟩, prog_15_method_155_code, 2, none, "java/lang/String", fun _ => none)
def xtP : xM := (⟨"jdk/internal/util/Preconditions", "checkIndex", "(IILjava/util/function/BiFunction;)I"⟩, prog_18_method_11_code, 3, some .int, "jdk/internal/util/Preconditions", fun _ => none)
/-- what the tables say of them -/
def xTw (TB : List Cond) : Prop := (xMok TB xtL 0 ∧ xMok TB xtK 0 ∧ xMok TB xtC 1 ∧ xMok TB xtI 0 ∧ xMok TB xtA 2 ∧ xMok TB xtX 2 ∧ xMok TB xtP 3) ∧
  (∀ M ∈ [xtL, xtK, xtC, xtI], Cond.instanceMethod M.1 ∈ TB ∧ Cond.selects "java/lang/String" M.1 M.1 ∈ TB) ∧ (∀ M ∈ [xtA, xtX, xtP], Cond.static M.1 ∈ TB) ∧
  (Cond.methodLink "java/lang/String" 335 xtK.1 ∈ TB ∧ Cond.methodLink "java/lang/String" 492 xtI.1 ∈ TB ∧ Cond.methodLink "java/lang/String" 495 xtA.1 ∈ TB ∧ Cond.methodLink "java/lang/StringLatin1" 9 xtX.1 ∈ TB ∧ Cond.methodLink "java/lang/String" 1059 xtP.1 ∈ TB) ∧
  Cond.fieldLink "java/lang/String" 38 "java/lang/String" "COMPACT_STRINGS" "Z" ∈ TB ∧ Cond.fieldLink "java/lang/String" 9 "java/lang/String" "value" "[B" ∈ TB ∧ Cond.fieldLink "java/lang/String" 15 "java/lang/String" "coder" "B" ∈ TB ∧ Cond.fieldLink "java/lang/String" 1053 "jdk/internal/util/Preconditions" "SIOOBE_FORMATTER" "Ljava/util/function/BiFunction;" ∈ TB
def xTx (TB : List Cond) (own : String) (idx n : Nat) : Prop := xTw TB ∧ (n = 0 → Cond.methodLink own idx xtL.1 ∈ TB) ∧ (n = 1 → Cond.methodLink own idx xtC.1 ∈ TB)
/-- an index inside is not below 0 and below the length -/
theorem xt_in {i : Int32} {N : Nat} (hN : N < 2 ^ 31) (h : vp_in i N) : ¬ i < 0 ∧ i < Int32.ofNat N := by
  obtain ⟨j, hj, rfl⟩ := vp_in_of h hN
  exact ⟨nI_pos (by omega), nI_lt hj hN⟩
/-- the texts on paper are those of the machine -/
def xTxE (E : xE) (nS : Nat) (lenS : List Nat) (bytS : List (List Int32)) : Prop := ∀ k, 1 ≤ E.2.2.1 k → k < nS ∧ lenS.getD k 0 = E.2.2.1 k ∧ E.2.2.1 k < 2 ^ 31 ∧ ∀ j, (bytS.getD k []).getD j 0 &&& 255 = E.2.2.2 k j
def xtr (k : Nat) : Room := { frames := k, cells := 0, slots := 0, locals := 60 * k }
def xPt (nS : Nat) (lenS : List Nat) (bytS : List (List Int32)) (ad adV : Nat → Nat) (A : Nat → Prop) (av : List Value) : Array Value → State → Prop := va_Pc av (fun U => xTe nS lenS bytS ad adV A U U.heap)
def xQt (v : Option Value) : Array Value → State → Outcome → State → Prop := fun _ st oc t => oc = .returned v ∧ t.heap = st.heap
def xTm (l : Launch) (TB : List Cond) (nS : Nat) (lenS : List Nat) (bytS : List (List Int32)) (ad adV : Nat → Nat) (A : Nat → Prop) (k : Nat) (M : xM) (av : List Value) (v : Option Value) : Prop := Met l M.1 (xws TB M) (xtr k) (xPt nS lenS bytS ad adV A av) (xQt v) 0 0 (fun _ => False)
def xTfx (TB : List Cond) (nS : Nat) (lenS : List Nat) (bytS : List (List Int32)) (ad adV : Nat → Nat) (A : Nat → Prop) (M : xM) (p : Program) (s : State) (m : MethodId) (args : Array Value) (meth : Method) (c : Code) : Prop :=
  p.tables.exec = Jvm.exec ∧ c.code = M.2.1 ∧ c.maxLocals = M.2.2.1 ∧ meth.sig.returnType = M.2.2.2.1 ∧ s.vm.findClass M.1.cls = some m.cls ∧ (∀ w ∈ TB, w.before args s = true) ∧ meth.locks = false ∧ xTe nS lenS bytS ad adV A s s.heap
section XTX
variable {l : Launch} {TB : List Cond} {nS : Nat} {lenS : List Nat} {bytS : List (List Int32)} {ad adV : Nat → Nat} {A : Nat → Prop}
theorem xTm_of {k : Nat} {M : xM} {av : List Value} {v : Option Value} (hp : plainName M.1.cls = true)
    (h : ∀ {p : Program} {e : Env} {s : State} {m : MethodId} {below : List Frame} {meth : Method} {c : Code}, xTfx TB nS lenS bytS ad adV A M p s m av.toArray meth c → W p l e (xtr k) s m av.toArray below meth c s.heap [] 0 0 (MQ below (xQt v) av.toArray s 0 0 (fun _ => False)) (F0 m 0 ((lg_sl av ++ List.replicate (M.2.2.1 - (lg_sl av).length) Slot.unset).toArray) [])) : xTm l TB nS lenS bytS ad adV A k M av v := by
  refine Met.ofW (cc := M.2.1) (maxL := M.2.2.1) (ret := M.2.2.2.1) hp rfl ?_
  intro p e s m args below meth c s₁ B hml hv
  obtain ⟨rfl, hTe⟩ := hv
  have hts := atoms_spec (ws := xws TB M) B.pre
  rw [lg_entry_eq]
  exact h ⟨B.exec, B.bytes, hml, B.returns, findClass_of_methodNamed B.named, fun w hw => hts w (List.mem_cons_of_mem _ hw), B.notSynchronized, hTe⟩
variable {p : Program} {e : Env} {R : Room} {s : State} {m : MethodId} {args : Array Value} {below : List Frame} {meth : Method} {c : Code} {Q : State → Prop} {H : Heap} {locs : List Loc} {cells slots pc : Nat} {ls : Array Slot} {cc : ByteArray} {nL : Nat} {own : String}
/-- behind a call that changes nothing -/
theorem xcallT {v : Option Value} {a : Array Value} {st0 rest : List Value} (hr : va_Run p l e R s m args below meth c H locs cells slots 0 0 (F0 m pc ls st0) rest (xQt v a) (fun _ => False)) (k : W p l e R s m args below meth c H locs cells slots Q (F0 m (pc + 3) ls (v.toList ++ rest))) : W p l e R s m args below meth c H locs cells slots Q (F0 m pc ls st0) := by
  intro T hT X
  obtain ⟨v9, st₀, t, T', L, h0, X', hL, e1, e2, ⟨hv, hh⟩, stp⟩ := hr T hT X
  cases hv
  have hL0 : L = [] := List.eq_nil_iff_forall_not_mem.mpr (fun q hq => hL q hq)
  subst hL0
  rw [List.append_nil] at X'
  obtain ⟨t2, a1, b1⟩ := k T' (by rw [e1, hh, h0]) X'
  exact ⟨t2, stp t2 a1, b1⟩
theorem xpreT {av : List Value} (hTe : xTe nS lenS bytS ad adV A s s.heap) (hS : va_S A s.heap H locs) : PreS s H (xPt nS lenS bytS ad adV A av) av :=
  ⟨fun a U g mk q => ⟨q.1, xTe.moved (u := U) (U := U.calling g mk a) (Vm.Alike.refl U.vm) q.2⟩, fun U hU hW => ⟨rfl, by show xTe nS lenS bytS ad adV A U U.heap; rw [hU]; exact (xTe.moved hW.alike hTe).kept hS.2.1⟩⟩
theorem xtS {k n idx : Nat} {M : xM} {As rest : List Value} {v : Option Value} (hx : p.tables.exec = Jvm.exec) (hb : c.code = cc) (hml : c.maxLocals = nL) (hown : s.vm.findClass own = some m.cls) (hts : ∀ w ∈ TB, w.before args s = true) (hgd : ∀ w ∈ TB, goodWord w = true) (hM : xMok TB M n) (hlk : Cond.methodLink own idx M.1 ∈ TB) (hst : Cond.static M.1 ∈ TB) (hTe : xTe nS lenS bytS ad adV A s s.heap) (hS : va_S A s.heap H locs) (hm : xTm l TB nS lenS bytS ad adV A k M As v) (hR : k + 1 ≤ R.frames ∧ 60 * k + 60 ≤ R.locals) (hn : As.length = n) (hsz : ls.size = nL) (hW : xcat rest ≤ 8) (hc : cells ≤ R.cells ∧ slots ≤ R.slots) (hdg : decode cc pc = .ok (.invokestatic idx, 3))
    (kk : W p l e R s m args below meth c H locs cells slots Q (F0 m (pc + 3) ls (v.toList ++ rest))) : W p l e R s m args below meth c H locs cells slots Q (F0 m pc ls (As.reverse ++ rest)) := by
  refine xcallT (a := As.toArray) (va_runS (As := As) (rest := rest) ⟨hx, hb, hml, hown, hts⟩ hm (va_cwS n hts (fun w hw => ?_) rfl rfl rfl hM.2.2.1 (by
    show k + 1 ≤ R.frames ∧ 8 + (_ + 11) + 60 * k ≤ R.locals
    have := hM.2.2.2
    omega)) (xpreT hTe hS) rfl hn hsz rfl (by show 2 * 0 + xcat rest ≤ 8; omega) hdg ⟨hc.1, hc.2⟩) kk
  have hg := xgood hgd hM
  unfold va_wsS at hw
  rcases List.mem_append.mp hw with z | z
  · simp only [List.mem_cons, List.not_mem_nil, or_false] at z
    rcases z with rfl | rfl | rfl
    · exact ⟨hlk, good_of_word (hgd _ hlk)⟩
    · exact ⟨hst, good_of_word (hgd _ hst)⟩
    · exact ⟨hM.2.1, good_of_word (hgd _ hM.2.1)⟩
  · exact hg w z
theorem xtV {k n idx i : Nat} {M : xM} {As rest : List Value} {v : Option Value} (hx : p.tables.exec = Jvm.exec) (hb : c.code = cc) (hml : c.maxLocals = nL) (hown : s.vm.findClass own = some m.cls) (hts : ∀ w ∈ TB, w.before args s = true) (hgd : ∀ w ∈ TB, goodWord w = true) (hM : xMok TB M n) (hcl : M.1.cls = "java/lang/String") (hlk : Cond.methodLink own idx M.1 ∈ TB) (hin : Cond.instanceMethod M.1 ∈ TB ∧ Cond.selects "java/lang/String" M.1 M.1 ∈ TB) (hi : i < nS) (hTe : xTe nS lenS bytS ad adV A s s.heap) (hS : va_S A s.heap H locs) (hm : xTm l TB nS lenS bytS ad adV A k M (.ref (ad i) :: As) v) (hR : k + 1 ≤ R.frames ∧ 60 * k + 60 ≤ R.locals) (hn : As.length = n) (hsz : ls.size = nL) (hW : xcat rest ≤ 8) (hc : cells ≤ R.cells ∧ slots ≤ R.slots) (hdg : decode cc pc = .ok (.invokevirtual idx, 3))
    (kk : W p l e R s m args below meth c H locs cells slots Q (F0 m (pc + 3) ls (v.toList ++ rest))) : W p l e R s m args below meth c H locs cells slots Q (F0 m pc ls (As.reverse ++ .ref (ad i) :: rest)) := by
  have hpre := xpreT (av := .ref (ad i) :: As) hTe hS
  refine xcallT (a := (Value.ref (ad i) :: As).toArray) (va_runV (As := As) (rest := rest) ⟨hx, hb, hml, hown, hts⟩ hm (cwV (C := "java/lang/String") n hts (fun w hw => ?_) rfl rfl rfl ⟨hcl, hM.2.2.1⟩ (by
    show k + 1 ≤ R.frames ∧ 8 + (_ + 11) + 60 * k ≤ R.locals
    have := hM.2.2.2
    omega)) ⟨hpre.1, vk_recv hTe.1 hi hS, hpre.2⟩ rfl hn hsz rfl (by show 2 * 0 + xcat rest ≤ 8; omega) hdg ⟨hc.1, hc.2⟩) kk
  have hg := xgood hgd hM
  unfold wsV at hw
  rcases List.mem_append.mp hw with z | z
  · simp only [List.mem_cons, List.not_mem_nil, or_false] at z
    rcases z with rfl | rfl | rfl | rfl
    · exact ⟨hlk, good_of_word (hgd _ hlk)⟩
    · exact ⟨hin.1, good_of_word (hgd _ hin.1)⟩
    · exact ⟨hin.2, good_of_word (hgd _ hin.2)⟩
    · rw [← hcl]; exact ⟨hM.2.1, good_of_word (hgd _ hM.2.1)⟩
  · exact hg w z
theorem d_xtP_0 : decode xtP.2.1 0 = .ok (.iload_n 0, 1) := by decide +kernel
theorem d_xtP_1 : decode xtP.2.1 1 = .ok (.ifCond .lt 8, 3) := by decide +kernel
theorem d_xtP_4 : decode xtP.2.1 4 = .ok (.iload_n 0, 1) := by decide +kernel
theorem d_xtP_5 : decode xtP.2.1 5 = .ok (.iload_n 1, 1) := by decide +kernel
theorem d_xtP_6 : decode xtP.2.1 6 = .ok (.if_icmp .lt 10, 3) := by decide +kernel
theorem d_xtP_16 : decode xtP.2.1 16 = .ok (.iload_n 0, 1) := by decide +kernel
theorem d_xtP_17 : decode xtP.2.1 17 = .ok (.ireturn, 1) := by decide +kernel
theorem d_xtX_0 : decode xtX.2.1 0 = .ok (.iload_n 0, 1) := by decide +kernel
theorem d_xtX_1 : decode xtX.2.1 1 = .ok (.iload_n 1, 1) := by decide +kernel
theorem d_xtX_2 : decode xtX.2.1 2 = .ok (.getstatic 1053, 3) := by decide +kernel
theorem d_xtX_5 : decode xtX.2.1 5 = .ok (.invokestatic 1059, 3) := by decide +kernel
theorem d_xtX_8 : decode xtX.2.1 8 = .ok (.pop, 1) := by decide +kernel
theorem d_xtX_9 : decode xtX.2.1 9 = .ok (.return_, 1) := by decide +kernel
theorem d_xtA_0 : decode xtA.2.1 0 = .ok (.iload_n 1, 1) := by decide +kernel
theorem d_xtA_1 : decode xtA.2.1 1 = .ok (.aload_n 0, 1) := by decide +kernel
theorem d_xtA_2 : decode xtA.2.1 2 = .ok (.arraylength, 1) := by decide +kernel
theorem d_xtA_3 : decode xtA.2.1 3 = .ok (.invokestatic 9, 3) := by decide +kernel
theorem d_xtA_6 : decode xtA.2.1 6 = .ok (.aload_n 0, 1) := by decide +kernel
theorem d_xtA_7 : decode xtA.2.1 7 = .ok (.iload_n 1, 1) := by decide +kernel
theorem d_xtA_8 : decode xtA.2.1 8 = .ok (.baload, 1) := by decide +kernel
theorem d_xtA_9 : decode xtA.2.1 9 = .ok (.sipush 255, 3) := by decide +kernel
theorem d_xtA_12 : decode xtA.2.1 12 = .ok (.iand, 1) := by decide +kernel
theorem d_xtA_13 : decode xtA.2.1 13 = .ok (.i2c, 1) := by decide +kernel
theorem d_xtA_14 : decode xtA.2.1 14 = .ok (.ireturn, 1) := by decide +kernel
theorem d_xtI_0 : decode xtI.2.1 0 = .ok (.getstatic 38, 3) := by decide +kernel
theorem d_xtI_3 : decode xtI.2.1 3 = .ok (.ifCond .eq 14, 3) := by decide +kernel
theorem d_xtI_6 : decode xtI.2.1 6 = .ok (.aload_n 0, 1) := by decide +kernel
theorem d_xtI_7 : decode xtI.2.1 7 = .ok (.getfield 15, 3) := by decide +kernel
theorem d_xtI_10 : decode xtI.2.1 10 = .ok (.ifCond .ne 7, 3) := by decide +kernel
theorem d_xtI_13 : decode xtI.2.1 13 = .ok (.iconst 1, 1) := by decide +kernel
theorem d_xtI_14 : decode xtI.2.1 14 = .ok (.goto 4, 3) := by decide +kernel
theorem d_xtI_18 : decode xtI.2.1 18 = .ok (.ireturn, 1) := by decide +kernel
theorem d_xtK_0 : decode xtK.2.1 0 = .ok (.getstatic 38, 3) := by decide +kernel
theorem d_xtK_3 : decode xtK.2.1 3 = .ok (.ifCond .eq 10, 3) := by decide +kernel
theorem d_xtK_6 : decode xtK.2.1 6 = .ok (.aload_n 0, 1) := by decide +kernel
theorem d_xtK_7 : decode xtK.2.1 7 = .ok (.getfield 15, 3) := by decide +kernel
theorem d_xtK_10 : decode xtK.2.1 10 = .ok (.goto 4, 3) := by decide +kernel
theorem d_xtK_14 : decode xtK.2.1 14 = .ok (.ireturn, 1) := by decide +kernel
theorem d_xtL_0 : decode xtL.2.1 0 = .ok (.aload_n 0, 1) := by decide +kernel
theorem d_xtL_1 : decode xtL.2.1 1 = .ok (.getfield 9, 3) := by decide +kernel
theorem d_xtL_4 : decode xtL.2.1 4 = .ok (.arraylength, 1) := by decide +kernel
theorem d_xtL_5 : decode xtL.2.1 5 = .ok (.aload_n 0, 1) := by decide +kernel
theorem d_xtL_6 : decode xtL.2.1 6 = .ok (.invokevirtual 335, 3) := by decide +kernel
theorem d_xtL_9 : decode xtL.2.1 9 = .ok (.ishr, 1) := by decide +kernel
theorem d_xtL_10 : decode xtL.2.1 10 = .ok (.ireturn, 1) := by decide +kernel
theorem d_xtC_0 : decode xtC.2.1 0 = .ok (.aload_n 0, 1) := by decide +kernel
theorem d_xtC_1 : decode xtC.2.1 1 = .ok (.invokevirtual 492, 3) := by decide +kernel
theorem d_xtC_4 : decode xtC.2.1 4 = .ok (.ifCond .eq 12, 3) := by decide +kernel
theorem d_xtC_7 : decode xtC.2.1 7 = .ok (.aload_n 0, 1) := by decide +kernel
theorem d_xtC_8 : decode xtC.2.1 8 = .ok (.getfield 9, 3) := by decide +kernel
theorem d_xtC_11 : decode xtC.2.1 11 = .ok (.iload_n 1, 1) := by decide +kernel
theorem d_xtC_12 : decode xtC.2.1 12 = .ok (.invokestatic 495, 3) := by decide +kernel
theorem d_xtC_15 : decode xtC.2.1 15 = .ok (.ireturn, 1) := by decide +kernel
theorem xt_P {i N : Int32} {q : Value} (hq : lg_sl [.int i, .int N, q] = [.val (.int i), .val (.int N), .val q]) (h0 : ¬ i < 0) (h1 : i < N) : xTm l TB nS lenS bytS ad adV A 0 xtP [.int i, .int N, q] (some (.int i)) := by
  refine xTm_of (by decide +kernel) (fun hF => ?_)
  obtain ⟨hx, hb, hml, hr, hown, hts, hlocks, hTe⟩ := hF
  rw [hq]
  refine lv_iload_n hx hb d_xtP_0 rfl rfl ?_
  refine lv_if_lt hx hb d_xtP_1 (tgt := 9) (by decide) (fun z => absurd z h0) (fun _ => ?_)
  refine lv_iload_n hx hb d_xtP_4 rfl rfl ?_
  refine lv_iload_n hx hb d_xtP_5 rfl rfl ?_
  refine lv_icmp_lt hx hb d_xtP_6 (tgt := 16) (by decide) (fun _ => ?_) (fun z => absurd h1 z)
  refine lv_iload_n hx hb d_xtP_16 rfl rfl ?_
  exact W.iret hx hb hr (fun t ht hW9 => ⟨rfl, ht⟩) (fun _ z => by cases z) d_xtP_17 hlocks
theorem xt_X {i N : Int32} (hw : xTw TB) (hgd : ∀ w ∈ TB, goodWord w = true) (h0 : ¬ i < 0) (h1 : i < N) : xTm l TB nS lenS bytS ad adV A 1 xtX [.int i, .int N] none := by
  refine xTm_of (by decide +kernel) (fun {p e s m below meth c} hF => ?_)
  obtain ⟨hx, hb, hml, hr, hown, hts, hlocks, hTe⟩ := hF
  refine lv_iload_n hx hb d_xtX_0 rfl rfl ?_
  refine lv_iload_n hx hb d_xtX_1 rfl rfl ?_
  have go : ∀ q : Value, lg_sl [.int i, .int N, q] = [.val (.int i), .val (.int N), .val q] → va_Z "jdk/internal/util/Preconditions" "SIOOBE_FORMATTER" "Ljava/util/function/BiFunction;" q A s s.heap → W p l e (xtr 1) s m [Value.int i, Value.int N].toArray below meth c s.heap [] 0 0 (MQ below (xQt none) [Value.int i, Value.int N].toArray s 0 0 (fun _ => False)) (F0 m (0 + 1 + 1) (([.val (.int i), .val (.int N)] : List Slot) ++ List.replicate 0 Slot.unset).toArray [.int N, .int i]) := ?_
  · rcases hTe.2.2 with z | ⟨t, z⟩
    · exact go _ rfl z
    · exact go _ rfl z
  intro q hq z
  refine va_gets hx hb z va_S.rf hown (hts _ hw.2.2.2.2.2.2.2) (fun _ h => h) d_xtX_2 ?_
  refine xtS (As := [.int i, .int N, q]) (rest := []) hx hb hml hown hts hgd hw.1.2.2.2.2.2.2 hw.2.2.2.1.2.2.2.2 (hw.2.2.1 _ (by simp)) hTe va_S.rf (xt_P hq h0 h1) ⟨by decide, by decide⟩ rfl rfl (by decide) ⟨Nat.le_refl _, Nat.le_refl _⟩ d_xtX_5 ?_
  refine lv_pop hx hb d_xtX_8 rfl ?_
  exact W.vret hx hb hr (fun t ht hW9 => ⟨rfl, ht⟩) (fun _ z => by cases z) d_xtX_9 hlocks
theorem xt_A {i : Int32} {k : Nat} (hw : xTw TB) (hgd : ∀ w ∈ TB, goodWord w = true) (hk : k < nS) (hN : lenS.getD k 0 < 2 ^ 31) (hin : vp_in i (lenS.getD k 0)) : xTm l TB nS lenS bytS ad adV A 2 xtA [.ref (adV k), .int i] (some (.int ((bytS.getD k []).getD i.toNatClampNeg 0 &&& 255))) := by
  refine xTm_of (by decide +kernel) (fun hF => ?_)
  obtain ⟨hx, hb, hml, hr, hown, hts, hlocks, hTe⟩ := hF
  have hT := (hTe.1.1 k hk).2.2.2
  have h01 := xt_in hN hin
  refine lv_iload_n hx hb d_xtA_0 rfl rfl ?_
  refine lv_aload_n hx hb d_xtA_1 rfl rfl ?_
  refine va_tlen hx hb hT va_S.rf rfl d_xtA_2 ?_
  refine xtS (As := [.int i, .int (Int32.ofNat (lenS.getD k 0))]) (rest := []) hx hb hml hown hts hgd hw.1.2.2.2.2.2.1 hw.2.2.2.1.2.2.2.1 (hw.2.2.1 _ (by simp)) hTe va_S.rf (xt_X hw hgd h01.1 h01.2) ⟨by decide, by decide⟩ rfl rfl (by decide) ⟨Nat.le_refl _, Nat.le_refl _⟩ d_xtA_3 ?_
  refine lv_aload_n hx hb d_xtA_6 rfl rfl ?_
  refine lv_iload_n hx hb d_xtA_7 rfl rfl ?_
  refine va_tb hx hb hT va_S.rf hin rfl d_xtA_8 ?_
  refine lv_sipush hx hb d_xtA_9 (v := 255) (by decide) ?_
  refine lv_iand hx hb d_xtA_12 ?_
  refine lv_i2c hx hb d_xtA_13 (sc_c2 _) ?_
  exact W.zret hx hb hr (sc_nar _) (fun t ht hW9 => ⟨rfl, ht⟩) (fun _ z => by cases z) d_xtA_14 hlocks
theorem xt_I {k : Nat} (hw : xTw TB) (hk : k < nS) : xTm l TB nS lenS bytS ad adV A 0 xtI [.ref (ad k)] (some (.int 1)) := by
  refine xTm_of (by decide +kernel) (fun hF => ?_)
  obtain ⟨hx, hb, hml, hr, hown, hts, hlocks, hTe⟩ := hF
  refine va_gets hx hb hTe.2.1 va_S.rf hown (hts _ hw.2.2.2.2.1) (fun _ h => h) d_xtI_0 ?_
  refine lv_if_eq hx hb d_xtI_3 (tgt := 17) (by decide) (fun z => absurd z (by decide)) (fun _ => ?_)
  refine lv_aload_n hx hb d_xtI_6 rfl rfl ?_
  refine vk_getf hx hb (hTe.1.1 k hk).2.1 va_S.rf hown (hts _ hw.2.2.2.2.2.2.1) (fun _ h => h) d_xtI_7 ?_
  refine lv_if_ne hx hb d_xtI_10 (tgt := 17) (by decide) (fun z => absurd rfl z) (fun _ => ?_)
  refine lv_iconst hx hb d_xtI_13 (v := 1) (by decide) ?_
  refine lv_goto hx hb d_xtI_14 (tgt := 18) (by decide) ?_
  exact W.zret hx hb hr (by decide) (fun t ht hW9 => ⟨rfl, ht⟩) (fun _ z => by cases z) d_xtI_18 hlocks
theorem xt_K {k : Nat} (hw : xTw TB) (hk : k < nS) : xTm l TB nS lenS bytS ad adV A 0 xtK [.ref (ad k)] (some (.int 0)) := by
  refine xTm_of (by decide +kernel) (fun hF => ?_)
  obtain ⟨hx, hb, hml, hr, hown, hts, hlocks, hTe⟩ := hF
  refine va_gets hx hb hTe.2.1 va_S.rf hown (hts _ hw.2.2.2.2.1) (fun _ h => h) d_xtK_0 ?_
  refine lv_if_eq hx hb d_xtK_3 (tgt := 13) (by decide) (fun z => absurd z (by decide)) (fun _ => ?_)
  refine lv_aload_n hx hb d_xtK_6 rfl rfl ?_
  refine vk_getf hx hb (hTe.1.1 k hk).2.1 va_S.rf hown (hts _ hw.2.2.2.2.2.2.1) (fun _ h => h) d_xtK_7 ?_
  refine lv_goto hx hb d_xtK_10 (tgt := 14) (by decide) ?_
  exact W.zret hx hb hr (by decide) (fun t ht hW9 => ⟨rfl, ht⟩) (fun _ z => by cases z) d_xtK_14 hlocks
theorem xt_L {k : Nat} (hw : xTw TB) (hgd : ∀ w ∈ TB, goodWord w = true) (hk : k < nS) (hN : lenS.getD k 0 < 2 ^ 31) : xTm l TB nS lenS bytS ad adV A 1 xtL [.ref (ad k)] (some (.int (nI (lenS.getD k 0)))) := by
  refine xTm_of (by decide +kernel) (fun hF => ?_)
  obtain ⟨hx, hb, hml, hr, hown, hts, hlocks, hTe⟩ := hF
  refine lv_aload_n hx hb d_xtL_0 rfl rfl ?_
  refine vk_getf hx hb (hTe.1.1 k hk).2.2.1 va_S.rf hown (hts _ hw.2.2.2.2.2.1) (fun _ h => h) d_xtL_1 ?_
  refine va_tlen hx hb (hTe.1.1 k hk).2.2.2 va_S.rf (v := nI (lenS.getD k 0)) rfl d_xtL_4 ?_
  refine lv_aload_n hx hb d_xtL_5 rfl rfl ?_
  refine xtV (As := []) (rest := [.int (nI (lenS.getD k 0))]) hx hb hml hown hts hgd hw.1.2.1 rfl hw.2.2.2.1.1 (hw.2.1 _ (by simp)) hk hTe va_S.rf (xt_K hw hk) ⟨by decide, by decide⟩ rfl rfl (show (1 : Nat) ≤ 8 by decide) ⟨Nat.le_refl _, Nat.le_refl _⟩ d_xtL_6 ?_
  refine lv_ishr hx hb d_xtL_9 ?_
  rw [show nI (lenS.getD k 0) >>> ((0 : Int32) &&& 31) = nI (lenS.getD k 0) from sc_shr0 (by omega)]
  exact W.iret hx hb hr (fun t ht hW9 => ⟨rfl, ht⟩) (fun _ z => by cases z) d_xtL_10 hlocks
theorem xt_C {i : Int32} {k : Nat} (hw : xTw TB) (hgd : ∀ w ∈ TB, goodWord w = true) (hk : k < nS) (hN : lenS.getD k 0 < 2 ^ 31) (hin : vp_in i (lenS.getD k 0)) : xTm l TB nS lenS bytS ad adV A 3 xtC [.ref (ad k), .int i] (some (.int ((bytS.getD k []).getD i.toNatClampNeg 0 &&& 255))) := by
  refine xTm_of (by decide +kernel) (fun hF => ?_)
  obtain ⟨hx, hb, hml, hr, hown, hts, hlocks, hTe⟩ := hF
  refine lv_aload_n hx hb d_xtC_0 rfl rfl ?_
  refine xtV (As := []) (rest := []) hx hb hml hown hts hgd hw.1.2.2.2.1 rfl hw.2.2.2.1.2.1 (hw.2.1 _ (by simp)) hk hTe va_S.rf (xt_I hw hk) ⟨by decide, by decide⟩ rfl rfl (by decide) ⟨Nat.le_refl _, Nat.le_refl _⟩ d_xtC_1 ?_
  refine lv_if_eq hx hb d_xtC_4 (tgt := 16) (by decide) (fun z => absurd z (by decide)) (fun _ => ?_)
  refine lv_aload_n hx hb d_xtC_7 rfl rfl ?_
  refine vk_getf hx hb (hTe.1.1 k hk).2.2.1 va_S.rf hown (hts _ hw.2.2.2.2.2.1) (fun _ h => h) d_xtC_8 ?_
  refine lv_iload_n hx hb d_xtC_11 rfl rfl ?_
  refine xtS (As := [.ref (adV k), .int i]) (rest := []) hx hb hml hown hts hgd hw.1.2.2.2.2.1 hw.2.2.2.1.2.2.1 (hw.2.2.1 _ (by simp)) hTe va_S.rf (xt_A hw hgd hk hN hin) ⟨by decide, by decide⟩ rfl rfl (by decide) ⟨Nat.le_refl _, Nat.le_refl _⟩ d_xtC_12 ?_
  exact W.zret hx hb hr (sc_nar _) (fun t ht hW9 => ⟨rfl, ht⟩) (fun _ z => by cases z) d_xtC_15 hlocks
end XTX
section XTS
variable {p : Program} {l : Launch} {e : Env} {R : Room} {s : State} {m : MethodId} {args : Array Value} {below : List Frame} {meth : Method} {c : Code} {Q : State → Prop}
variable {E : xE} {ad adV : Nat → Nat} {cA : FieldType → ClassId} {D : va_G} {cl : List vw_C} {A : Nat → Prop} {r0 : Nat → Option Nat} {nL mc ms fin finS : Nat}
variable {rc : Nat → xM → xF → xP → Prop} {rn : xF → xP → Prop} {d : Nat} {Q0 : xP} {pc : Nat} {ls : xL} {st : List Value} {h : xH} {cc : ByteArray} {TB : List Cond} {TF : List xNF} {TM : List xNM} {TS : List xTS} {nS : Nat} {lenS : List Nat} {bytS : List (List Int32)} {own : String}
theorem so_tlen (hx : p.tables.exec = Jvm.exec) (hb : c.code = cc) (hml : c.maxLocals = nL) (hown : s.vm.findClass own = some m.cls) (hts : ∀ w ∈ TB, w.before args s = true) (hgd : ∀ w ∈ TB, goodWord w = true) (hEv : xEv TF TM TS nS lenS bytS ad adV A s) (hX : xTxE E nS lenS bytS) (hlen : ∀ f : xF, rn f Q0 → f.2.2.2.1.length ≤ fin ∧ xsz E f.2.2.2.1 ≤ finS) (hN : ∀ f, rn f Q0 → xG p l e (xroom d mc ms) s m args below meth c Q E ad cA D cl A r0 nL mc ms fin finS f) {idx : Nat} (h1 : xTx TB own idx 0) (hdg : decode cc pc = .ok (.invokevirtual idx, 3))
    (k : xwo E rc rn d Q0 (xivv E (pc + 3) [0] ls st h)) : xG p l e (xroom d mc ms) s m args below meth c Q E ad cA D cl A r0 nL mc ms fin finS (pc, ls, st, h) := by
  replace k : xwo E rc rn d Q0 (xtl E (pc + 3) ls st h) := k
  unfold xtl at k
  split at k
  · rename_i a r
    cases hb8 : (Nat.ble xt0 a && Nat.ble (xcat r) 8 && Nat.ble 1 (E.2.2.1 (a - xt0))) with
    | false => rw [hb8] at k; exact k.1.elim
    | true =>
      rw [hb8] at k
      rw [Bool.and_eq_true, Bool.and_eq_true] at hb8
      have hc8 := Nat.le_of_ble_eq_true hb8.1.2
      obtain ⟨hk, hN1, hN2, -⟩ := hX _ (Nat.le_of_ble_eq_true hb8.2)
      have hfin := hlen _ k
      intro cells slots ws H locs lsC stC e1 e2 hrel
      obtain ⟨hW, hP, hD, hS, hl, hst⟩ := hrel
      obtain ⟨_, rst, rfl, ⟨q, hq, rfl⟩, hst⟩ := hst
      have hcr := xva_cat hst
      have hq : q = ad (a - xt0) := by
        unfold xa at hq
        rw [hb8.1.1] at hq
        exact (Option.some.inj hq).symm
      subst hq
      have f1 : h.1.length ≤ fin := hfin.1
      have f2 : xsz E h.1 ≤ finS := hfin.2
      have e1' : cells + fin ≤ mc + h.1.length := e1
      have e2' : slots + finS ≤ ms + xsz E h.1 := e2
      refine xtV (As := []) (rest := rst) hx hb hml hown hts hgd h1.1.1.1 rfl (h1.2.1 rfl) (h1.1.2.1 _ (by simp)) hk hEv.2.2.1 hS (xt_L h1.1 hgd hk (by omega)) ⟨show 1 + 1 ≤ d + 8 by omega, show 60 * 1 + 60 ≤ 60 * d + 400 by omega⟩ rfl hl.1 (by omega) ⟨show cells ≤ mc by omega, show slots ≤ ms by omega⟩ hdg ?_
      rw [hN1]
      exact hN _ k cells slots ws H locs lsC _ e1 e2 ⟨hW, hP, hD, hS, hl, ⟨_, _, rfl, rfl, hst⟩⟩
  · exact k.1.elim
theorem so_tchr (hx : p.tables.exec = Jvm.exec) (hb : c.code = cc) (hml : c.maxLocals = nL) (hown : s.vm.findClass own = some m.cls) (hts : ∀ w ∈ TB, w.before args s = true) (hgd : ∀ w ∈ TB, goodWord w = true) (hEv : xEv TF TM TS nS lenS bytS ad adV A s) (hX : xTxE E nS lenS bytS) (hlen : ∀ f : xF, rn f Q0 → f.2.2.2.1.length ≤ fin ∧ xsz E f.2.2.2.1 ≤ finS) (hN : ∀ f, rn f Q0 → xG p l e (xroom d mc ms) s m args below meth c Q E ad cA D cl A r0 nL mc ms fin finS f) {idx : Nat} (h1 : xTx TB own idx 1) (hdg : decode cc pc = .ok (.invokevirtual idx, 3))
    (k : xwo E rc rn d Q0 (xivv E (pc + 3) [1] ls st h)) : xG p l e (xroom d mc ms) s m args below meth c Q E ad cA D cl A r0 nL mc ms fin finS (pc, ls, st, h) := by
  replace k : xwo E rc rn d Q0 (xtc E (pc + 3) ls st h) := k
  unfold xtc at k
  split at k
  · rename_i i a r
    cases hb8 : (Nat.ble xt0 a && Nat.ble (xcat r) 8) with
    | false => rw [hb8] at k; exact k.1.elim
    | true =>
      rw [hb8] at k
      rw [Bool.and_eq_true] at hb8
      have hc8 := Nat.le_of_ble_eq_true hb8.2
      obtain ⟨hin, k⟩ := k
      obtain ⟨hk, hN1, hN2, hN3⟩ := hX (a - xt0) (by
        have : ¬ (i < 0 ∨ E.2.2.1 (a - xt0) ≤ i.toNatClampNeg) := hin
        rcases Nat.eq_zero_or_pos (E.2.2.1 (a - xt0)) with z | z
        · exact absurd (Or.inr (by omega)) this
        · exact z)
      have hfin := hlen _ k
      intro cells slots ws H locs lsC stC e1 e2 hrel
      obtain ⟨hW, hP, hD, hS, hl, hst⟩ := hrel
      obtain ⟨_, _, rfl, rfl, _, rst, rfl, ⟨q, hq, rfl⟩, hst⟩ := hst
      have hcr := xva_cat hst
      have hq : q = ad (a - xt0) := by
        unfold xa at hq
        rw [hb8.1] at hq
        exact (Option.some.inj hq).symm
      subst hq
      have f1 : h.1.length ≤ fin := hfin.1
      have f2 : xsz E h.1 ≤ finS := hfin.2
      have e1' : cells + fin ≤ mc + h.1.length := e1
      have e2' : slots + finS ≤ ms + xsz E h.1 := e2
      refine xtV (As := [.int i]) (rest := rst) hx hb hml hown hts hgd h1.1.1.2.2.1 rfl (h1.2.2 rfl) (h1.1.2.1 _ (by simp)) hk hEv.2.2.1 hS (xt_C h1.1 hgd hk (by omega) (by rw [hN1]; exact hin)) ⟨show 3 + 1 ≤ d + 8 by omega, show 60 * 3 + 60 ≤ 60 * d + 400 by omega⟩ rfl hl.1 (by omega) ⟨show cells ≤ mc by omega, show slots ≤ ms by omega⟩ hdg ?_
      rw [hN3]
      exact hN _ k cells slots ws H locs lsC _ e1 e2 ⟨hW, hP, hD, hS, hl, ⟨_, _, rfl, rfl, hst⟩⟩
  · exact k.1.elim
end XTS
