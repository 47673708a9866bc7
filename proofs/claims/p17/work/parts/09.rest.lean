/-! the rest: ends, Math, Object(), switches, texts, arrays of two dimensions -/
/-- targets of a switch -/
def xtgt (pc : Nat) : List Int → List Nat → Prop
  | [], [] => True
  | o :: os, t :: ts => (pc : Int) + o = (t : Int) ∧ xtgt pc os ts
  | _, _ => False
section XSR
variable {p : Program} {l : Launch} {e : Env} {s : State} {m : MethodId} {args : Array Value} {below : List Frame} {meth : Method} {c : Code} {Q : State → Prop}
variable {E : xE} {ad adV : Nat → Nat} {cA : FieldType → ClassId} {D : va_G} {cl : List vw_C} {A : Nat → Prop} {r0 : Nat → Option Nat} {nL mc ms fin finS : Nat}
variable {rc : Nat → xM → xF → xP → Prop} {rn : xF → xP → Prop} {d : Nat} {Q0 : xP} {pc : Nat} {ls : xL} {st : List Value} {h : xH} {cc : ByteArray} {TB : List Cond} {TF : List xNF} {TM : List xNM} {TS : List xTS} {nS : Nat} {lenS : List Nat} {bytS : List (List Int32)} {own : String}
theorem so_ldcwS {R : Room} {T : State} {locs : List Loc} {cells slots : Nat} (X : Stand p l e R s m args below meth c T locs cells slots) (hexec : p.tables.exec = Jvm.exec) {index : Nat} {v : UInt32} (hown : s.vm.findClass own = some m.cls)
    (hconst : (Cond.constantFloat own index v).before args s = true) {g : JFrame} (hg : g.method = m) (hdg : decode c.code g.pc = .ok (.ldc_w index, 3)) :
    ∀ target, Steps p.tables e below (T.setTop { g with pc := g.pc + 3, stack := .float v :: g.stack }) target → Steps p.tables e below (T.setTop g) target := by
  obtain ⟨k, cf, hk, hcf, hcp⟩ := Cond.constantFloat_spec hown hconst
  obtain ⟨k', hk', he⟩ := X.warmed.alike.2.2 _ _ hk
  intro target hrest
  subst hg
  jvm_step X.here [hexec, hdg, ldc_w.wp_float (s := T) (f := g) X.here.top hk' (by rw [he]; exact hcf) hcp]
  exact hrest
theorem so_ldcwF {R : Room} {H : Heap} {locs : List Loc} {cells slots : Nat} {lsC : Array Slot} {rest : List Value} (hexec : p.tables.exec = Jvm.exec) (hb : c.code = cc) {index : Nat} {v : UInt32} (hown : s.vm.findClass own = some m.cls) (hconst : (Cond.constantFloat own index v).before args s = true) (hdg : decode cc pc = .ok (.ldc_w index, 3)) (k : W p l e R s m args below meth c H locs cells slots Q (F0 m (pc + 3) lsC (.float v :: rest))) : W p l e R s m args below meth c H locs cells slots Q (F0 m pc lsC rest) := by
  intro T hT X
  obtain ⟨t, a, b⟩ := k T hT X
  exact ⟨t, so_ldcwS X hexec hown hconst (g := F0 m pc lsC rest) rfl (by rw [hb]; exact hdg) t a, b⟩
theorem so_obj (hx : p.tables.exec = Jvm.exec) (hb : c.code = cc) (hml : c.maxLocals = nL) (hown : s.vm.findClass own = some m.cls) {idx : Nat} (h1 : (Cond.methodLink own idx Lib.objectInit).before args s = true) (h2 : (Cond.instanceMethod Lib.objectInit).before args s = true) (h3 : (Cond.code Lib.objectInit ⟨#[0xb1]⟩ 1 none).before args s = true) (hN : ∀ f, rn f Q0 → xG p l e (xroom d mc ms) s m args below meth c Q E ad cA D cl A r0 nL mc ms fin finS f) (hdg : decode cc pc = .ok (.invokespecial idx, 3))
    (k : xwo E rc rn d Q0 (xivi E (pc + 3) [] ls st h)) : xG p l e (xroom d mc ms) s m args below meth c Q E ad cA D cl A r0 nL mc ms fin finS (pc, ls, st, h) := by
  replace k : xwo E rc rn d Q0 (xobj (pc + 3) ls st h) := k
  unfold xobj at k
  split at k
  · rename_i a r
    cases hb8 : Nat.ble (xcat r) 8 with
    | false => rw [hb8] at k; exact k.1.elim
    | true =>
      rw [hb8] at k
      have hc8 := Nat.le_of_ble_eq_true hb8
      intro cells slots ws H locs lsC stC e1 e2 hrel
      obtain ⟨hW, hP, hD, hS, hl, hst⟩ := hrel
      obtain ⟨_, rst, rfl, ⟨q, hq, rfl⟩, hst⟩ := hst
      have hcr := xva_cat hst
      exact W.objInit hx hb hown h1 h2 h3 rfl (by rw [hml]; exact hl.1) rfl hdg (show 1 ≤ d + 8 by omega) (show 2 * 0 + xcat rst + 12 ≤ 60 * d + 400 by omega) (hN _ k cells slots ws H locs lsC _ e1 e2 ⟨hW, hP, hD, hS, hl, hst⟩)
  · exact k.1.elim
theorem so_max (hx : p.tables.exec = Jvm.exec) (hb : c.code = cc) (hml : c.maxLocals = nL) (hown : s.vm.findClass own = some m.cls) {idx : Nat} (h1 : (Cond.methodLink own idx Lib.Math.max.name).before args s = true) (h2 : (Cond.static Lib.Math.max.name).before args s = true) (h3 : (Cond.initialized "java/lang/Math").before args s = true) (h4 : (Cond.code Lib.Math.max.name Lib.Math.max.code 2 (some .int)).before args s = true) (hlen : ∀ f : xF, rn f Q0 → f.2.2.2.1.length ≤ fin ∧ xsz E f.2.2.2.1 ≤ finS) (hN : ∀ f, rn f Q0 → xG p l e (xroom d mc ms) s m args below meth c Q E ad cA D cl A r0 nL mc ms fin finS f) (hdg : decode cc pc = .ok (.invokestatic idx, 3))
    (k : xwo E rc rn d Q0 (xivs E (pc + 3) [2] ls st h)) : xG p l e (xroom d mc ms) s m args below meth c Q E ad cA D cl A r0 nL mc ms fin finS (pc, ls, st, h) := by
  replace k : xwo E rc rn d Q0 (xmax (pc + 3) ls st h) := k
  unfold xmax at k
  split at k
  · rename_i y x r
    cases hb8 : Nat.ble (xcat r) 8 with
    | false => rw [hb8] at k; exact k.1.elim
    | true =>
      rw [hb8] at k
      have hc8 := Nat.le_of_ble_eq_true hb8
      have hlk := hlen _ k
      have hl1 : h.1.length ≤ fin := hlk.1
      have hl2 : xsz E h.1 ≤ finS := hlk.2
      intro cells slots ws H locs lsC stC e1 e2 hrel
      have e1 : cells + fin ≤ mc + h.1.length := e1
      have e2 : slots + finS ≤ ms + xsz E h.1 := e2
      obtain ⟨hW, hP, hD, hS, hl, hst⟩ := hrel
      obtain ⟨_, _, rfl, rfl, _, rst, rfl, rfl, hst⟩ := hst
      have hcr := xva_cat hst
      exact va_mmax (R := xroom d mc ms) (rest := rst) hx hb (by rw [hml]; exact hl.1.symm) hown h1 h2 h3 h4 (show 1 ≤ d + 8 by omega) (show xcat rst + 13 ≤ 60 * d + 400 by omega) (show cells ≤ mc by omega) (show slots ≤ ms by omega) hdg (hN _ k cells slots ws H locs lsC _ e1 e2 ⟨hW, hP, hD, hS, hl, ⟨_, _, rfl, rfl, hst⟩⟩)
  · exact k.1.elim
theorem so_min (hx : p.tables.exec = Jvm.exec) (hb : c.code = cc) (hml : c.maxLocals = nL) (hown : s.vm.findClass own = some m.cls) {idx : Nat} (h1 : (Cond.methodLink own idx Lib.Math.min.name).before args s = true) (h2 : (Cond.static Lib.Math.min.name).before args s = true) (h3 : (Cond.initialized "java/lang/Math").before args s = true) (h4 : (Cond.code Lib.Math.min.name Lib.Math.min.code 2 (some .int)).before args s = true) (hlen : ∀ f : xF, rn f Q0 → f.2.2.2.1.length ≤ fin ∧ xsz E f.2.2.2.1 ≤ finS) (hN : ∀ f, rn f Q0 → xG p l e (xroom d mc ms) s m args below meth c Q E ad cA D cl A r0 nL mc ms fin finS f) (hdg : decode cc pc = .ok (.invokestatic idx, 3))
    (k : xwo E rc rn d Q0 (xivs E (pc + 3) [3] ls st h)) : xG p l e (xroom d mc ms) s m args below meth c Q E ad cA D cl A r0 nL mc ms fin finS (pc, ls, st, h) := by
  replace k : xwo E rc rn d Q0 (xmin (pc + 3) ls st h) := k
  unfold xmin at k
  split at k
  · rename_i y x r
    cases hb8 : Nat.ble (xcat r) 8 with
    | false => rw [hb8] at k; exact k.1.elim
    | true =>
      rw [hb8] at k
      have hc8 := Nat.le_of_ble_eq_true hb8
      have hlk := hlen _ k
      have hl1 : h.1.length ≤ fin := hlk.1
      have hl2 : xsz E h.1 ≤ finS := hlk.2
      intro cells slots ws H locs lsC stC e1 e2 hrel
      have e1 : cells + fin ≤ mc + h.1.length := e1
      have e2 : slots + finS ≤ ms + xsz E h.1 := e2
      obtain ⟨hW, hP, hD, hS, hl, hst⟩ := hrel
      obtain ⟨_, _, rfl, rfl, _, rst, rfl, rfl, hst⟩ := hst
      have hcr := xva_cat hst
      exact va_mmin (R := xroom d mc ms) (rest := rst) hx hb (by rw [hml]; exact hl.1.symm) hown h1 h2 h3 h4 (show 1 ≤ d + 8 by omega) (show xcat rst + 13 ≤ 60 * d + 400 by omega) (show cells ≤ mc by omega) (show slots ≤ ms by omega) hdg (hN _ k cells slots ws H locs lsC _ e1 e2 ⟨hW, hP, hD, hS, hl, ⟨_, _, rfl, rfl, hst⟩⟩)
  · exact k.1.elim
theorem xsw_in {rn : xF → Prop} {ls : xL} {r : List Value} {h : xH} {x : Int32} {g : xF} : ∀ (ts : List Nat) (lo : Int) (j t : Nat), ts[j]? = some t → x.toInt = lo + (j : Int) → xdl rn (xsw ls r h x lo ts) g → rn (t, ls, r, h)
  | [], _, _, _, hj, _, _ => by simp at hj
  | u :: ts, lo, 0, t, hj, hx, k => by
    have e : u = t := by simpa using hj
    subst e
    exact k.1 (by simpa using hx)
  | u :: ts, lo, j + 1, t, hj, hx, k => by
    have hj : ts[j]? = some t := by simpa using hj
    have hx : x.toInt = lo + 1 + (j : Int) := by omega
    exact xsw_in ts (lo + 1) j t hj hx (k.2 (by omega))
theorem xsw_out {rn : xF → Prop} {ls : xL} {r : List Value} {h : xH} {x : Int32} {g : xF} : ∀ (ts : List Nat) (lo : Int), (x.toInt < lo ∨ lo + (ts.length : Int) ≤ x.toInt) → xdl rn (xsw ls r h x lo ts) g → rn g
  | [], _, _, k => k
  | u :: ts, lo, hx, k => by
    have hlen : ((u :: ts).length : Int) = (ts.length : Int) + 1 := by simp
    rw [hlen] at hx
    exact xsw_out ts (lo + 1) (by omega) (k.2 (by omega))
theorem xtgt_at {pc : Nat} : ∀ (os : List Int) (ts : List Nat), xtgt pc os ts → os.length = ts.length ∧ ∀ (j : Nat) (o : Int), os[j]? = some o → ∃ t, ts[j]? = some t ∧ (pc : Int) + o = (t : Int)
  | [], [], _ => ⟨rfl, fun j o h => by simp at h⟩
  | [], _ :: _, k => k.elim
  | _ :: _, [], k => k.elim
  | o :: os, t :: ts, k => by
    obtain ⟨h1, h2⟩ := xtgt_at os ts k.2
    refine ⟨by simp [h1], fun j o2 hj => ?_⟩
    cases j with
    | zero =>
      have e : o = o2 := by simpa using hj
      subst e
      exact ⟨t, rfl, k.1⟩
    | succ j => exact h2 j o2 (by simpa using hj)
theorem so_sw (hx : p.tables.exec = Jvm.exec) (hb : c.code = cc) (hN : ∀ f, rn f Q0 → xG p l e (xroom d mc ms) s m args below meth c Q E ad cA D cl A r0 nL mc ms fin finS f) {df lo hi : Int} {offs : Array Int} {len nx : Nat} {tg : List Nat} {M : xM} {v : Value} (hdg : decode cc pc = .ok (.tableswitch df lo hi offs, len)) (hof : (offs.toList.length : Int) = hi - lo + 1) (htg : xtgt pc (df :: offs.toList) tg)
    (k : xwo E rc rn d Q0 (xins E M (.tableswitch df lo hi offs) nx tg v ls st h)) : xG p l e (xroom d mc ms) s m args below meth c Q E ad cA D cl A r0 nL mc ms fin finS (pc, ls, st, h) := by
  cases tg with
  | nil => exact htg.elim
  | cons t ts =>
    obtain ⟨ht, hts⟩ := htg
    obtain ⟨hl1, hl2⟩ := xtgt_at _ _ hts
    replace k : xwo E rc rn d Q0 (xswt lo nx t ts ls st h) := k
    unfold xswt at k
    split at k
    · rename_i x r
      have k : xdl (fun g => rn g Q0) (xsw ls r h x lo ts) (t, ls, r, h) := k
      intro cells slots ws H locs lsC stC e1 e2 hrel
      obtain ⟨hW, hP, hD, hS, hl, hst⟩ := hrel
      obtain ⟨_, _, rfl, rfl, hst⟩ := hst
      by_cases ho : x.toInt < lo ∨ hi < x.toInt
      · exact lv_tableOut hx hb hdg ho ht (hN _ (xsw_out ts lo (by omega) k) cells slots ws H locs lsC _ e1 e2 ⟨hW, hP, hD, hS, hl, hst⟩)
      · have hj : (x.toInt - lo).toNat < offs.toList.length := by omega
        obtain ⟨u, hu, hpu⟩ := hl2 _ _ (List.getElem?_eq_getElem hj)
        exact lv_tableIn hx hb hdg (by omega) (by omega) (by rw [← Array.getElem?_toList]; exact List.getElem?_eq_getElem hj) hpu (hN _ (xsw_in ts lo _ u hu (by omega) k) cells slots ws H locs lsC _ e1 e2 ⟨hW, hP, hD, hS, hl, hst⟩)
    · exact k.1.elim
theorem xD3 {ws : va_W} {H : Heap} {e1 e2 e3 : va_E} (hD : va_D A ws) (hlt : ∀ (k : Nat) (q : Nat × va_E), ws[k]? = some q → q.1 < H.size) (hA : ∀ q : Nat, H.size ≤ q → A q) : va_D A (ws ++ [(H.size, e1), (H.size + 1, e2), (H.size + 2, e3)]) := by
  refine va_D.app hD ⟨fun i j p q hi hj hpq => ?_, fun k q hk => ?_⟩ (fun i j p q hi hj hpq => ?_)
  · match i, j, hi, hj with
    | 0, 0, _, _ => rfl
    | 1, 1, _, _ => rfl
    | 2, 2, _, _ => rfl
    | 0, 1, hi, hj => cases hi; cases hj; exact absurd hpq (by show ¬ H.size = H.size + 1; omega)
    | 0, 2, hi, hj => cases hi; cases hj; exact absurd hpq (by show ¬ H.size = H.size + 2; omega)
    | 1, 0, hi, hj => cases hi; cases hj; exact absurd hpq (by show ¬ H.size + 1 = H.size; omega)
    | 1, 2, hi, hj => cases hi; cases hj; exact absurd hpq (by show ¬ H.size + 1 = H.size + 2; omega)
    | 2, 0, hi, hj => cases hi; cases hj; exact absurd hpq (by show ¬ H.size + 2 = H.size; omega)
    | 2, 1, hi, hj => cases hi; cases hj; exact absurd hpq (by show ¬ H.size + 2 = H.size + 1; omega)
    | i + 3, _, hi, _ => simp at hi
    | 0, j + 3, _, hj => simp at hj
    | 1, j + 3, _, hj => simp at hj
    | 2, j + 3, _, hj => simp at hj
  · match k, hk with
    | 0, hk => cases hk; exact hA _ (Nat.le_refl _)
    | 1, hk => cases hk; exact hA _ (Nat.le_add_right _ _)
    | 2, hk => cases hk; exact hA _ (Nat.le_add_right _ _)
    | k + 3, hk => simp at hk
  · have h1 := hlt i p hi
    have h2 : H.size ≤ q.1 := by
      match j, hj with
      | 0, hj => cases hj; exact Nat.le_refl _
      | 1, hj => cases hj; exact Nat.le_add_right _ _
      | 2, hj => cases hj; exact Nat.le_add_right _ _
      | j + 3, hj => simp at hj
    omega
theorem xout (c : ClassId) (h0 : Nat) : Jvm.Free.Multi.outerC c 2 h0 2 = vp_cell c (2, .inr (.inr (.inr (.inr (fun j => if j < 2 then some (h0 + 1 + j) else none))))) := by
  rw [vp_cell_q]
  show (((({ cls := c, slots := Array.replicate 2 .null, vm := .none } : Cell).setSlot 0 (.ref (h0 + 1 + 0))).setSlot 1 (.ref (h0 + 1 + 1)))) = _
  rw [arrV_new, arrV_store, arrV_store]
  refine congrArg (arrV c 2) (funext fun j => ?_)
  by_cases j0 : j = 0
  · subst j0; simp [updV, va_rf]
  · by_cases j1 : j = 1
    · subst j1; simp [updV, va_rf]
    · have : ¬ j < 2 := by omega
      simp [updV, va_rf, j0, j1, this]
set_option maxHeartbeats 4000000 in
theorem so_mul (hx : p.tables.exec = Jvm.exec) (hb : c.code = cc) (hts : ∀ w ∈ TB, w.before args s = true) (hown : s.vm.findClass own = some m.cls) (hK : va_K D cl (xtys cA) s) (hA : ∀ q, s.heap.size ≤ q → A q) (hEv : xEv TF TM TS nS lenS bytS ad adV A s) (hac : Cond.arrayClass .float ∈ TB) (hlen : ∀ f : xF, rn f Q0 → f.2.2.2.1.length ≤ fin ∧ xsz E f.2.2.2.1 ≤ finS) (hfin : fin ≤ xt0) (hN : ∀ f, rn f Q0 → xG p l e (xroom d mc ms) s m args below meth c Q E ad cA D cl A r0 nL mc ms fin finS f) {idx : Nat} (hlk : Cond.classLink own idx "[[F" ∈ TB) (hdg : decode cc pc = .ok (.multianewarray idx 2, 4))
    (k : xwo E rc rn d Q0 (xmul (pc + 4) ls st h)) : xG p l e (xroom d mc ms) s m args below meth c Q E ad cA D cl A r0 nL mc ms fin finS (pc, ls, st, h) := by
  unfold xmul at k
  split at k
  · rename_i n k2 r
    obtain ⟨⟨hk2, hn0, hn1⟩, k⟩ := k
    subst hk2
    replace k : rn (pc + 4, ls, .ref h.1.length :: r, h.1 ++ [.inl (.array .float, 2, [some (h.1.length + 1), some (h.1.length + 2)]), .inl (.float, n.toNatClampNeg, []), .inl (.float, n.toNatClampNeg, [])], xclr (xclr (xclr h.2 h.1.length) (h.1.length + 1)) (h.1.length + 2)) Q0 := k
    obtain ⟨hl1, hl2⟩ := hlen _ k
    replace hl1 : (h.1 ++ [Sum.inl (FieldType.array .float, 2, [some (h.1.length + 1), some (h.1.length + 2)]), .inl (.float, n.toNatClampNeg, []), .inl (.float, n.toNatClampNeg, [])]).length ≤ fin := hl1
    replace hl2 : xsz E (h.1 ++ [Sum.inl (FieldType.array .float, 2, [some (h.1.length + 1), some (h.1.length + 2)]), .inl (.float, n.toNatClampNeg, []), .inl (.float, n.toNatClampNeg, [])]) ≤ finS := hl2
    have hone : xsz E [Sum.inl (FieldType.array .float, 2, [some (h.1.length + 1), some (h.1.length + 2)]), .inl (.float, n.toNatClampNeg, []), .inl (.float, n.toNatClampNeg, [])] = 2 + 2 * n.toNatClampNeg := by simp [xsz, xs1]; omega
    rw [xsz_app, hone] at hl2
    rw [List.length_append] at hl1
    simp only [List.length_cons, List.length_nil] at hl1
    intro cells slots ws H locs lsC stC e1 e2 hrel
    replace e1 : cells + fin ≤ mc + h.1.length := e1
    replace e2 : slots + finS ≤ ms + xsz E h.1 := e2
    obtain ⟨⟨hW, hm⟩, hP, hD, hS, hl, hst⟩ := hrel
    obtain ⟨_, _, rfl, rfl, _, rst, rfl, rfl, hst⟩ := hst
    intro T hT X
    obtain ⟨vm₁, c9, comp, -, fA, fC, -, -, X', step⟩ := X.multianewarray2F hx hown (ty := .float) (hts _ hlk) (arrayOver_alikeB (Vm.Alike.refl s.vm) hEv.2.2.2.2) (hts _ hac) (g := F0 m pc lsC (.int n :: .int 2 :: rst)) rfl (by rw [hb]; exact hdg) (n := 2) (k := n) (rest := rst) rfl (by decide) hn0 (by decide) (by show n.toNatClampNeg * 4 ≤ _; omega) (by omega) rfl rfl (by show cells + (1 + 2) ≤ mc; omega) (by show slots + (2 + 2 * n.toNatClampNeg) ≤ ms; omega)
    have g1 : s.vm.findClass ("[" ++ (FieldType.array .float).toString) = some (cA (.array .float)) := (hK.2 4 _ rfl).2
    have g2 : s.vm.findClass (FieldType.array .float).toString = some (cA .float) := (hK.2 3 _ rfl).2
    cases g1.symm.trans fA
    cases g2.symm.trans fC
    have z2 : (2 : Int32).toNatClampNeg = 2 := by decide
    rw [z2] at X' step
    generalize hF : Jvm.Free.Multi.fill (T.setVm vm₁) (cA (.array .float)) (cA .float) 2 n.toNatClampNeg (defaultValue .float) 2 = Fh at X' step
    have hTh : (T.setVm vm₁).heap = H := hT
    obtain ⟨f1, f2, -, -⟩ := Jvm.Free.Multi.fill_facts (T.setVm vm₁) (cA (.array .float)) (cA .float) 2 n.toNatClampNeg (defaultValue .float) 2
    rw [hF, hTh] at f1 f2
    rw [xout] at f2
    have hold : ∀ x : Nat, x < H.size → Fh.heap[x]? = H[x]? := fun x hx9 => by
      have := Jvm.Free.Multi.fill_old (T.setVm vm₁) (cA (.array .float)) (cA .float) 2 n.toNatClampNeg (defaultValue .float) (a := x) (by rw [hTh]; exact hx9) 2
      rw [hF, hTh] at this
      exact this
    have hrow : ∀ j : Nat, j < 2 → Fh.heap[H.size + 1 + j]? = some (vp_cell (cA .float) (n.toNatClampNeg, .inr (.inr (.inl (fun _ => 0))))) := fun j hj => by
      have := Jvm.Free.Multi.fill_inner (T.setVm vm₁) (cA (.array .float)) (cA .float) 2 n.toNatClampNeg (defaultValue .float) 2 j hj
      rw [hF, hTh] at this
      rw [this, vp_cell_f]
      exact congrArg some (arrV_new _ _ _)
    have hlt : ∀ (k : Nat) (q : Nat × va_E), ws[k]? = some q → q.1 < H.size := fun k q hk => (hP k q hk).lt
    have hA2 : ∀ q : Nat, H.size ≤ q → A q := fun q hq => hA q (Nat.le_trans hS.1 hq)
    have hD1 := xD3 (A := A) (H := H) (e1 := .inl (cA (.array .float), 2, .inr (.inr (.inr (.inr (fun j => if j < 2 then some (H.size + 1 + j) else none)))))) (e2 := .inl (cA .float, n.toNatClampNeg, .inr (.inr (.inl (fun _ => 0))))) (e3 := .inl (cA .float, n.toNatClampNeg, .inr (.inr (.inl (fun _ => 0))))) hD hlt hA2
    have hP1 : va_P D cl (ws ++ [(H.size, .inl (cA (.array .float), 2, .inr (.inr (.inr (.inr (fun j => if j < 2 then some (H.size + 1 + j) else none)))))), (H.size + 1, .inl (cA .float, n.toNatClampNeg, .inr (.inr (.inl (fun _ => 0))))), (H.size + 2, .inl (cA .float, n.toNatClampNeg, .inr (.inr (.inl (fun _ => 0)))))]) Fh.heap := (hP.kept (fun k9 q9 hk9 => hold q9.1 (hlt k9 q9 hk9))).app (fun k9 q9 hk9 => by
      match k9, hk9 with
      | 0, hk9 => cases hk9; exact f2
      | 1, hk9 => cases hk9; exact hrow 0 (by omega)
      | 2, hk9 => cases hk9; exact hrow 1 (by omega)
      | k9 + 3, hk9 => simp at hk9)
    generalize hw3 : ([(H.size, .inl (cA (.array .float), 2, .inr (.inr (.inr (.inr (fun j => if j < 2 then some (H.size + 1 + j) else none)))))), (H.size + 1, .inl (cA .float, n.toNatClampNeg, .inr (.inr (.inl (fun _ => 0))))), (H.size + 2, .inl (cA .float, n.toNatClampNeg, .inr (.inr (.inl (fun _ => 0)))))] : va_W) = w3 at hD1 hP1
    have hmon := xmon_app ad ws w3
    have hS1 : va_S A s.heap Fh.heap locs := ⟨by rw [f1]; have := hS.1; omega, fun q h1 h2 => (hold q (Nat.lt_of_lt_of_le h1 hS.1)).trans (hS.2.1 q h1 h2), hS.2.2⟩
    have hat : ∀ (j a9 : Nat) (e9 : va_E), w3[j]? = some (a9, e9) → h.1.length + j < xt0 → xa ad (ws ++ w3) (h.1.length + j) = some a9 := fun j a9 e9 hj hlt9 => xa_of hlt9 (e := e9) (by rw [← hW.1, List.getElem?_append_right (Nat.le_add_right _ _), Nat.add_sub_cancel_left]; exact hj)
    have hW1 : xW E ad cA (h.1 ++ [.inl (.array .float, 2, [some (h.1.length + 1), some (h.1.length + 2)]), .inl (.float, n.toNatClampNeg, []), .inl (.float, n.toNatClampNeg, [])], xclr (xclr (xclr h.2 h.1.length) (h.1.length + 1)) (h.1.length + 2)) (ws ++ w3) := by
      refine ⟨by rw [← hw3]; simp [hW.1], by show (h.1 ++ _).length ≤ xt0; rw [List.length_append]; simp only [List.length_cons, List.length_nil]; omega, fun i t hi => ?_⟩
      replace hi : (h.1 ++ [Sum.inl (FieldType.array .float, 2, [some (h.1.length + 1), some (h.1.length + 2)]), .inl (.float, n.toNatClampNeg, []), .inl (.float, n.toNatClampNeg, [])])[i]? = some t := hi
      by_cases hil : i < h.1.length
      · rw [List.getElem?_append_left hil] at hi
        obtain ⟨b9, e9, q1, q2⟩ := hW.2.2 i t hi
        refine ⟨b9, e9, by rw [List.getElem?_append_left (by rw [hW.1]; exact hil)]; exact q1, xce_row ?_ ?_ ?_ (xce_mono hmon q2)⟩
        · show x0 (x0 (x0 _ _ _) _ _) _ _ i = _
          rw [x0_row _ _ _ (show i ≠ _ by omega), x0_row _ _ _ (show i ≠ _ by omega), x0_row _ _ _ (show i ≠ _ by omega)]
        · show x0 (x0 (x0 _ _ _) _ _) _ _ i = _
          rw [x0_row _ _ _ (show i ≠ _ by omega), x0_row _ _ _ (show i ≠ _ by omega), x0_row _ _ _ (show i ≠ _ by omega)]
        · show x0 (x0 (x0 _ _ _) _ _) _ _ i = _
          rw [x0_row _ _ _ (show i ≠ _ by omega), x0_row _ _ _ (show i ≠ _ by omega), x0_row _ _ _ (show i ≠ _ by omega)]
      · rw [List.getElem?_append_right (by omega)] at hi
        obtain ⟨j, rfl⟩ : ∃ j, i = h.1.length + j := ⟨i - h.1.length, by omega⟩
        rw [Nat.add_sub_cancel_left] at hi
        have hws : (ws ++ w3)[h.1.length + j]? = w3[j]? := by rw [← hW.1, List.getElem?_append_right (Nat.le_add_right _ _), Nat.add_sub_cancel_left]
        rw [hws, ← hw3]
        match j, hi with
        | 0, hi =>
          cases hi
          refine ⟨_, _, rfl, _, rfl, fun j hj => ?_⟩
          match j, hj with
          | 0, _ => exact ⟨H.size + 1, by rw [hw3]; exact hat 1 (H.size + 1) (.inl (cA .float, n.toNatClampNeg, .inr (.inr (.inl (fun _ => 0))))) (by rw [← hw3]; rfl) (by omega), rfl⟩
          | 1, _ => exact ⟨H.size + 2, by rw [hw3]; exact hat 2 (H.size + 2) (.inl (cA .float, n.toNatClampNeg, .inr (.inr (.inl (fun _ => 0))))) (by rw [← hw3]; rfl) (by omega), rfl⟩
        | 1, hi =>
          cases hi
          refine ⟨_, _, rfl, ?_⟩
          show Sum.inl (cA .float, n.toNatClampNeg, Sum.inr (Sum.inr (Sum.inl (fun _ => 0)))) = Sum.inl (cA .float, n.toNatClampNeg, Sum.inr (Sum.inr (Sum.inl (x0 (x0 (x0 h.2.2.2 h.1.length 0) (h.1.length + 1) 0) (h.1.length + 2) 0 (h.1.length + 1)))))
          rw [x0_row _ _ _ (show h.1.length + 1 ≠ h.1.length + 2 by omega), x0_at]
        | 2, hi =>
          cases hi
          refine ⟨_, _, rfl, ?_⟩
          show Sum.inl (cA .float, n.toNatClampNeg, Sum.inr (Sum.inr (Sum.inl (fun _ => 0)))) = Sum.inl (cA .float, n.toNatClampNeg, Sum.inr (Sum.inr (Sum.inl (x0 (x0 (x0 h.2.2.2 h.1.length 0) (h.1.length + 1) 0) (h.1.length + 2) 0 (h.1.length + 2)))))
          rw [x0_at]
        | j + 3, hi => simp at hi
    have hgo := hN _ k (cells + 1 + 2) (slots + 2 + 2 * n.toNatClampNeg) (ws ++ w3) Fh.heap locs lsC (.ref H.size :: rst) (by
      show cells + 1 + 2 + fin ≤ mc + (h.1 ++ _).length
      rw [List.length_append]; simp only [List.length_cons, List.length_nil]; omega) (by
      show slots + 2 + 2 * n.toNatClampNeg + finS ≤ ms + xsz E (h.1 ++ _)
      rw [xsz_app, hone]; omega) ⟨⟨hW1, fun k a z => hmon _ _ (hm k a z)⟩, hP1, hD1, hS1, xls_mono hmon hl, ⟨_, _, rfl, ⟨H.size, by
        have := hat 0 H.size _ (by rw [← hw3]; rfl) (by omega)
        rw [Nat.add_zero] at this
        exact this, rfl⟩, xva_mono hmon hst⟩⟩
    obtain ⟨t, a1, b1⟩ := hgo Fh rfl X'
    refine ⟨t, step t ?_, b1⟩
    have e9 : T.heap.size = H.size := by rw [hT]
    rw [e9]
    exact a1
  · exact k.1.elim
theorem so_rei (hx : p.tables.exec = Jvm.exec) (hb : c.code = cc) {M : xM} (hr : meth.sig.returnType = M.2.2.2.1) (hlocks : meth.locks = false) (hK : va_K D cl (xtys cA) s) {v0 : Option Value} {h0 : xH} {ws0 : va_W} (hdg : decode cc pc = .ok (.ireturn, 1))
    (k : xwo E rc rn d (fun v' h2 => v' = v0 ∧ h2 = h0) (xrei M st h)) : xG p l e (xroom d mc ms) s m args below meth c (MQ below (xQc E ad cA D cl ws0 s.heap.size v0 h0) args s mc ms (va_A ws0 s.heap.size)) E ad cA D cl (va_A ws0 s.heap.size) (xa ad ws0) nL mc ms h0.1.length (xsz E h0.1) (pc, ls, st, h) := by
  unfold xrei at k
  split at k
  · rename_i v hM
    obtain ⟨hc, rfl, rfl⟩ := k
    intro cells slots ws H locs lsC stC e1 e2 hrel
    obtain ⟨⟨hW, hm⟩, hP, hD, hS, hl, hst⟩ := hrel
    have e1 : cells + h.1.length ≤ mc + h.1.length := e1
    have e2 : slots + xsz E h.1 ≤ ms + xsz E h.1 := e2
    obtain ⟨_, _, rfl, rfl, rfl⟩ := hst
    refine W.widen (k := mc) (n := ms) (by omega) (by omega) ?_
    exact W.iret hx hb (hr.trans hM) (fun t ht hW9 => ⟨⟨_, ws, rfl, ⟨_, rfl, rfl⟩, hW, hm, by rw [ht]; exact hP, va_K.moved hW9.alike hK, hD⟩, hS.F ht⟩) hS.2.2 hdg hlocks
  · rename_i v hM
    obtain ⟨hc, rfl, rfl⟩ := k
    intro cells slots ws H locs lsC stC e1 e2 hrel
    obtain ⟨⟨hW, hm⟩, hP, hD, hS, hl, hst⟩ := hrel
    have e1 : cells + h.1.length ≤ mc + h.1.length := e1
    have e2 : slots + xsz E h.1 ≤ ms + xsz E h.1 := e2
    obtain ⟨_, _, rfl, rfl, rfl⟩ := hst
    refine W.widen (k := mc) (n := ms) (by omega) (by omega) ?_
    exact W.zret hx hb (hr.trans hM) (congrArg Value.int hc) (fun t ht hW9 => ⟨⟨_, ws, rfl, ⟨_, rfl, rfl⟩, hW, hm, by rw [ht]; exact hP, va_K.moved hW9.alike hK, hD⟩, hS.F ht⟩) hS.2.2 hdg hlocks
  · exact k.1.elim
theorem so_rel (hx : p.tables.exec = Jvm.exec) (hb : c.code = cc) {M : xM} (hr : meth.sig.returnType = M.2.2.2.1) (hlocks : meth.locks = false) (hK : va_K D cl (xtys cA) s) {v0 : Option Value} {h0 : xH} {ws0 : va_W} (hdg : decode cc pc = .ok (.lreturn, 1))
    (k : xwo E rc rn d (fun v' h2 => v' = v0 ∧ h2 = h0) (xrel M st h)) : xG p l e (xroom d mc ms) s m args below meth c (MQ below (xQc E ad cA D cl ws0 s.heap.size v0 h0) args s mc ms (va_A ws0 s.heap.size)) E ad cA D cl (va_A ws0 s.heap.size) (xa ad ws0) nL mc ms h0.1.length (xsz E h0.1) (pc, ls, st, h) := by
  unfold xrel at k
  split at k
  · rename_i v hM
    obtain ⟨hc, rfl, rfl⟩ := k
    intro cells slots ws H locs lsC stC e1 e2 hrel
    obtain ⟨⟨hW, hm⟩, hP, hD, hS, hl, hst⟩ := hrel
    have e1 : cells + h.1.length ≤ mc + h.1.length := e1
    have e2 : slots + xsz E h.1 ≤ ms + xsz E h.1 := e2
    obtain ⟨_, _, rfl, rfl, rfl⟩ := hst
    refine W.widen (k := mc) (n := ms) (by omega) (by omega) ?_
    exact W.lret hx hb (hr.trans hM) (fun t ht hW9 => ⟨⟨_, ws, rfl, ⟨_, rfl, rfl⟩, hW, hm, by rw [ht]; exact hP, va_K.moved hW9.alike hK, hD⟩, hS.F ht⟩) hS.2.2 hdg hlocks
  · exact k.1.elim
theorem so_ref (hx : p.tables.exec = Jvm.exec) (hb : c.code = cc) {M : xM} (hr : meth.sig.returnType = M.2.2.2.1) (hlocks : meth.locks = false) (hK : va_K D cl (xtys cA) s) {v0 : Option Value} {h0 : xH} {ws0 : va_W} (hdg : decode cc pc = .ok (.freturn, 1))
    (k : xwo E rc rn d (fun v' h2 => v' = v0 ∧ h2 = h0) (xref M st h)) : xG p l e (xroom d mc ms) s m args below meth c (MQ below (xQc E ad cA D cl ws0 s.heap.size v0 h0) args s mc ms (va_A ws0 s.heap.size)) E ad cA D cl (va_A ws0 s.heap.size) (xa ad ws0) nL mc ms h0.1.length (xsz E h0.1) (pc, ls, st, h) := by
  unfold xref at k
  split at k
  · rename_i v hM
    obtain ⟨hc, rfl, rfl⟩ := k
    intro cells slots ws H locs lsC stC e1 e2 hrel
    obtain ⟨⟨hW, hm⟩, hP, hD, hS, hl, hst⟩ := hrel
    have e1 : cells + h.1.length ≤ mc + h.1.length := e1
    have e2 : slots + xsz E h.1 ≤ ms + xsz E h.1 := e2
    obtain ⟨_, _, rfl, rfl, rfl⟩ := hst
    refine W.widen (k := mc) (n := ms) (by omega) (by omega) ?_
    exact W.fret hx hb (hr.trans hM) (fun t ht hW9 => ⟨⟨_, ws, rfl, ⟨_, rfl, rfl⟩, hW, hm, by rw [ht]; exact hP, va_K.moved hW9.alike hK, hD⟩, hS.F ht⟩) hS.2.2 hdg hlocks
  · exact k.1.elim
theorem so_rea (hx : p.tables.exec = Jvm.exec) (hb : c.code = cc) {M : xM} (hr : meth.sig.returnType = M.2.2.2.1) (hlocks : meth.locks = false) (hK : va_K D cl (xtys cA) s) {v0 : Option Value} {h0 : xH} {ws0 : va_W} (hdg : decode cc pc = .ok (.areturn, 1))
    (k : xwo E rc rn d (fun v' h2 => v' = v0 ∧ h2 = h0) (xrea M st h)) : xG p l e (xroom d mc ms) s m args below meth c (MQ below (xQc E ad cA D cl ws0 s.heap.size v0 h0) args s mc ms (va_A ws0 s.heap.size)) E ad cA D cl (va_A ws0 s.heap.size) (xa ad ws0) nL mc ms h0.1.length (xsz E h0.1) (pc, ls, st, h) := by
  unfold xrea at k
  split at k
  · rename_i C v hM
    obtain ⟨hc, rfl, rfl⟩ := k
    intro cells slots ws H locs lsC stC e1 e2 hrel
    obtain ⟨⟨hW, hm⟩, hP, hD, hS, hl, hst⟩ := hrel
    have e1 : cells + h.1.length ≤ mc + h.1.length := e1
    have e2 : slots + xsz E h.1 ≤ ms + xsz E h.1 := e2
    obtain ⟨_, _, rfl, ⟨q, hq, rfl⟩, rfl⟩ := hst
    refine W.widen (k := mc) (n := ms) (by omega) (by omega) ?_
    exact W.aret hx hb (hr.trans hM) (Or.inl ⟨_, rfl⟩) (Or.inr ⟨q, rfl⟩) (fun t ht hW9 => ⟨⟨_, ws, rfl, ⟨_, rfl, q, hq, rfl⟩, hW, hm, by rw [ht]; exact hP, va_K.moved hW9.alike hK, hD⟩, hS.F ht⟩) hS.2.2 hdg hlocks
  · rename_i C v hM
    obtain ⟨hc, rfl, rfl⟩ := k
    intro cells slots ws H locs lsC stC e1 e2 hrel
    obtain ⟨⟨hW, hm⟩, hP, hD, hS, hl, hst⟩ := hrel
    have e1 : cells + h.1.length ≤ mc + h.1.length := e1
    have e2 : slots + xsz E h.1 ≤ ms + xsz E h.1 := e2
    obtain ⟨_, _, rfl, ⟨q, hq, rfl⟩, rfl⟩ := hst
    refine W.widen (k := mc) (n := ms) (by omega) (by omega) ?_
    exact W.aret hx hb (hr.trans hM) (Or.inr ⟨_, rfl⟩) (Or.inr ⟨q, rfl⟩) (fun t ht hW9 => ⟨⟨_, ws, rfl, ⟨_, rfl, q, hq, rfl⟩, hW, hm, by rw [ht]; exact hP, va_K.moved hW9.alike hK, hD⟩, hS.F ht⟩) hS.2.2 hdg hlocks
  · rename_i C hM
    obtain ⟨hc, rfl, rfl⟩ := k
    intro cells slots ws H locs lsC stC e1 e2 hrel
    obtain ⟨⟨hW, hm⟩, hP, hD, hS, hl, hst⟩ := hrel
    have e1 : cells + h.1.length ≤ mc + h.1.length := e1
    have e2 : slots + xsz E h.1 ≤ ms + xsz E h.1 := e2
    obtain ⟨_, _, rfl, rfl, rfl⟩ := hst
    refine W.widen (k := mc) (n := ms) (by omega) (by omega) ?_
    exact W.aret hx hb (hr.trans hM) (Or.inl ⟨_, rfl⟩) (Or.inl rfl) (fun t ht hW9 => ⟨⟨_, ws, rfl, ⟨_, rfl, rfl⟩, hW, hm, by rw [ht]; exact hP, va_K.moved hW9.alike hK, hD⟩, hS.F ht⟩) hS.2.2 hdg hlocks
  · rename_i C hM
    obtain ⟨hc, rfl, rfl⟩ := k
    intro cells slots ws H locs lsC stC e1 e2 hrel
    obtain ⟨⟨hW, hm⟩, hP, hD, hS, hl, hst⟩ := hrel
    have e1 : cells + h.1.length ≤ mc + h.1.length := e1
    have e2 : slots + xsz E h.1 ≤ ms + xsz E h.1 := e2
    obtain ⟨_, _, rfl, rfl, rfl⟩ := hst
    refine W.widen (k := mc) (n := ms) (by omega) (by omega) ?_
    exact W.aret hx hb (hr.trans hM) (Or.inr ⟨_, rfl⟩) (Or.inl rfl) (fun t ht hW9 => ⟨⟨_, ws, rfl, ⟨_, rfl, rfl⟩, hW, hm, by rw [ht]; exact hP, va_K.moved hW9.alike hK, hD⟩, hS.F ht⟩) hS.2.2 hdg hlocks
  · exact k.1.elim
theorem so_rev (hx : p.tables.exec = Jvm.exec) (hb : c.code = cc) {M : xM} (hr : meth.sig.returnType = M.2.2.2.1) (hlocks : meth.locks = false) (hK : va_K D cl (xtys cA) s) {v0 : Option Value} {h0 : xH} {ws0 : va_W} (hdg : decode cc pc = .ok (.return_, 1))
    (k : xwo E rc rn d (fun v' h2 => v' = v0 ∧ h2 = h0) (xrev M st h)) : xG p l e (xroom d mc ms) s m args below meth c (MQ below (xQc E ad cA D cl ws0 s.heap.size v0 h0) args s mc ms (va_A ws0 s.heap.size)) E ad cA D cl (va_A ws0 s.heap.size) (xa ad ws0) nL mc ms h0.1.length (xsz E h0.1) (pc, ls, st, h) := by
  unfold xrev at k
  split at k
  · rename_i hM
    obtain ⟨hc, rfl, rfl⟩ := k
    intro cells slots ws H locs lsC stC e1 e2 hrel
    obtain ⟨⟨hW, hm⟩, hP, hD, hS, hl, hst⟩ := hrel
    have e1 : cells + h.1.length ≤ mc + h.1.length := e1
    have e2 : slots + xsz E h.1 ≤ ms + xsz E h.1 := e2
    obtain rfl := hst
    refine W.widen (k := mc) (n := ms) (by omega) (by omega) ?_
    exact W.vret hx hb (hr.trans hM) (fun t ht hW9 => ⟨⟨_, ws, rfl, rfl, hW, hm, by rw [ht]; exact hP, va_K.moved hW9.alike hK, hD⟩, hS.F ht⟩) hS.2.2 hdg hlocks
  · exact k.1.elim
end XSR
