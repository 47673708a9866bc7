/-! cells: one instruction on paper is one instruction of the machine -/
theorem x2_row {α : Type} (f : Nat → Nat → α) (a k : Nat) (x : α) {b : Nat} (h : b ≠ a) : x2 f a k x b = f b := by
  funext j
  unfold x2
  have : Nat.beq b a = false := by
    cases hb : Nat.beq b a with
    | false => rfl
    | true => exact absurd (Nat.eq_of_beq_eq_true hb) h
  rw [this]
  rfl
theorem x2_at {α : Type} (f : Nat → Nat → α) (a k : Nat) (x : α) : x2 f a k x a k = x := by
  unfold x2
  rw [Nat.beq_refl, Nat.beq_refl]
  rfl
theorem x2_ne {α : Type} (f : Nat → Nat → α) (a k : Nat) (x : α) {j : Nat} (h : j ≠ k) : x2 f a k x a j = f a j := by
  unfold x2
  have : Nat.beq j k = false := by
    cases hb : Nat.beq j k with
    | false => rfl
    | true => exact absurd (Nat.eq_of_beq_eq_true hb) h
  rw [this, Bool.and_false]
  rfl
theorem x0_row {α : Type} (f : Nat → Nat → α) (a : Nat) (z : α) {b : Nat} (h : b ≠ a) : x0 f a z b = f b := by
  funext j
  unfold x0
  have : Nat.beq b a = false := by
    cases hb : Nat.beq b a with
    | false => rfl
    | true => exact absurd (Nat.eq_of_beq_eq_true hb) h
  rw [this]
  rfl
theorem x0_at {α : Type} (f : Nat → Nat → α) (a : Nat) (z : α) : x0 f a z a = fun _ => z := by
  funext j
  unfold x0
  rw [Nat.beq_refl]
  rfl
theorem x2_upd (f : Nat → Nat → Int32) (a k : Nat) (x : Int32) : x2 f a k x a = upd (f a) k x := by
  funext j
  by_cases h : j = k
  · subst h; rw [x2_at]; simp [upd]
  · rw [x2_ne _ _ _ _ h]; simp [upd, h]
theorem x2_updL (f : Nat → Nat → Int64) (a k : Nat) (x : Int64) : x2 f a k x a = vp_updL (f a) k x := by
  funext j
  by_cases h : j = k
  · subst h; rw [x2_at]; simp [vp_updL]
  · rw [x2_ne _ _ _ _ h]; simp [vp_updL, h]
theorem x2_updF (f : Nat → Nat → UInt32) (a k : Nat) (x : UInt32) : x2 f a k x a = vf_upd (f a) k x := by
  funext j
  by_cases h : j = k
  · subst h; rw [x2_at]; simp [vf_upd]
  · rw [x2_ne _ _ _ _ h]; simp [vf_upd, h]
theorem xget_row {ty : FieldType} {k a : Nat} {rf : List (Option Nat)} {d d' : xD} (h1 : d'.1 a = d.1 a) (h2 : d'.2.1 a = d.2.1 a) (h3 : d'.2.2 a = d.2.2 a) : xget ty k a rf d' = xget ty k a rf d := by
  cases ty <;> simp only [xget, h1, h2, h3]
theorem xce_row {E : xE} {cA : FieldType → ClassId} {r : Nat → Option Nat} {t : xS} {i : Nat} {d d' : xD} {e : va_E} (h1 : d'.1 i = d.1 i) (h2 : d'.2.1 i = d.2.1 i) (h3 : d'.2.2 i = d.2.2 i) (k : xce E cA r t i d e) : xce E cA r t i d' e := by
  unfold xce at k ⊢
  split at k
  · rw [h1]; exact k
  · rw [h1]; exact k
  · rw [h2]; exact k
  · rw [h3]; exact k
  · exact k
  · exact k
  · obtain ⟨fs, e1, e2, e4, e3⟩ := k
    refine ⟨fs, e1, e2, e4, fun j ty hj => ?_⟩
    rw [xget_row h1 h2 h3]
    exact e3 j ty hj
/-- a cell is written -/
theorem xW_set {E : xE} {ad : Nat → Nat} {cA : FieldType → ClassId} {h h' : xH} {ws : va_W} {a q : Nat} {e e' : va_E} (k : xW E ad cA h ws) (hq : ws[a]? = some (q, e)) (hlen : h'.1.length = h.1.length) (hsh : ∀ i, i ≠ a → h'.1[i]? = h.1[i]?)
    (hd : ∀ i, i ≠ a → h'.2.1 i = h.2.1 i ∧ h'.2.2.1 i = h.2.2.1 i ∧ h'.2.2.2 i = h.2.2.2 i) (hnew : ∀ t, h'.1[a]? = some t → xce E cA (xa ad ws) t a h'.2 e') : xW E ad cA h' (ws.set a (q, e')) := by
  have hl := (List.getElem?_eq_some_iff.mp hq).1
  refine ⟨by rw [List.length_set, hlen]; exact k.1, by rw [hlen]; exact k.2.1, fun i t hi => ?_⟩
  rw [xa_set ad ws hq]
  by_cases hia : i = a
  · subst hia
    exact ⟨q, e', List.getElem?_set_self hl, hnew t hi⟩
  · rw [hsh i hia] at hi
    obtain ⟨b, e2, g1, g2⟩ := k.2.2 i t hi
    obtain ⟨d1, d2, d3⟩ := hd i hia
    exact ⟨b, e2, by rw [List.getElem?_set_ne (Ne.symm hia)]; exact g1, xce_row d1 d2 d3 g2⟩
/-- a cell is made -/
theorem xW_push {E : xE} {ad : Nat → Nat} {cA : FieldType → ClassId} {h : xH} {d' : xD} {ws : va_W} {q : Nat} {e : va_E} {t : xS} (k : xW E ad cA h ws) (hlt : h.1.length + 1 ≤ xt0)
    (hd : ∀ i, i ≠ h.1.length → d'.1 i = h.2.1 i ∧ d'.2.1 i = h.2.2.1 i ∧ d'.2.2 i = h.2.2.2 i) (hnew : xce E cA (xa ad (ws ++ [(q, e)])) t h.1.length d' e) : xW E ad cA (h.1 ++ [t], d') (ws ++ [(q, e)]) := by
  refine ⟨by simp [k.1], by simpa using hlt, fun i u hi => ?_⟩
  have hi : (h.1 ++ [t])[i]? = some u := hi
  by_cases hl : i < h.1.length
  · rw [List.getElem?_append_left hl] at hi
    obtain ⟨b, e2, g1, g2⟩ := k.2.2 i u hi
    obtain ⟨d1, d2, d3⟩ := hd i (by omega)
    exact ⟨b, e2, by rw [List.getElem?_append_left (by rw [k.1]; exact hl)]; exact g1, xce_row d1 d2 d3 (xce_mono (xmon_app ad ws _) g2)⟩
  · rw [List.getElem?_append_right (by omega)] at hi
    have hz : i - h.1.length < 1 := (List.getElem?_eq_some_iff.mp hi).1
    have he : i = h.1.length := by omega
    subst he
    rw [Nat.sub_self] at hi
    cases hi
    exact ⟨q, e, by rw [← k.1, List.getElem?_append_right (Nat.le_refl _), Nat.sub_self]; rfl, hnew⟩
theorem xclr_row (d : xD) (q : Nat) {i : Nat} (h : i ≠ q) : (xclr d q).1 i = d.1 i ∧ (xclr d q).2.1 i = d.2.1 i ∧ (xclr d q).2.2 i = d.2.2 i := ⟨x0_row _ _ _ h, x0_row _ _ _ h, x0_row _ _ _ h⟩
theorem xsz_set {E : xE} {sh : List xS} {a : Nat} {t t' : xS} (h : sh[a]? = some t) (he : xs1 E t' = xs1 E t) : xsz E (sh.set a t') = xsz E sh := by
  unfold xsz
  congr 1
  apply List.ext_getElem?
  intro i
  rw [List.getElem?_map, List.getElem?_map]
  by_cases hi : i = a
  · subst hi
    rw [List.getElem?_set_self (List.getElem?_eq_some_iff.mp h).1, h]
    exact congrArg some he
  · rw [List.getElem?_set_ne (Ne.symm hi)]
theorem xsz_app (E : xE) (a b : List xS) : xsz E (a ++ b) = xsz E a + xsz E b := by simp [xsz, List.sum_append]
/-- what the tables say of the classes -/
def xCL (E : xE) (cl : List vw_C) (TB : List Cond) : Prop := ∀ (ci : Nat) (r : vw_C), cl[ci]? = some r → (∀ w ∈ u_ws r.1 r.2.1 r.2.2, w ∈ TB) ∧ (E.2.1 ci).length = r.2.2 ∧ (∀ k, k < r.2.2 → parseFieldDescriptor (r.2.1 k).2.2.1 = some ((E.2.1 ci).getD k .int)) ∧ (∀ a, a < r.2.2 → ∀ b, b < r.2.2 → a ≠ b → (r.2.1 a).2.1 ≠ (r.2.1 b).2.1) ∧ Cond.instantiable r.1 r.2.2 ∈ TB ∧ Cond.initialized r.1 ∈ TB ∧ ∀ ty ∈ E.2.1 ci, ty ≠ .double
abbrev xNF : Type := String × Nat × String × String × String × String
def xnf (q : xNF) : Cond := .fieldLinkNest q.1 q.2.1 q.2.2.1 q.2.2.2.1 q.2.2.2.2.1 q.2.2.2.2.2
def xLF (TB : List Cond) (TF : List xNF) (own : String) (idx : Nat) (f : String × String × String × Bool) : Prop := Cond.fieldLink own idx f.1 f.2.1 f.2.2.1 ∈ TB ∨ ∃ host, (own, idx, f.1, f.2.1, f.2.2.1, host) ∈ TF
section XSH
variable {p : Program} {l : Launch} {e : Env} {R : Room} {s : State} {m : MethodId} {args : Array Value} {below : List Frame} {meth : Method} {c : Code} {Q : State → Prop}
variable {E : xE} {ad : Nat → Nat} {cA : FieldType → ClassId} {D : va_G} {cl : List vw_C} {A : Nat → Prop} {r0 : Nat → Option Nat} {nL mc ms fin finS : Nat}
variable {rc : Nat → xM → xF → xP → Prop} {rn : xF → xP → Prop} {d : Nat} {Q0 : xP} {pc : Nat} {ls : xL} {st : List Value} {h : xH} {cc : ByteArray} {TB : List Cond} {TF : List xNF} {own : String}
theorem so_gf (hx : p.tables.exec = Jvm.exec) (hb : c.code = cc) (hts : ∀ w ∈ TB, w.before args s = true) (hCL : xCL E cl TB) (hown : s.vm.findClass own = some m.cls) (hK : va_K D cl (xtys cA) s) (hTF : ∀ q ∈ TF, va_Nw (xnf q) s) (hN : ∀ f, rn f Q0 → xG p l e R s m args below meth c Q E ad cA D cl A r0 nL mc ms fin finS f) {ci k idx : Nat} {r : vw_C} (hr : cl[ci]? = some r) (hk : k < r.2.2) (hlk : xLF TB TF own idx (r.2.1 k)) (hdg : decode cc pc = .ok (.getfield idx, 3))
    (kk : xwo E rc rn d Q0 (xgf E (pc + 3) [ci, k] ls st h)) : xG p l e R s m args below meth c Q E ad cA D cl A r0 nL mc ms fin finS (pc, ls, st, h) := by
  replace kk : xwo E rc rn d Q0 (xgft E (pc + 3) ci k ls st h) := kk
  unfold xgft at kk
  split at kk
  · rename_i a rst
    split at kk
    · rename_i c2 rf ty ha hty
      cases hb2 : Nat.beq c2 ci with
      | false => rw [hb2] at kk; exact kk.1.elim
      | true =>
        rw [hb2] at kk
        have := Nat.eq_of_beq_eq_true hb2
        subst this
        intro cells slots ws H locs lsC stC h1 h2 hrel
        obtain ⟨⟨hW, hm⟩, hP, hD, hS, hl, hst⟩ := hrel
        obtain ⟨_, _, rfl, ⟨q, hq, rfl⟩, hst⟩ := hst
        obtain ⟨e9, g1, fs, rfl, g3, g8, g4⟩ := xW_at hW ha hq
        obtain ⟨v, g5, g6⟩ := g4 k ty hty
        obtain ⟨t1, t2, t3, t4, t5, t6, t7⟩ := hCL _ r hr
        have kn := hN _ kk cells slots ws H locs lsC _ h1 h2 ⟨⟨hW, hm⟩, hP, hD, hS, hl, ⟨_, _, rfl, g6, hst⟩⟩
        rcases hlk with hlk | ⟨host, hlk⟩
        · exact va_get (C := r.1) (T := r.2.1) (N := r.2.2) hx hb hts t1 hown hK hP a g1 hr k hk (hts _ hlk) (fun _ h9 => h9) g5 hdg kn
        · exact va_getN (C := r.1) (T := r.2.1) (N := r.2.2) hx hb hts t1 hown hK hP a g1 hr k hk (va_Nw.use rfl (hTF _ hlk)) (fun _ h9 => h9) g5 hdg kn
    · exact kk.1.elim
  · exact kk.1.elim
/-- a field is written: the machine's side -/
theorem so_pfW (hx : p.tables.exec = Jvm.exec) (hb : c.code = cc) (hts : ∀ w ∈ TB, w.before args s = true) (hCL : xCL E cl TB) (hown : s.vm.findClass own = some m.cls) (hK : va_K D cl (xtys cA) s) (hTF : ∀ q ∈ TF, va_Nw (xnf q) s) {ci k idx : Nat} {r : vw_C} (hr : cl[ci]? = some r) (hk : k < r.2.2) (hlk : xLF TB TF own idx (r.2.1 k)) (hfin : (r.2.1 k).2.2.2 = false ∨ (meth.name = "<init>" ∧ (r.2.1 k).1 = own ∧ Cond.fieldLink own idx (r.2.1 k).1 (r.2.1 k).2.1 (r.2.1 k).2.2.1 ∈ TB)) (hdg : decode cc pc = .ok (.putfield idx, 3))
    {cells slots a q : Nat} {ws : va_W} {H : Heap} {locs : List Loc} {lsC : Array Slot} {rest : List Value} {fs : List Value} {v : Value} {ty : FieldType} (hP : va_P D cl ws H) (hD : va_D A ws) (hS : va_S A s.heap H locs) (he : ws[a]? = some (q, .inr (ci, fs))) (hty : (E.2.1 ci)[k]? = some ty) (hl : fs.length = (E.2.1 ci).length) (hn : narrow ty v = v) (hfit : fits ty v = true)
    (kk : ∀ (H1 : Heap) (locs1 : List Loc), va_P D cl (ws.set a (q, .inr (ci, fs.set k v))) H1 → va_D A (ws.set a (q, .inr (ci, fs.set k v))) → va_S A s.heap H1 locs1 → W p l e R s m args below meth c H1 locs1 cells slots Q (F0 m (pc + 3) lsC rest)) : W p l e R s m args below meth c H locs cells slots Q (F0 m pc lsC (v :: .ref q :: rest)) := by
  obtain ⟨t1, t2, t3, t4, t5, t6, t7⟩ := hCL _ r hr
  have hpd : parseFieldDescriptor (r.2.1 k).2.2.1 = some ty := by
    rw [t3 k hk, List.getD_eq_getElem?_getD, hty]
    rfl
  have hkl : k < fs.length := by rw [hl, t2]; exact hk
  rcases hfin with hf | ⟨hf1, hf2, hf3⟩
  · rcases hlk with hlk | ⟨host, hlk⟩
    · exact va_put (C := r.1) (T := r.2.1) (N := r.2.2) hx hb hts t1 (fun k => (E.2.1 ci).getD k .int) t3 t4 hown hK hP hD hS a he hr k hk (hts _ hlk) (fun _ h9 => h9) hf hpd hn hfit hkl hdg kk
    · exact va_putN (C := r.1) (T := r.2.1) (N := r.2.2) hx hb hts t1 (fun k => (E.2.1 ci).getD k .int) t3 t4 hown hK hP hD hS a he hr k hk (va_Nw.use rfl (hTF _ hlk)) (fun _ h9 => h9) hf hpd hn hfit hkl hdg kk
  · cases hb9 : (r.2.1 k).2.2.2 with
    | false => exact va_put (C := r.1) (T := r.2.1) (N := r.2.2) hx hb hts t1 (fun k => (E.2.1 ci).getD k .int) t3 t4 hown hK hP hD hS a he hr k hk (hts _ hf3) (fun _ h9 => h9) hb9 hpd hn hfit hkl hdg kk
    | true => exact va_putF (C := r.1) (T := r.2.1) (N := r.2.2) hx hb hts t1 (fun k => (E.2.1 ci).getD k .int) t3 t4 hown hK hP hD hS a he hr k hk (hts _ hf3) (fun _ h9 => h9) hb9 hf1 hf2 hpd hn hfit hkl hdg kk
/-- a field is written: on paper -/
theorem xce_pf {E : xE} {cA : FieldType → ClassId} {r : Nat → Option Nat} {ci k a : Nat} {rf rf' : List (Option Nat)} {d d' : xD} {fs : List Value} {v w : Value} {ty : FieldType} (h2 : fs.length = (E.2.1 ci).length) (h3 : ∀ (k : Nat) (ty : FieldType), (E.2.1 ci)[k]? = some ty → ∃ v, fs[k]? = some v ∧ xv r (xget ty k a rf d) v)
    (hrf : rf'.length = (E.2.1 ci).length) (hty : (E.2.1 ci)[k]? = some ty) (hv : xv r v w) (hnew : xget ty k a rf' d' = v) (hold : ∀ j t, j ≠ k → (E.2.1 ci)[j]? = some t → xget t j a rf' d' = xget t j a rf d) : xce E cA r (.inr (ci, rf')) a d' (.inr (ci, fs.set k w)) := by
  have hk : k < fs.length := by rw [h2]; exact (List.getElem?_eq_some_iff.mp hty).1
  refine ⟨fs.set k w, rfl, by rw [List.length_set]; exact h2, hrf, fun j t hj => ?_⟩
  by_cases hjk : j = k
  · subst hjk
    cases hty.symm.trans hj
    exact ⟨w, List.getElem?_set_self hk, by rw [hnew]; exact hv⟩
  · rw [List.getElem?_set_ne (Ne.symm hjk), hold j t hjk hj]
    exact h3 j t hj
theorem so_pf (hx : p.tables.exec = Jvm.exec) (hb : c.code = cc) (hts : ∀ w ∈ TB, w.before args s = true) (hCL : xCL E cl TB) (hown : s.vm.findClass own = some m.cls) (hK : va_K D cl (xtys cA) s) (hTF : ∀ q ∈ TF, va_Nw (xnf q) s) (hN : ∀ f, rn f Q0 → xG p l e R s m args below meth c Q E ad cA D cl A r0 nL mc ms fin finS f) {ci k idx : Nat} {r : vw_C} (hr : cl[ci]? = some r) (hk : k < r.2.2) (hlk : xLF TB TF own idx (r.2.1 k)) (hfin : (r.2.1 k).2.2.2 = false ∨ (meth.name = "<init>" ∧ (r.2.1 k).1 = own ∧ Cond.fieldLink own idx (r.2.1 k).1 (r.2.1 k).2.1 (r.2.1 k).2.2.1 ∈ TB)) (hdg : decode cc pc = .ok (.putfield idx, 3))
    (kk : xwo E rc rn d Q0 (xpf E (pc + 3) [ci, k] ls st h)) : xG p l e R s m args below meth c Q E ad cA D cl A r0 nL mc ms fin finS (pc, ls, st, h) := by
  replace kk : xwo E rc rn d Q0 (xpft E (pc + 3) ci k ls st h) := kk
  unfold xpft at kk
  split at kk
  · rename_i v a rst
    split at kk
    · rename_i c2 rf ty ha hty
      cases hb2 : Nat.beq c2 ci with
      | false => rw [hb2] at kk; exact kk.1.elim
      | true =>
        rw [hb2] at kk
        have := Nat.eq_of_beq_eq_true hb2
        subst this
        intro cells slots ws H locs lsC stC h1 h2 hrel
        obtain ⟨⟨hW, hm⟩, hP, hD, hS, hl, hst⟩ := hrel
        obtain ⟨w, _, rfl, hw, _, rstC, rfl, ⟨q, hq, rfl⟩, hst⟩ := hst
        obtain ⟨e9, g1, fs, rfl, g3, g8, g4⟩ := xW_at hW ha hq
        have hlen : a < h.1.length := (List.getElem?_eq_some_iff.mp ha).1
        have row : ∀ (h' : xH), narrow ty w = w → fits ty w = true → h'.1.length = h.1.length → xsz E h'.1 = xsz E h.1 → (∀ i, i ≠ a → h'.1[i]? = h.1[i]?) → (∀ i, i ≠ a → h'.2.1 i = h.2.1 i ∧ h'.2.2.1 i = h.2.2.1 i ∧ h'.2.2.2 i = h.2.2.2 i) → (∃ rf', h'.1[a]? = some (.inr (c2, rf')) ∧ rf'.length = (E.2.1 c2).length ∧ xget ty k a rf' h'.2 = v ∧ ∀ j t, j ≠ k → (E.2.1 c2)[j]? = some t → xget t j a rf' h'.2 = xget t j a rf h.2) → rn (pc + 3, ls, rst, h') Q0 → W p l e R s m args below meth c H locs cells slots Q (F0 m pc lsC (w :: .ref q :: rstC)) := by
          intro h' hn hfit e1 e2 e3 e4 ⟨rf', e5, e55, e6, e7⟩ e8
          refine so_pfW (cells := cells) (slots := slots) hx hb hts hCL hown hK hTF hr hk hlk hfin hdg hP hD hS g1 hty g3 hn hfit (fun H1 locs1 hP1 hD1 hS1 => ?_)
          have hW1 : xW E ad cA h' (ws.set a (q, .inr (c2, fs.set k w))) := xW_set hW g1 e1 e3 e4 (fun t ht => by
            cases e5.symm.trans ht
            exact xce_pf g3 g4 e55 hty hw e6 e7)
          have hmon : xa ad (ws.set a (q, .inr (c2, fs.set k w))) = xa ad ws := xa_set ad ws g1
          exact hN _ e8 cells slots _ H1 locs1 lsC _ (by rw [show (pc + 3, ls, rst, h').2.2.2.1.length = h'.1.length from rfl, e1]; exact h1) (by rw [show xsz E (pc + 3, ls, rst, h').2.2.2.1 = xsz E h'.1 from rfl, e2]; exact h2) ⟨⟨hW1, by rw [hmon]; exact hm⟩, hP1, hD1, hS1, by rw [hmon]; exact hl, by rw [hmon]; exact hst⟩
        have hset : ∀ rf' : List (Option Nat), (h.1.set a (.inr (c2, rf')))[a]? = some (.inr (c2, rf')) := fun rf' => List.getElem?_set_self hlen
        have hoth : ∀ (rf' : List (Option Nat)) (i : Nat), i ≠ a → (h.1.set a (.inr (c2, rf')))[i]? = h.1[i]? := fun rf' i hi => List.getElem?_set_ne (Ne.symm hi)
        have hszs : ∀ rf' : List (Option Nat), xsz E (h.1.set a (.inr (c2, rf'))) = xsz E h.1 := fun rf' => xsz_set ha rfl
        have hkr : k < rf.length := by rw [g8]; exact (List.getElem?_eq_some_iff.mp hty).1
        unfold xwr at kk
        split at kk
        · rename_i x
          obtain rfl := hw
          exact row (h.1, x2 h.2.1 a k x, h.2.2) rfl rfl rfl rfl (fun _ _ => rfl) (fun i hi => ⟨x2_row _ _ _ _ hi, rfl, rfl⟩) ⟨rf, ha, g8, by show Value.int (x2 h.2.1 a k x a k) = _; rw [x2_at], fun j t hj _ => by cases t <;> simp only [xget, x2_ne _ _ _ _ hj]⟩ kk
        · rename_i x
          obtain rfl := hw
          have hx01 := kk.1
          exact row (h.1, x2 h.2.1 a k x, h.2.2) (by rcases hx01 with rfl | rfl <;> rfl) (by rcases hx01 with rfl | rfl <;> rfl) rfl rfl (fun _ _ => rfl) (fun i hi => ⟨x2_row _ _ _ _ hi, rfl, rfl⟩) ⟨rf, ha, g8, by show Value.int (x2 h.2.1 a k x a k) = _; rw [x2_at], fun j t hj _ => by cases t <;> simp only [xget, x2_ne _ _ _ _ hj]⟩ kk.2
        · rename_i x
          obtain rfl := hw
          exact row (h.1, h.2.1, x2 h.2.2.1 a k x, h.2.2.2) rfl rfl rfl rfl (fun _ _ => rfl) (fun i hi => ⟨rfl, x2_row _ _ _ _ hi, rfl⟩) ⟨rf, ha, g8, by show Value.long (x2 h.2.2.1 a k x a k) = _; rw [x2_at], fun j t hj _ => by cases t <;> simp only [xget, x2_ne _ _ _ _ hj]⟩ kk
        · rename_i x
          obtain rfl := hw
          exact row (h.1, h.2.1, h.2.2.1, x2 h.2.2.2 a k x) rfl rfl rfl rfl (fun _ _ => rfl) (fun i hi => ⟨rfl, rfl, x2_row _ _ _ _ hi⟩) ⟨rf, ha, g8, by show Value.float (x2 h.2.2.2 a k x a k) = _; rw [x2_at], fun j t hj _ => by cases t <;> simp only [xget, x2_ne _ _ _ _ hj]⟩ kk
        · rename_i C x
          obtain ⟨q2, hq2, rfl⟩ := hw
          exact row (h.1.set a (.inr (c2, rf.set k (some x))), h.2) rfl rfl (by simp) (hszs _) (fun i hi => hoth _ i hi) (fun _ _ => ⟨rfl, rfl, rfl⟩) ⟨rf.set k (some x), hset _, by rw [List.length_set]; exact g8, by show xrv (rf.set k (some x))[k]? = _; rw [List.getElem?_set_self hkr]; rfl, fun j t hj _ => by cases t <;> simp only [xget, List.getElem?_set_ne (Ne.symm hj)]⟩ kk
        · rename_i C x
          obtain ⟨q2, hq2, rfl⟩ := hw
          exact row (h.1.set a (.inr (c2, rf.set k (some x))), h.2) rfl rfl (by simp) (hszs _) (fun i hi => hoth _ i hi) (fun _ _ => ⟨rfl, rfl, rfl⟩) ⟨rf.set k (some x), hset _, by rw [List.length_set]; exact g8, by show xrv (rf.set k (some x))[k]? = _; rw [List.getElem?_set_self hkr]; rfl, fun j t hj _ => by cases t <;> simp only [xget, List.getElem?_set_ne (Ne.symm hj)]⟩ kk
        · rename_i C
          obtain rfl := hw
          exact row (h.1.set a (.inr (c2, rf.set k none)), h.2) rfl rfl (by simp) (hszs _) (fun i hi => hoth _ i hi) (fun _ _ => ⟨rfl, rfl, rfl⟩) ⟨rf.set k none, hset _, by rw [List.length_set]; exact g8, by show xrv (rf.set k none)[k]? = _; rw [List.getElem?_set_self hkr]; rfl, fun j t hj _ => by cases t <;> simp only [xget, List.getElem?_set_ne (Ne.symm hj)]⟩ kk
        · rename_i C
          obtain rfl := hw
          exact row (h.1.set a (.inr (c2, rf.set k none)), h.2) rfl rfl (by simp) (hszs _) (fun i hi => hoth _ i hi) (fun _ _ => ⟨rfl, rfl, rfl⟩) ⟨rf.set k none, hset _, by rw [List.length_set]; exact g8, by show xrv (rf.set k none)[k]? = _; rw [List.getElem?_set_self hkr]; rfl, fun j t hj _ => by cases t <;> simp only [xget, List.getElem?_set_ne (Ne.symm hj)]⟩ kk
        · exact kk.1.elim
    · exact kk.1.elim
  · exact kk.1.elim
theorem so_aldI (hx : p.tables.exec = Jvm.exec) (hb : c.code = cc) (hK : va_K D cl (xtys cA) s) (hN : ∀ f, rn f Q0 → xG p l e R s m args below meth c Q E ad cA D cl A r0 nL mc ms fin finS f) (hdg : decode cc pc = .ok (.iaload, 1)) (kk : xwo E rc rn d Q0 (xaldI (pc + 1) ls st h)) : xG p l e R s m args below meth c Q E ad cA D cl A r0 nL mc ms fin finS (pc, ls, st, h) := by
  unfold xaldI at kk
  split at kk
  · rename_i i a rst
    split at kk
    · rename_i n rs ha
      intro cells slots ws H locs lsC stC h1 h2 hrel
      obtain ⟨⟨hW, hm⟩, hP, hD, hS, hl, hst⟩ := hrel
      obtain ⟨_, _, rfl, rfl, _, _, rfl, ⟨q, hq, rfl⟩, hst⟩ := hst
      obtain ⟨e9, g1, rfl⟩ := xW_at hW ha hq
      exact va_iald hx hb hK hP a 0 g1 rfl kk.1 hdg (hN _ kk.2 cells slots ws H locs lsC _ h1 h2 ⟨⟨hW, hm⟩, hP, hD, hS, hl, ⟨_, _, rfl, rfl, hst⟩⟩)
    · exact kk.1.elim
  · exact kk.1.elim
theorem so_aldB (hx : p.tables.exec = Jvm.exec) (hb : c.code = cc) (hK : va_K D cl (xtys cA) s) (hN : ∀ f, rn f Q0 → xG p l e R s m args below meth c Q E ad cA D cl A r0 nL mc ms fin finS f) (hdg : decode cc pc = .ok (.baload, 1)) (kk : xwo E rc rn d Q0 (xaldB (pc + 1) ls st h)) : xG p l e R s m args below meth c Q E ad cA D cl A r0 nL mc ms fin finS (pc, ls, st, h) := by
  unfold xaldB at kk
  split at kk
  · rename_i i a rst
    split at kk
    · rename_i n rs ha
      intro cells slots ws H locs lsC stC h1 h2 hrel
      obtain ⟨⟨hW, hm⟩, hP, hD, hS, hl, hst⟩ := hrel
      obtain ⟨_, _, rfl, rfl, _, _, rfl, ⟨q, hq, rfl⟩, hst⟩ := hst
      obtain ⟨e9, g1, rfl⟩ := xW_at hW ha hq
      exact va_bald hx hb hK hP a 1 g1 rfl kk.1 hdg (hN _ kk.2 cells slots ws H locs lsC _ h1 h2 ⟨⟨hW, hm⟩, hP, hD, hS, hl, ⟨_, _, rfl, rfl, hst⟩⟩)
    · exact kk.1.elim
  · exact kk.1.elim
theorem so_aldL (hx : p.tables.exec = Jvm.exec) (hb : c.code = cc) (hK : va_K D cl (xtys cA) s) (hN : ∀ f, rn f Q0 → xG p l e R s m args below meth c Q E ad cA D cl A r0 nL mc ms fin finS f) (hdg : decode cc pc = .ok (.laload, 1)) (kk : xwo E rc rn d Q0 (xaldL (pc + 1) ls st h)) : xG p l e R s m args below meth c Q E ad cA D cl A r0 nL mc ms fin finS (pc, ls, st, h) := by
  unfold xaldL at kk
  split at kk
  · rename_i i a rst
    split at kk
    · rename_i n rs ha
      intro cells slots ws H locs lsC stC h1 h2 hrel
      obtain ⟨⟨hW, hm⟩, hP, hD, hS, hl, hst⟩ := hrel
      obtain ⟨_, _, rfl, rfl, _, _, rfl, ⟨q, hq, rfl⟩, hst⟩ := hst
      obtain ⟨e9, g1, rfl⟩ := xW_at hW ha hq
      exact va_lald hx hb hK hP a 2 g1 rfl kk.1 hdg (hN _ kk.2 cells slots ws H locs lsC _ h1 h2 ⟨⟨hW, hm⟩, hP, hD, hS, hl, ⟨_, _, rfl, rfl, hst⟩⟩)
    · exact kk.1.elim
  · exact kk.1.elim
theorem so_aldF (hx : p.tables.exec = Jvm.exec) (hb : c.code = cc) (hK : va_K D cl (xtys cA) s) (hN : ∀ f, rn f Q0 → xG p l e R s m args below meth c Q E ad cA D cl A r0 nL mc ms fin finS f) (hdg : decode cc pc = .ok (.faload, 1)) (kk : xwo E rc rn d Q0 (xaldF (pc + 1) ls st h)) : xG p l e R s m args below meth c Q E ad cA D cl A r0 nL mc ms fin finS (pc, ls, st, h) := by
  unfold xaldF at kk
  split at kk
  · rename_i i a rst
    split at kk
    · rename_i n rs ha
      intro cells slots ws H locs lsC stC h1 h2 hrel
      obtain ⟨⟨hW, hm⟩, hP, hD, hS, hl, hst⟩ := hrel
      obtain ⟨_, _, rfl, rfl, _, _, rfl, ⟨q, hq, rfl⟩, hst⟩ := hst
      obtain ⟨e9, g1, rfl⟩ := xW_at hW ha hq
      exact va_fald hx hb hK hP a 3 g1 rfl kk.1 hdg (hN _ kk.2 cells slots ws H locs lsC _ h1 h2 ⟨⟨hW, hm⟩, hP, hD, hS, hl, ⟨_, _, rfl, rfl, hst⟩⟩)
    · exact kk.1.elim
  · exact kk.1.elim
theorem so_aldA (hx : p.tables.exec = Jvm.exec) (hb : c.code = cc) (hK : va_K D cl (xtys cA) s) (hN : ∀ f, rn f Q0 → xG p l e R s m args below meth c Q E ad cA D cl A r0 nL mc ms fin finS f) (hdg : decode cc pc = .ok (.aaload, 1)) (kk : xwo E rc rn d Q0 (xaldA (pc + 1) ls st h)) : xG p l e R s m args below meth c Q E ad cA D cl A r0 nL mc ms fin finS (pc, ls, st, h) := by
  unfold xaldA at kk
  split at kk
  · rename_i i a rst
    split at kk
    · rename_i n rs ha
      intro cells slots ws H locs lsC stC h1 h2 hrel
      obtain ⟨⟨hW, hm⟩, hP, hD, hS, hl, hst⟩ := hrel
      obtain ⟨_, _, rfl, rfl, _, _, rfl, ⟨q, hq, rfl⟩, hst⟩ := hst
      obtain ⟨e9, g1, f, rfl, g3⟩ := xW_at hW ha hq
      have hin := kk.1
      have hlt : i.toNatClampNeg < n := Nat.not_le.mp fun q => hin (Or.inr q)
      have hf := g3 _ hlt
      have hv : xv (xa ad ws) (xrv rs[i.toNatClampNeg]?) (va_rf (f i.toNatClampNeg)) := by
        unfold xqr at hf
        split at hf
        · rename_i k9 hk9
          obtain ⟨a9, e1, e2⟩ := hf
          rw [hk9, e2]
          exact ⟨a9, e1, rfl⟩
        · rename_i hk9
          rw [hf]
          cases hz : rs[i.toNatClampNeg]? with
          | none => rfl
          | some o =>
            cases o with
            | none => rfl
            | some k9 => exact absurd hz (hk9 k9)
      exact W.aald (v := va_rf (f i.toNatClampNeg)) (ty := .array .float) hx hb (hP a _ g1) ((hK.2 4 _ rfl).1 n (fun j => va_rf (f j))) rfl (fun q => by cases q) (by show ¬ (i < 0 ∨ (arrV _ _ _).slots.size ≤ _); rw [arrV_size]; exact hin) (by show (arrV _ _ _).slots[_]? = _; rw [arrV_read _ _ hlt]) rfl rfl hdg (hN _ kk.2 cells slots ws H locs lsC _ h1 h2 ⟨⟨hW, hm⟩, hP, hD, hS, hl, ⟨_, _, rfl, hv, hst⟩⟩)
    · exact kk.1.elim
  · exact kk.1.elim
theorem so_astI (hx : p.tables.exec = Jvm.exec) (hb : c.code = cc) (hK : va_K D cl (xtys cA) s) (hN : ∀ f, rn f Q0 → xG p l e R s m args below meth c Q E ad cA D cl A r0 nL mc ms fin finS f) (hdg : decode cc pc = .ok (.iastore, 1)) (kk : xwo E rc rn d Q0 (xastI (pc + 1) ls st h)) : xG p l e R s m args below meth c Q E ad cA D cl A r0 nL mc ms fin finS (pc, ls, st, h) := by
  unfold xastI at kk
  split at kk
  · rename_i x i a rst
    split at kk
    · rename_i n rs ha
      intro cells slots ws H locs lsC stC h1 h2 hrel
      obtain ⟨⟨hW, hm⟩, hP, hD, hS, hl, hst⟩ := hrel
      obtain ⟨_, _, rfl, rfl, _, _, rfl, rfl, _, _, rfl, ⟨q, hq, rfl⟩, hst⟩ := hst
      obtain ⟨e9, g1, rfl⟩ := xW_at hW ha hq
      refine va_iast hx hb hK hP hD hS a 0 g1 rfl kk.1 hdg (fun H1 locs1 hP1 hD1 hS1 => ?_)
      have hmon : ∀ e9 : va_E, xa ad (ws.set a (q, e9)) = xa ad ws := fun e9 => xa_set ad ws (e := e9) g1
      refine hN _ kk.2 cells slots _ H1 locs1 lsC _ h1 h2 ⟨⟨xW_set (h' := (h.1, x2 h.2.1 a i.toNatClampNeg x, h.2.2)) hW g1 rfl (fun _ _ => rfl) (fun i hi => ⟨x2_row _ _ _ _ hi, rfl, rfl⟩) (fun t ht => ?_), by rw [hmon]; exact hm⟩, hP1, hD1, hS1, by rw [hmon]; exact hl, by rw [hmon]; exact hst⟩
      cases ha.symm.trans ht
      have e9 := x2_upd h.2.1 a i.toNatClampNeg x
      show _ = Sum.inl (cA .int, n, Sum.inl (x2 h.2.1 a i.toNatClampNeg x a))
      first | (rw [e9]; done) | (rw [e9]; rfl)
    · exact kk.1.elim
  · exact kk.1.elim
theorem so_astB (hx : p.tables.exec = Jvm.exec) (hb : c.code = cc) (hK : va_K D cl (xtys cA) s) (hN : ∀ f, rn f Q0 → xG p l e R s m args below meth c Q E ad cA D cl A r0 nL mc ms fin finS f) (hdg : decode cc pc = .ok (.bastore, 1)) (kk : xwo E rc rn d Q0 (xastB (pc + 1) ls st h)) : xG p l e R s m args below meth c Q E ad cA D cl A r0 nL mc ms fin finS (pc, ls, st, h) := by
  unfold xastB at kk
  split at kk
  · rename_i x i a rst
    split at kk
    · rename_i n rs ha
      intro cells slots ws H locs lsC stC h1 h2 hrel
      obtain ⟨⟨hW, hm⟩, hP, hD, hS, hl, hst⟩ := hrel
      obtain ⟨_, _, rfl, rfl, _, _, rfl, rfl, _, _, rfl, ⟨q, hq, rfl⟩, hst⟩ := hst
      obtain ⟨e9, g1, rfl⟩ := xW_at hW ha hq
      refine va_bast hx hb hK hP hD hS a 1 g1 rfl kk.1 hdg (fun H1 locs1 hP1 hD1 hS1 => ?_)
      have hmon : ∀ e9 : va_E, xa ad (ws.set a (q, e9)) = xa ad ws := fun e9 => xa_set ad ws (e := e9) g1
      refine hN _ kk.2 cells slots _ H1 locs1 lsC _ h1 h2 ⟨⟨xW_set (h' := (h.1, x2 h.2.1 a i.toNatClampNeg x.toInt8.toInt32, h.2.2)) hW g1 rfl (fun _ _ => rfl) (fun i hi => ⟨x2_row _ _ _ _ hi, rfl, rfl⟩) (fun t ht => ?_), by rw [hmon]; exact hm⟩, hP1, hD1, hS1, by rw [hmon]; exact hl, by rw [hmon]; exact hst⟩
      cases ha.symm.trans ht
      have e9 := x2_upd h.2.1 a i.toNatClampNeg x.toInt8.toInt32
      show _ = Sum.inl (cA .byte, n, Sum.inl (x2 h.2.1 a i.toNatClampNeg x.toInt8.toInt32 a))
      first | (rw [e9]; done) | (rw [e9]; rfl)
    · exact kk.1.elim
  · exact kk.1.elim
theorem so_astL (hx : p.tables.exec = Jvm.exec) (hb : c.code = cc) (hK : va_K D cl (xtys cA) s) (hN : ∀ f, rn f Q0 → xG p l e R s m args below meth c Q E ad cA D cl A r0 nL mc ms fin finS f) (hdg : decode cc pc = .ok (.lastore, 1)) (kk : xwo E rc rn d Q0 (xastL (pc + 1) ls st h)) : xG p l e R s m args below meth c Q E ad cA D cl A r0 nL mc ms fin finS (pc, ls, st, h) := by
  unfold xastL at kk
  split at kk
  · rename_i x i a rst
    split at kk
    · rename_i n rs ha
      intro cells slots ws H locs lsC stC h1 h2 hrel
      obtain ⟨⟨hW, hm⟩, hP, hD, hS, hl, hst⟩ := hrel
      obtain ⟨_, _, rfl, rfl, _, _, rfl, rfl, _, _, rfl, ⟨q, hq, rfl⟩, hst⟩ := hst
      obtain ⟨e9, g1, rfl⟩ := xW_at hW ha hq
      refine va_last hx hb hK hP hD hS a 2 g1 rfl kk.1 hdg (fun H1 locs1 hP1 hD1 hS1 => ?_)
      have hmon : ∀ e9 : va_E, xa ad (ws.set a (q, e9)) = xa ad ws := fun e9 => xa_set ad ws (e := e9) g1
      refine hN _ kk.2 cells slots _ H1 locs1 lsC _ h1 h2 ⟨⟨xW_set (h' := (h.1, h.2.1, x2 h.2.2.1 a i.toNatClampNeg x, h.2.2.2)) hW g1 rfl (fun _ _ => rfl) (fun i hi => ⟨rfl, x2_row _ _ _ _ hi, rfl⟩) (fun t ht => ?_), by rw [hmon]; exact hm⟩, hP1, hD1, hS1, by rw [hmon]; exact hl, by rw [hmon]; exact hst⟩
      cases ha.symm.trans ht
      have e9 := x2_updL h.2.2.1 a i.toNatClampNeg x
      show _ = Sum.inl (cA .long, n, Sum.inr (Sum.inl (x2 h.2.2.1 a i.toNatClampNeg x a)))
      first | (rw [e9]; done) | (rw [e9]; rfl)
    · exact kk.1.elim
  · exact kk.1.elim
theorem so_astF (hx : p.tables.exec = Jvm.exec) (hb : c.code = cc) (hK : va_K D cl (xtys cA) s) (hN : ∀ f, rn f Q0 → xG p l e R s m args below meth c Q E ad cA D cl A r0 nL mc ms fin finS f) (hdg : decode cc pc = .ok (.fastore, 1)) (kk : xwo E rc rn d Q0 (xastF (pc + 1) ls st h)) : xG p l e R s m args below meth c Q E ad cA D cl A r0 nL mc ms fin finS (pc, ls, st, h) := by
  unfold xastF at kk
  split at kk
  · rename_i x i a rst
    split at kk
    · rename_i n rs ha
      intro cells slots ws H locs lsC stC h1 h2 hrel
      obtain ⟨⟨hW, hm⟩, hP, hD, hS, hl, hst⟩ := hrel
      obtain ⟨_, _, rfl, rfl, _, _, rfl, rfl, _, _, rfl, ⟨q, hq, rfl⟩, hst⟩ := hst
      obtain ⟨e9, g1, rfl⟩ := xW_at hW ha hq
      refine va_fast hx hb hK hP hD hS a 3 g1 rfl kk.1 hdg (fun H1 locs1 hP1 hD1 hS1 => ?_)
      have hmon : ∀ e9 : va_E, xa ad (ws.set a (q, e9)) = xa ad ws := fun e9 => xa_set ad ws (e := e9) g1
      refine hN _ kk.2 cells slots _ H1 locs1 lsC _ h1 h2 ⟨⟨xW_set (h' := (h.1, h.2.1, h.2.2.1, x2 h.2.2.2 a i.toNatClampNeg x)) hW g1 rfl (fun _ _ => rfl) (fun i hi => ⟨rfl, rfl, x2_row _ _ _ _ hi⟩) (fun t ht => ?_), by rw [hmon]; exact hm⟩, hP1, hD1, hS1, by rw [hmon]; exact hl, by rw [hmon]; exact hst⟩
      cases ha.symm.trans ht
      have e9 := x2_updF h.2.2.2 a i.toNatClampNeg x
      show _ = Sum.inl (cA .float, n, Sum.inr (Sum.inr (Sum.inl (x2 h.2.2.2 a i.toNatClampNeg x a))))
      first | (rw [e9]; done) | (rw [e9]; rfl)
    · exact kk.1.elim
  · exact kk.1.elim
theorem so_aln (hx : p.tables.exec = Jvm.exec) (hb : c.code = cc) (hK : va_K D cl (xtys cA) s) (hN : ∀ f, rn f Q0 → xG p l e R s m args below meth c Q E ad cA D cl A r0 nL mc ms fin finS f) (hdg : decode cc pc = .ok (.arraylength, 1)) (kk : xwo E rc rn d Q0 (xaln (pc + 1) ls st h)) : xG p l e R s m args below meth c Q E ad cA D cl A r0 nL mc ms fin finS (pc, ls, st, h) := by
  unfold xaln at kk
  split at kk
  · rename_i a rst
    split at kk
    · rename_i ty n rs ha
      intro cells slots ws H locs lsC stC h1 h2 hrel
      obtain ⟨⟨hW, hm⟩, hP, hD, hS, hl, hst⟩ := hrel
      obtain ⟨_, _, rfl, ⟨q, hq, rfl⟩, hst⟩ := hst
      obtain ⟨e9, g1, g2⟩ := xW_at hW ha hq
      have kn := hN _ kk cells slots ws H locs lsC _ h1 h2 ⟨⟨hW, hm⟩, hP, hD, hS, hl, ⟨_, _, rfl, rfl, hst⟩⟩
      unfold xce at g2
      split at g2
      · rename_i he; cases he; subst g2; exact va_alen hx hb hK hP a 0 g1 rfl rfl hdg kn
      · rename_i he; cases he; subst g2; exact va_alen hx hb hK hP a 1 g1 rfl rfl hdg kn
      · rename_i he; cases he; subst g2; exact va_alen hx hb hK hP a 2 g1 rfl rfl hdg kn
      · rename_i he; cases he; subst g2; exact va_alen hx hb hK hP a 3 g1 rfl rfl hdg kn
      · rename_i he; cases he; obtain ⟨f, rfl, g3⟩ := g2; exact va_alen hx hb hK hP a 4 g1 rfl rfl hdg kn
      · exact g2.elim
      · rename_i he; cases he
    · exact kk.1.elim
  · exact kk.1.elim
theorem so_new (hx : p.tables.exec = Jvm.exec) (hb : c.code = cc) (hts : ∀ w ∈ TB, w.before args s = true) (hCL : xCL E cl TB) (hown : s.vm.findClass own = some m.cls) (hK : va_K D cl (xtys cA) s) (hA : ∀ q, s.heap.size ≤ q → A q) (hlen : ∀ f : xF, rn f Q0 → f.2.2.2.1.length ≤ fin ∧ xsz E f.2.2.2.1 ≤ finS) (hfin : fin ≤ xt0) (hRc : R.cells = mc) (hRs : R.slots = ms) (hN : ∀ f, rn f Q0 → xG p l e R s m args below meth c Q E ad cA D cl A r0 nL mc ms fin finS f) {ci idx : Nat} {r : vw_C} (hr : cl[ci]? = some r) (hlk : Cond.classLink own idx r.1 ∈ TB) (hdg : decode cc pc = .ok (.new idx, 3))
    (kk : xwo E rc rn d Q0 (xnew E (pc + 3) [ci] ls st h)) : xG p l e R s m args below meth c Q E ad cA D cl A r0 nL mc ms fin finS (pc, ls, st, h) := by
  have kk : rn (pc + 3, ls, .ref h.1.length :: st, h.1 ++ [.inr (ci, (E.2.1 ci).map fun _ => none)], xclr h.2 h.1.length) Q0 := kk
  obtain ⟨hl1, hl2⟩ := hlen _ kk
  have hl1 : (h.1 ++ [Sum.inr (ci, (E.2.1 ci).map fun _ => none)]).length ≤ fin := hl1
  have hl2 : xsz E (h.1 ++ [Sum.inr (ci, (E.2.1 ci).map fun _ => none)]) ≤ finS := hl2
  rw [xsz_app] at hl2
  rw [List.length_append] at hl1
  have hone : xsz E [Sum.inr (ci, (E.2.1 ci).map fun _ => none)] = (E.2.1 ci).length := by simp [xsz, xs1]
  rw [hone] at hl2
  simp only [List.length_cons, List.length_nil] at hl1
  obtain ⟨t1, t2, t3, t4, t5, t6, t7⟩ := hCL _ r hr
  intro cells slots ws H locs lsC stC h1 h2 hrel
  obtain ⟨⟨hW, hm⟩, hP, hD, hS, hl, hst⟩ := hrel
  have h1 : cells + fin ≤ mc + h.1.length := h1
  have h2 : slots + finS ≤ ms + xsz E h.1 := h2
  refine va_new (C := r.1) (T := r.2.1) (N := r.2.2) (fs := (E.2.1 ci).map defaultValue) hx hb hts t1 (fun k => (E.2.1 ci).getD k .int) t3 hown (hts _ hlk) (hts _ t5) (hts _ t6) hK hP hD hS hA hr (fun j hj => ?_) (by rw [hRc]; omega) (by rw [hRs, ← t2]; omega) hdg (fun q H1 hP1 hD1 hS1 => ?_)
  · have hj2 : j < (E.2.1 ci).length := by rw [t2]; exact hj
    simp [vp_V, List.getD_eq_getElem?_getD, hj2]
  · have hmon := xmon_app ad ws [(q, Sum.inr (ci, (E.2.1 ci).map defaultValue))]
    have hW1 : xW E ad cA (h.1 ++ [Sum.inr (ci, (E.2.1 ci).map fun _ => none)], xclr h.2 h.1.length) (ws ++ [(q, Sum.inr (ci, (E.2.1 ci).map defaultValue))]) := by
      refine xW_push hW (by omega) (fun i hi => xclr_row _ _ hi) ⟨_, rfl, by simp, by simp, fun k ty hk => ?_⟩
      refine ⟨defaultValue ty, by rw [List.getElem?_map, hk]; rfl, ?_⟩
      have hnd := t7 ty (List.mem_of_getElem? hk)
      have hrk : xrv ((E.2.1 ci).map fun _ => (none : Option Nat))[k]? = .null := by rw [List.getElem?_map, hk]; rfl
      cases ty <;> first | exact absurd rfl hnd | (show _ = _; simp only [xget, xclr, x0_at, defaultValue]) | (show xv _ (xrv _) _; rw [hrk]; rfl)
    rw [← t2]
    refine hN _ kk (cells + 1) (slots + (E.2.1 ci).length) _ H1 locs lsC _ ?_ ?_ ⟨⟨hW1, fun k a z => hmon _ _ (hm k a z)⟩, hP1, hD1, hS1, xls_mono hmon hl, ⟨_, _, rfl, ⟨q, ?_, rfl⟩, xva_mono hmon hst⟩⟩
    · show cells + 1 + fin ≤ mc + (h.1 ++ [_]).length
      rw [List.length_append, List.length_cons, List.length_nil]; omega
    · show slots + _ + finS ≤ ms + xsz E (h.1 ++ [_])
      rw [xsz_app, hone]; omega
    · exact xa_of (show h.1.length < xt0 by omega) (by rw [← hW.1, List.getElem?_append_right (Nat.le_refl _), Nat.sub_self]; rfl)
theorem so_nar (hx : p.tables.exec = Jvm.exec) (hb : c.code = cc) (hts : ∀ w ∈ TB, w.before args s = true) (hK : va_K D cl (xtys cA) s) (hA : ∀ q, s.heap.size ≤ q → A q) (hAC : ∀ a : ArrayType, xoka (xty a) = true → Cond.arrayClass (xty a) ∈ TB) (hlen : ∀ f : xF, rn f Q0 → f.2.2.2.1.length ≤ fin ∧ xsz E f.2.2.2.1 ≤ finS) (hfin : fin ≤ xt0) (hRc : R.cells = mc) (hRs : R.slots = ms) (hN : ∀ f, rn f Q0 → xG p l e R s m args below meth c Q E ad cA D cl A r0 nL mc ms fin finS f) {at_ : ArrayType} (hdg : decode cc pc = .ok (.newarray at_, 2))
    (kk : xwo E rc rn d Q0 (xnar (xty at_) (pc + 2) ls st h)) : xG p l e R s m args below meth c Q E ad cA D cl A r0 nL mc ms fin finS (pc, ls, st, h) := by
  unfold xnar at kk
  split at kk
  · rename_i n rst
    cases hok : xoka (xty at_) with
    | false => rw [hok] at kk; exact kk.1.elim
    | true =>
      rw [hok] at kk
      obtain ⟨⟨hn0, hn1⟩, kk⟩ := kk
      have kk : rn (pc + 2, ls, .ref h.1.length :: rst, h.1 ++ [.inl (xty at_, n.toNatClampNeg, [])], xclr h.2 h.1.length) Q0 := kk
      obtain ⟨hl1, hl2⟩ := hlen _ kk
      have hl1 : (h.1 ++ [Sum.inl (xty at_, n.toNatClampNeg, [])]).length ≤ fin := hl1
      have hl2 : xsz E (h.1 ++ [Sum.inl (xty at_, n.toNatClampNeg, [])]) ≤ finS := hl2
      rw [xsz_app] at hl2
      rw [List.length_append] at hl1
      have hone : xsz E [Sum.inl (xty at_, n.toNatClampNeg, [])] = n.toNatClampNeg := by simp [xsz, xs1]
      rw [hone] at hl2
      simp only [List.length_cons, List.length_nil] at hl1
      intro cells slots ws H locs lsC stC h1 h2 hrel
      obtain ⟨⟨hW, hm⟩, hP, hD, hS, hl, hst⟩ := hrel
      obtain ⟨_, rstC, rfl, rfl, hst⟩ := hst
      have h1 : cells + fin ≤ mc + h.1.length := h1
      have h2 : slots + finS ≤ ms + xsz E h.1 := h2
      have fin9 : ∀ (q : Nat) (H1 : Heap) (a0 : vp_A), va_P D cl (ws ++ [(q, .inl (cA (xty at_), a0))]) H1 → va_D A (ws ++ [(q, .inl (cA (xty at_), a0))]) → va_S A s.heap H1 locs → xce E cA (xa ad (ws ++ [(q, .inl (cA (xty at_), a0))])) (.inl (xty at_, n.toNatClampNeg, [])) h.1.length (xclr h.2 h.1.length) (.inl (cA (xty at_), a0)) → W p l e R s m args below meth c H1 locs (cells + 1) (slots + n.toNatClampNeg) Q (F0 m (pc + 2) lsC (.ref q :: rstC)) := by
        intro q H1 a0 hP1 hD1 hS1 hce
        have hmon := xmon_app ad ws [(q, Sum.inl (cA (xty at_), a0))]
        refine hN _ kk (cells + 1) (slots + n.toNatClampNeg) _ H1 locs lsC _ ?_ ?_ ⟨⟨xW_push hW (by omega) (fun i hi => xclr_row _ _ hi) hce, fun k a z => hmon _ _ (hm k a z)⟩, hP1, hD1, hS1, xls_mono hmon hl, ⟨_, _, rfl, ⟨q, ?_, rfl⟩, xva_mono hmon hst⟩⟩
        · show cells + 1 + fin ≤ mc + (h.1 ++ [_]).length
          rw [List.length_append, List.length_cons, List.length_nil]; omega
        · show slots + _ + finS ≤ ms + xsz E (h.1 ++ [_])
          rw [xsz_app, hone]; omega
        · exact xa_of (show h.1.length < xt0 by omega) (by rw [← hW.1, List.getElem?_append_right (Nat.le_refl _), Nat.sub_self]; rfl)
      have hac := hts _ (hAC at_ hok)
      cases at_ with
      | int =>
        refine va_newa (a0 := (n.toNatClampNeg, .inl (fun _ => 0))) (ty := .int) (atype := .int) hx hb hac rfl hK hP hD hS hA (fun _ => rfl) hn0 rfl (by show _ * 4 ≤ _; omega) (by rw [hRc]; omega) (by rw [hRs]; omega) hdg (fun q c9 H1 hK1 hP1 hD1 hS1 => ?_)
        have e1 : s.vm.findClass ("[" ++ (FieldType.int).toString) = some c9 := (hK1.2 5 _ rfl).2
        have e2 : s.vm.findClass ("[" ++ (FieldType.int).toString) = some (cA .int) := (hK.2 0 _ rfl).2
        cases e1.symm.trans e2
        exact fin9 q H1 _ hP1 hD1 hS1 (by show _ = _; rw [show (xclr h.2 h.1.length).1 h.1.length = fun _ => 0 from x0_at _ _ _]; rfl)
      | byte =>
        refine va_newa (a0 := (n.toNatClampNeg, .inl (fun _ => 0))) (ty := .byte) (atype := .byte) hx hb hac rfl hK hP hD hS hA (fun _ => rfl) hn0 rfl (by show _ * 1 ≤ _; omega) (by rw [hRc]; omega) (by rw [hRs]; omega) hdg (fun q c9 H1 hK1 hP1 hD1 hS1 => ?_)
        have e1 : s.vm.findClass ("[" ++ (FieldType.byte).toString) = some c9 := (hK1.2 5 _ rfl).2
        have e2 : s.vm.findClass ("[" ++ (FieldType.byte).toString) = some (cA .byte) := (hK.2 1 _ rfl).2
        cases e1.symm.trans e2
        exact fin9 q H1 _ hP1 hD1 hS1 (by show _ = _; rw [show (xclr h.2 h.1.length).1 h.1.length = fun _ => 0 from x0_at _ _ _]; rfl)
      | long =>
        refine va_newa (a0 := (n.toNatClampNeg, .inr (.inl (fun _ => 0)))) (ty := .long) (atype := .long) hx hb hac rfl hK hP hD hS hA (fun _ => rfl) hn0 rfl (by show _ * 8 ≤ _; omega) (by rw [hRc]; omega) (by rw [hRs]; omega) hdg (fun q c9 H1 hK1 hP1 hD1 hS1 => ?_)
        have e1 : s.vm.findClass ("[" ++ (FieldType.long).toString) = some c9 := (hK1.2 5 _ rfl).2
        have e2 : s.vm.findClass ("[" ++ (FieldType.long).toString) = some (cA .long) := (hK.2 2 _ rfl).2
        cases e1.symm.trans e2
        exact fin9 q H1 _ hP1 hD1 hS1 (by show _ = _; rw [show (xclr h.2 h.1.length).2.1 h.1.length = fun _ => 0 from x0_at _ _ _]; rfl)
      | float =>
        refine va_newa (a0 := (n.toNatClampNeg, .inr (.inr (.inl (fun _ => 0))))) (ty := .float) (atype := .float) hx hb hac rfl hK hP hD hS hA (fun _ => rfl) hn0 rfl (by show _ * 4 ≤ _; omega) (by rw [hRc]; omega) (by rw [hRs]; omega) hdg (fun q c9 H1 hK1 hP1 hD1 hS1 => ?_)
        have e1 : s.vm.findClass ("[" ++ (FieldType.float).toString) = some c9 := (hK1.2 5 _ rfl).2
        have e2 : s.vm.findClass ("[" ++ (FieldType.float).toString) = some (cA .float) := (hK.2 3 _ rfl).2
        cases e1.symm.trans e2
        exact fin9 q H1 _ hP1 hD1 hS1 (by show _ = _; rw [show (xclr h.2 h.1.length).2.2 h.1.length = fun _ => 0 from x0_at _ _ _]; rfl)
      | _ => cases hok
  · exact kk.1.elim
end XSH
