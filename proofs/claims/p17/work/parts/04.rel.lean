/-! the machine on paper and the machine: how their states belong together -/
/-- the address of a cell -/
def xa (ad : Nat → Nat) (ws : va_W) (k : Nat) : Option Nat := bif Nat.ble xt0 k then some (ad (k - xt0)) else (ws[k]?).map Prod.fst
def xmon (r1 r2 : Nat → Option Nat) : Prop := ∀ k a, r1 k = some a → r2 k = some a
def xv (r : Nat → Option Nat) (v w : Value) : Prop := match v with
  | .ref k => ∃ a, r k = some a ∧ w = .ref a
  | .int x => w = .int x
  | .long x => w = .long x
  | .float x => w = .float x
  | .double x => w = .double x
  | .null => w = .null
  | .retAddr _ => False
def xvo (r : Nat → Option Nat) (v w : Option Value) : Prop := match v with
  | none => w = none
  | some v => ∃ u, w = some u ∧ xv r v u
def xva (r : Nat → Option Nat) : List Value → List Value → Prop
  | [], w => w = []
  | v :: vs, w => ∃ u us, w = u :: us ∧ xv r v u ∧ xva r vs us
def xqr (r : Nat → Option Nat) (o : Option (Option Nat)) (x : Option Nat) : Prop := match o with
  | some (some k) => ∃ a, r k = some a ∧ x = some a
  | _ => x = none
def xce (E : xE) (cA : FieldType → ClassId) (r : Nat → Option Nat) (t : xS) (i : Nat) (d : xD) (e : va_E) : Prop := match t with
  | .inl (.int, n, _) => e = .inl (cA .int, n, .inl (d.1 i))
  | .inl (.byte, n, _) => e = .inl (cA .byte, n, .inl (d.1 i))
  | .inl (.long, n, _) => e = .inl (cA .long, n, .inr (.inl (d.2.1 i)))
  | .inl (.float, n, _) => e = .inl (cA .float, n, .inr (.inr (.inl (d.2.2 i))))
  | .inl (.array .float, n, rs) => ∃ f : Nat → Option Nat, e = .inl (cA (.array .float), n, .inr (.inr (.inr (.inr f)))) ∧ ∀ j, j < n → xqr r rs[j]? (f j)
  | .inl _ => False
  | .inr (ci, rf) => ∃ fs : List Value, e = .inr (ci, fs) ∧ fs.length = (E.2.1 ci).length ∧ rf.length = (E.2.1 ci).length ∧ ∀ (k : Nat) (ty : FieldType), (E.2.1 ci)[k]? = some ty → ∃ v, fs[k]? = some v ∧ xv r (xget ty k i rf d) v
def xW (E : xE) (ad : Nat → Nat) (cA : FieldType → ClassId) (h : xH) (ws : va_W) : Prop := ws.length = h.1.length ∧ h.1.length ≤ xt0 ∧ ∀ (i : Nat) (t : xS), h.1[i]? = some t → ∃ a e, ws[i]? = some (a, e) ∧ xce E cA (xa ad ws) t i h.2 e
def xtys (cA : FieldType → ClassId) : List (ClassId × FieldType) := [(cA .int, .int), (cA .byte, .byte), (cA .long, .long), (cA .float, .float), (cA (.array .float), .array .float)]
def xls (r : Nat → Option Nat) (l : xL) (ls : Array Slot) (nL : Nat) : Prop := ls.size = nL ∧ l.length = nL ∧ lv_wf ls ∧ ∀ (i : Nat) (v : Value), xld l i = some v → ∃ w, ls[i]? = some (.val w) ∧ xv r v w
def xs1 (E : xE) (t : xS) : Nat := match t with
  | .inl (_, n, _) => n
  | .inr (ci, _) => (E.2.1 ci).length
def xsz (E : xE) (sh : List xS) : Nat := (sh.map (xs1 E)).sum
def xroom (d mc ms : Nat) : Room := { frames := d + 8, cells := mc, slots := ms, locals := 60 * d + 400 }
theorem xv_mono {r1 r2 : Nat → Option Nat} (h : xmon r1 r2) {v w : Value} (k : xv r1 v w) : xv r2 v w := by
  cases v with
  | ref q => obtain ⟨a, h1, h2⟩ := k; exact ⟨a, h _ _ h1, h2⟩
  | _ => exact k
theorem xvo_mono {r1 r2 : Nat → Option Nat} (h : xmon r1 r2) {v w : Option Value} (k : xvo r1 v w) : xvo r2 v w := by
  cases v with
  | none => exact k
  | some q => obtain ⟨a, h1, h2⟩ := k; exact ⟨a, h1, xv_mono h h2⟩
theorem xva_mono {r1 r2 : Nat → Option Nat} (h : xmon r1 r2) : ∀ {v w : List Value}, xva r1 v w → xva r2 v w
  | [], _, k => k
  | _ :: _, _, ⟨u, us, e, h1, h2⟩ => ⟨u, us, e, xv_mono h h1, xva_mono h h2⟩
theorem xls_mono {r1 r2 : Nat → Option Nat} (h : xmon r1 r2) {l : xL} {ls : Array Slot} {nL : Nat} (k : xls r1 l ls nL) : xls r2 l ls nL :=
  ⟨k.1, k.2.1, k.2.2.1, fun i v hv => by obtain ⟨w, h1, h2⟩ := k.2.2.2 i v hv; exact ⟨w, h1, xv_mono h h2⟩⟩
theorem xce_mono {E : xE} {cA : FieldType → ClassId} {r1 r2 : Nat → Option Nat} (h : xmon r1 r2) {t : xS} {i : Nat} {d : xD} {e : va_E} (k : xce E cA r1 t i d e) : xce E cA r2 t i d e := by
  unfold xce at k ⊢
  split at k
  · exact k
  · exact k
  · exact k
  · exact k
  · obtain ⟨f, h1, h2⟩ := k
    refine ⟨f, h1, fun j hj => ?_⟩
    have h3 := h2 j hj
    unfold xqr at h3 ⊢
    split at h3
    · obtain ⟨a, e1, e2⟩ := h3; exact ⟨a, h _ _ e1, e2⟩
    · exact h3
  · exact k
  · obtain ⟨fs, h1, h2, h4, h3⟩ := k
    refine ⟨fs, h1, h2, h4, fun j ty hj => ?_⟩
    obtain ⟨v, e1, e2⟩ := h3 j ty hj
    exact ⟨v, e1, xv_mono h e2⟩
theorem xv_cat {r : Nat → Option Nat} {v w : Value} (k : xv r v w) : w.category = v.category := by
  cases v with
  | ref q => obtain ⟨a, h1, rfl⟩ := k; rfl
  | retAddr _ => exact k.elim
  | _ => rw [show w = _ from k]
theorem xva_cat {r : Nat → Option Nat} : ∀ {v w : List Value}, xva r v w → xcat w = xcat v
  | [], _, k => by rw [show _ = [] from k]
  | v :: vs, _, ⟨u, us, e, h1, h2⟩ => by
    have := xva_cat h2
    rw [e]
    simp only [xcat, List.map_cons, List.sum_cons] at this ⊢
    rw [this, xv_cat h1]
theorem xmon_app (ad : Nat → Nat) (ws : va_W) (q : List (Nat × va_E)) : xmon (xa ad ws) (xa ad (ws ++ q)) := by
  intro k a h
  unfold xa at h ⊢
  cases hb : Nat.ble xt0 k with
  | true => rw [hb] at h; exact h
  | false =>
    rw [hb] at h
    simp only [cond_false] at h ⊢
    cases hk : ws[k]? with
    | none => rw [hk] at h; cases h
    | some x =>
      rw [hk] at h
      rw [List.getElem?_append_left (List.getElem?_eq_some_iff.mp hk).1, hk]
      exact h
theorem xa_set (ad : Nat → Nat) (ws : va_W) {q0 a : Nat} {e0 e : va_E} (h : ws[q0]? = some (a, e0)) : xa ad (ws.set q0 (a, e)) = xa ad ws := by
  funext k
  unfold xa
  congr 1
  by_cases hk : k = q0
  · subst hk
    rw [List.getElem?_set_self (List.getElem?_eq_some_iff.mp h).1, h]
    rfl
  · rw [List.getElem?_set_ne (Ne.symm hk)]
theorem xa_at {ad : Nat → Nat} {ws : va_W} {k a : Nat} (hk : k < xt0) (h : xa ad ws k = some a) : ∃ e, ws[k]? = some (a, e) := by
  unfold xa at h
  have hb : Nat.ble xt0 k = false := by
    cases hb : Nat.ble xt0 k with
    | false => rfl
    | true => exact absurd (Nat.le_of_ble_eq_true hb) (by omega)
  rw [hb] at h
  simp only [cond_false] at h
  cases hw : ws[k]? with
  | none => rw [hw] at h; cases h
  | some x => rw [hw] at h; obtain ⟨a1, e1⟩ := x; cases h; exact ⟨e1, rfl⟩
theorem xa_of {ad : Nat → Nat} {ws : va_W} {k a : Nat} {e : va_E} (hk : k < xt0) (h : ws[k]? = some (a, e)) : xa ad ws k = some a := by
  unfold xa
  have hb : Nat.ble xt0 k = false := by
    cases hb : Nat.ble xt0 k with
    | false => rfl
    | true => exact absurd (Nat.le_of_ble_eq_true hb) (by omega)
  rw [hb, h]
  rfl
/-- a cell of the world -/
theorem xW_at {E : xE} {ad : Nat → Nat} {cA : FieldType → ClassId} {h : xH} {ws : va_W} (k : xW E ad cA h ws) {i a : Nat} {t : xS} (hi : h.1[i]? = some t) (ha : xa ad ws i = some a) : ∃ e, ws[i]? = some (a, e) ∧ xce E cA (xa ad ws) t i h.2 e := by
  obtain ⟨a2, e, h1, h2⟩ := k.2.2 i t hi
  have hl : i < xt0 := Nat.lt_of_lt_of_le (List.getElem?_eq_some_iff.mp hi).1 k.2.1
  have := (xa_of (ad := ad) hl h1).symm.trans ha
  cases this
  exact ⟨e, h1, h2⟩
/-- the locals -/
def xall (ls : Array Slot) : List (Nat × Value) := (List.range ls.size).filterMap fun i => match (ls[i]? : Option Slot) with
  | some (Slot.val w) => some (i, w)
  | _ => none
theorem xall_mem {ls : Array Slot} {i : Nat} {w : Value} : (i, w) ∈ xall ls ↔ ls[i]? = some (.val w) := by
  unfold xall
  rw [List.mem_filterMap]
  constructor
  · rintro ⟨j, -, hj⟩
    split at hj
    · rename_i w2 h2
      cases hj
      exact h2
    · cases hj
  · intro h
    refine ⟨i, List.mem_range.mpr (Array.getElem?_eq_some_iff.mp h).1, ?_⟩
    rw [h]
theorem xls_has {r : Nat → Option Nat} {l : xL} {ls : Array Slot} {nL : Nat} (k : xls r l ls nL) : lv_has ls nL (xall ls) := ⟨k.1, k.2.2.1, fun q hq => xall_mem.mp hq⟩
theorem xld_set {l : xL} {i j : Nat} {o : Option Value} : xld (l.set i o) j = if j = i ∧ j < l.length then o else xld l j := by
  unfold xld
  by_cases h : j = i
  · subst h
    by_cases hl : j < l.length
    · rw [List.getElem?_set_self hl, if_pos ⟨rfl, hl⟩]
    · rw [if_neg (fun q => hl q.2), List.getElem?_eq_none (by rw [List.length_set]; omega), List.getElem?_eq_none (by omega)]
  · rw [if_neg (fun q => h q.1), List.getElem?_set_ne (Ne.symm h)]
theorem xkill_len (l : xL) (i : Nat) : (xkill l i).length = l.length := by
  unfold xkill
  split
  · rfl
  · split
    · cases hb : Nat.beq _ 2 <;> simp
    · rfl
/-- what is left of the locals when one of them is to be written -/
theorem xkill_ld {l : xL} {i j : Nat} {v : Value} (h : xld (xkill l i) j = some v) : xld l j = some v ∧ ¬ (j + 1 = i ∧ v.category = 2) := by
  unfold xkill at h
  split at h
  · exact ⟨h, fun q => by omega⟩
  · rename_i i0
    split at h
    · rename_i w hw
      cases hb : Nat.beq w.category 2 with
      | true =>
        rw [hb] at h
        simp only [cond_true] at h
        rw [xld_set] at h
        split at h
        · cases h
        · rename_i hn
          refine ⟨h, fun q => ?_⟩
          have : j = i0 := by omega
          subst this
          unfold xld at h
          split at h
          · rename_i o ho
            exact hn ⟨rfl, (List.getElem?_eq_some_iff.mp ho).1⟩
          · cases h
      | false =>
        rw [hb] at h
        simp only [cond_false] at h
        refine ⟨h, fun q => ?_⟩
        have : j = i0 := by omega
        subst this
        rw [hw] at h
        cases h
        have hq := q.2
        rw [hq] at hb
        cases hb
    · rename_i hw
      refine ⟨h, fun q => ?_⟩
      have : j = i0 := by omega
      subst this
      rw [hw] at h
      cases h
theorem xls_put {r : Nat → Option Nat} {l l' : xL} {ls ls' : Array Slot} {nL i : Nat} {v w : Value} (k : xls r l ls nL) (hp : xput l i v = some l') (hv : xv r v w) (h' : lv_has ls' nL ((i, w) :: (xall ls).filter (fun q => !(q.1 == i) && !(q.1 + 1 == i && q.2.category == 2)))) : xls r l' ls' nL ∧ i < nL := by
  unfold xput at hp
  split at hp
  · cases hp
  · rename_i o ho
    have hi : i < l.length := (List.getElem?_eq_some_iff.mp ho).1
    cases hp
    refine ⟨⟨h'.1, by rw [List.length_set, xkill_len]; exact k.2.1, h'.2.1, fun j u hj => ?_⟩, by rw [← k.2.1]; exact hi⟩
    rw [xld_set] at hj
    split at hj
    · rename_i hc
      cases hj
      rw [hc.1]
      exact ⟨w, h'.2.2 (i, w) List.mem_cons_self, hv⟩
    · rename_i hc
      have hji : ¬ j = i := fun q => hc ⟨q, by rw [xkill_len, q]; exact hi⟩
      obtain ⟨h1, h2⟩ := xkill_ld hj
      obtain ⟨z, e1, e2⟩ := k.2.2.2 j u h1
      refine ⟨z, h'.2.2 (j, z) (List.mem_cons_of_mem _ (List.mem_filter.mpr ⟨xall_mem.mpr e1, ?_⟩)), e2⟩
      have hcz := xv_cat e2
      simp only [Bool.and_eq_true, Bool.not_eq_true', beq_eq_false_iff_ne, ne_eq, Bool.and_eq_false_iff]
      refine ⟨hji, ?_⟩
      by_cases hz : j + 1 = i
      · exact Or.inr (fun q => h2 ⟨hz, hcz ▸ q⟩)
      · exact Or.inl hz
theorem xls_put2 {r : Nat → Option Nat} {l l' : xL} {ls ls' : Array Slot} {nL i : Nat} {v w : Value} (k : xls r l ls nL) (hp : xput2 l i v = some l') (hv : xv r v w) (h' : lv_has ls' nL ((i, w) :: (xall ls).filter (fun q => !(q.1 == i) && (!(q.1 == i + 1) && !(q.1 + 1 == i && q.2.category == 2))))) : xls r l' ls' nL := by
  unfold xput2 at hp
  split at hp
  · cases hp
  · rename_i o ho
    have hi : i + 1 < l.length := (List.getElem?_eq_some_iff.mp ho).1
    cases hp
    refine ⟨h'.1, by rw [List.length_set, List.length_set, xkill_len]; exact k.2.1, h'.2.1, fun j u hj => ?_⟩
    rw [xld_set] at hj
    split at hj
    · cases hj
    · rename_i hc0
      have hj1 : ¬ j = i + 1 := fun q => hc0 ⟨q, by rw [List.length_set, xkill_len, q]; exact hi⟩
      rw [xld_set] at hj
      split at hj
      · rename_i hc
        cases hj
        rw [hc.1]
        exact ⟨w, h'.2.2 (i, w) List.mem_cons_self, hv⟩
      · rename_i hc
        have hji : ¬ j = i := fun q => hc ⟨q, by rw [xkill_len, q]; omega⟩
        obtain ⟨h1, h2⟩ := xkill_ld hj
        obtain ⟨z, e1, e2⟩ := k.2.2.2 j u h1
        refine ⟨z, h'.2.2 (j, z) (List.mem_cons_of_mem _ (List.mem_filter.mpr ⟨xall_mem.mpr e1, ?_⟩)), e2⟩
        have hcz := xv_cat e2
        simp only [Bool.and_eq_true, Bool.not_eq_true', beq_eq_false_iff_ne, ne_eq, Bool.and_eq_false_iff]
        refine ⟨hji, hj1, ?_⟩
        by_cases hz : j + 1 = i
        · exact Or.inr (fun q => h2 ⟨hz, hcz ▸ q⟩)
        · exact Or.inl hz
theorem xput_lt {l l' : xL} {i : Nat} {v : Value} (hp : xput l i v = some l') : i < l.length := by
  unfold xput at hp
  split at hp
  · cases hp
  · rename_i o ho
    exact (List.getElem?_eq_some_iff.mp ho).1
theorem xput2_lt {l l' : xL} {i : Nat} {v : Value} (hp : xput2 l i v = some l') : i + 1 < l.length := by
  unfold xput2 at hp
  split at hp
  · cases hp
  · rename_i o ho
    exact (List.getElem?_eq_some_iff.mp ho).1
/-- the arguments of a call -/
theorem xpop_spec {r : Nat → Option Nat} : ∀ (n : Nat) (st acc av rest : List Value), xpop n st acc = some (av, rest) → ∃ as : List Value, av = as ++ acc ∧ as.length = n ∧ st = as.reverse ++ rest
  | 0, st, acc, av, rest, h => by cases h; exact ⟨[], rfl, rfl, rfl⟩
  | n + 1, [], acc, av, rest, h => by cases h
  | n + 1, v :: st, acc, av, rest, h => by
    obtain ⟨as, h1, h2, h3⟩ := xpop_spec (r := r) n st (v :: acc) av rest h
    exact ⟨as ++ [v], by rw [h1]; simp, by simp [h2], by rw [h3]; simp⟩
theorem xva_split {r : Nat → Option Nat} : ∀ {a b w : List Value}, xva r (a ++ b) w → ∃ wa wb, w = wa ++ wb ∧ xva r a wa ∧ xva r b wb
  | [], b, w, k => ⟨[], w, rfl, rfl, k⟩
  | v :: a, b, w, ⟨u, us, e, h1, h2⟩ => by
    obtain ⟨wa, wb, e2, h3, h4⟩ := xva_split h2
    exact ⟨u :: wa, wb, by rw [e, e2]; rfl, ⟨u, wa, rfl, h1, h3⟩, h4⟩
theorem xva_app {r : Nat → Option Nat} : ∀ {a b wa wb : List Value}, xva r a wa → xva r b wb → xva r (a ++ b) (wa ++ wb)
  | [], b, wa, wb, k, k2 => by rw [show wa = [] from k]; exact k2
  | v :: a, b, wa, wb, ⟨u, us, e, h1, h2⟩, k2 => by
    rw [e]
    exact ⟨u, us ++ wb, rfl, h1, xva_app h2 k2⟩
theorem xva_rev {r : Nat → Option Nat} : ∀ {a w : List Value}, xva r a w → xva r a.reverse w.reverse
  | [], w, k => by rw [show w = [] from k]; rfl
  | v :: a, w, ⟨u, us, e, h1, h2⟩ => by
    rw [e, List.reverse_cons, List.reverse_cons]
    exact xva_app (xva_rev h2) ⟨u, [], rfl, h1, rfl⟩
theorem xva_len {r : Nat → Option Nat} : ∀ {a w : List Value}, xva r a w → w.length = a.length
  | [], w, k => by rw [show w = [] from k]
  | v :: a, w, ⟨u, us, e, h1, h2⟩ => by rw [e, List.length_cons, List.length_cons, xva_len h2]
theorem xpad_len : ∀ (n : Nat) (l : xL), l.length ≤ n → (xpad n l).length = n
  | 0, l, h => by simpa [xpad] using h
  | n + 1, [], h => by simp [xpad, xpad_len n [] (Nat.zero_le n)]
  | n + 1, v :: l, h => by simp [xpad, xpad_len n l (by simpa using h)]
theorem xpad_ld : ∀ (n : Nat) (l : xL) (i : Nat) (v : Value), xld (xpad n l) i = some v → xld l i = some v
  | 0, l, i, v, h => h
  | n + 1, [], 0, v, h => by simp [xpad, xld] at h
  | n + 1, [], i + 1, v, h => by
    have : xld (xpad n []) i = some v := by simpa [xpad, xld] using h
    have := xpad_ld n [] i v this
    simp [xld] at this
  | n + 1, u :: l, 0, v, h => by simpa [xpad, xld] using h
  | n + 1, u :: l, i + 1, v, h => by
    have : xld (xpad n l) i = some v := by simpa [xpad, xld] using h
    simpa [xld] using xpad_ld n l i v this
theorem xflat_len : ∀ {av : List Value} {r : Nat → Option Nat} {w : List Value}, xva r av w → (xflat av).length = (lg_sl w).length
  | [], r, w, k => by rw [show w = [] from k]; rfl
  | v :: vs, r, w, ⟨u, us, e, h1, h2⟩ => by
    have ih := xflat_len h2
    have hc := xv_cat h1
    rw [e]
    simp only [lg_sl, List.flatMap_cons, List.length_append] at ih ⊢
    unfold xflat
    by_cases h : v.category = 2
    · rw [h, if_pos (hc.trans h)]
      simp [ih]
      omega
    · rw [if_neg (fun q => h (hc.symm.trans q))]
      have : Nat.beq v.category 2 = false := by
        cases hb : Nat.beq v.category 2 with
        | false => rfl
        | true => exact absurd (Nat.eq_of_beq_eq_true hb) h
      rw [this]
      simp [ih]
      omega
theorem xflat_ld : ∀ {av : List Value} {r : Nat → Option Nat} {w : List Value} (i0 : Nat) (i : Nat) (v : Value), xva r av w → xld (xflat av) i = some v → ∃ u, (i0 + i, u) ∈ lv_args i0 w ∧ xv r v u
  | [], r, w, i0, i, v, k, h => by simp [xflat, xld] at h
  | z :: vs, r, w, i0, i, v, ⟨u, us, e, h1, h2⟩, h => by
    have hc := xv_cat h1
    rw [e]
    unfold xflat at h
    by_cases hz : z.category = 2
    · rw [hz] at h
      have hu : u.category = 2 := hc.trans hz
      simp only [lv_args, hu, if_true]
      match i, h with
      | 0, h =>
        have : z = v := by simpa [xld] using h
        subst this
        exact ⟨u, List.mem_cons_self, h1⟩
      | 1, h => simp [xld] at h
      | i + 2, h =>
        have h3 : xld (xflat vs) i = some v := by simpa [xld] using h
        obtain ⟨x, e1, e2⟩ := xflat_ld (i0 + 2) i v h2 h3
        exact ⟨x, List.mem_cons_of_mem _ (by rw [show i0 + (i + 2) = i0 + 2 + i by omega]; exact e1), e2⟩
    · have hb : Nat.beq z.category 2 = false := by
        cases hb : Nat.beq z.category 2 with
        | false => rfl
        | true => exact absurd (Nat.eq_of_beq_eq_true hb) hz
      rw [hb] at h
      have hu : ¬ u.category = 2 := fun q => hz (hc.symm.trans q)
      simp only [lv_args, hu, if_false]
      match i, h with
      | 0, h =>
        have : z = v := by simpa [xld] using h
        subst this
        exact ⟨u, List.mem_cons_self, h1⟩
      | i + 1, h =>
        have h3 : xld (xflat vs) i = some v := by simpa [xld] using h
        obtain ⟨x, e1, e2⟩ := xflat_ld (i0 + 1) i v h2 h3
        exact ⟨x, List.mem_cons_of_mem _ (by rw [show i0 + (i + 1) = i0 + 1 + i by omega]; exact e1), e2⟩
/-- the locals with which a method begins -/
theorem xls_entry {r : Nat → Option Nat} {av w : List Value} {n : Nat} (k : xva r av w) (hn : (xflat av).length ≤ n) : xls r (xpad n (xflat av)) ((lg_sl w ++ List.replicate (n - (lg_sl w).length) Slot.unset).toArray) n := by
  have hl : (lg_sl w).length ≤ n := by rw [← xflat_len k]; exact hn
  have h := lv_entry w (n := n) hl
  refine ⟨h.1, xpad_len n _ hn, h.2.1, fun i v hv => ?_⟩
  obtain ⟨u, e1, e2⟩ := xflat_ld 0 i v k (xpad_ld n _ i v hv)
  rw [Nat.zero_add] at e1
  exact ⟨u, h.2.2 (i, u) e1, e2⟩
