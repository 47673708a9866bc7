/-! cells are never taken away -/
def xle (E : xE) (h h' : xH) : Prop := h.1.length ≤ h'.1.length ∧ xsz E h.1 ≤ xsz E h'.1
theorem xle.rf {E : xE} {h : xH} : xle E h h := ⟨Nat.le_refl _, Nat.le_refl _⟩
theorem xle.tr {E : xE} {h1 h2 h3 : xH} (a : xle E h1 h2) (b : xle E h2 h3) : xle E h1 h3 := ⟨Nat.le_trans a.1 b.1, Nat.le_trans a.2 b.2⟩
def xog (E : xE) (h : xH) (o : xO) : Prop := match o with
  | .inl g => xle E h g.2.2.2
  | .inr (.inl (_, g)) => xle E h g.2.2.2
  | .inr (.inr (.inl (cs, g))) => (∀ q ∈ cs, xle E h q.2.2.2.2) ∧ xle E h g.2.2.2
  | .inr (.inr (.inr (.inl (_, _, _, _, _, h2)))) => h2 = h
  | .inr (.inr (.inr (.inr (_, _, h2)))) => h2 = h
theorem xle_app {E : xE} {h : xH} {t : List xS} {d : xD} : xle E h (h.1 ++ t, d) := ⟨by simp, by rw [xsz_app]; omega⟩
theorem xle_set {E : xE} {h : xH} {a ci : Nat} {rf rf' : List (Option Nat)} {d : xD} (ha : h.1[a]? = some (.inr (ci, rf))) : xle E h (h.1.set a (.inr (ci, rf')), d) := ⟨by simp, by show xsz E h.1 ≤ xsz E (h.1.set a (.inr (ci, rf'))); rw [xsz_set (t' := .inr (ci, rf')) ha rfl]; exact Nat.le_refl _⟩
theorem xle_dat {E : xE} {h : xH} {d : xD} : xle E h (h.1, d) := xle.rf
theorem xog_no {E : xE} {f : xF} : xog E f.2.2.2 (xno f) := xle.rf
theorem xog_xii {E : xE} (g : Int32 → Int32 → Int32) (nx : Nat) (ls : xL) (st : List Value) (h : xH) : xog E h (xii g nx ls st h) := by
  unfold xii
  repeat' split
  all_goals exact xle.rf
theorem xog_xi {E : xE} (g : Int32 → Value) (nx : Nat) (ls : xL) (st : List Value) (h : xH) : xog E h (xi g nx ls st h) := by
  unfold xi
  repeat' split
  all_goals exact xle.rf
theorem xog_xiiD {E : xE} (g : Int32 → Int32 → Int32) (nx : Nat) (ls : xL) (st : List Value) (h : xH) : xog E h (xiiD g nx ls st h) := by
  unfold xiiD
  repeat' split
  all_goals exact xle.rf
theorem xog_xll {E : xE} (g : Int64 → Int64 → Value) (nx : Nat) (ls : xL) (st : List Value) (h : xH) : xog E h (xll g nx ls st h) := by
  unfold xll
  repeat' split
  all_goals exact xle.rf
theorem xog_xl {E : xE} (g : Int64 → Value) (nx : Nat) (ls : xL) (st : List Value) (h : xH) : xog E h (xl g nx ls st h) := by
  unfold xl
  repeat' split
  all_goals exact xle.rf
theorem xog_xli {E : xE} (g : Int64 → Int32 → Int64) (nx : Nat) (ls : xL) (st : List Value) (h : xH) : xog E h (xli g nx ls st h) := by
  unfold xli
  repeat' split
  all_goals exact xle.rf
theorem xog_xff {E : xE} (g : UInt32 → UInt32 → UInt32) (nx : Nat) (ls : xL) (st : List Value) (h : xH) : xog E h (xff g nx ls st h) := by
  unfold xff
  repeat' split
  all_goals exact xle.rf
theorem xog_xf {E : xE} (g : UInt32 → Value) (nx : Nat) (ls : xL) (st : List Value) (h : xH) : xog E h (xf g nx ls st h) := by
  unfold xf
  repeat' split
  all_goals exact xle.rf
theorem xog_xfc {E : xE} (g : CmpOp) (nx : Nat) (ls : xL) (st : List Value) (h : xH) : xog E h (xfc g nx ls st h) := by
  unfold xfc
  repeat' split
  all_goals exact xle.rf
theorem xog_xloi {E : xE} (i : Nat) (nx : Nat) (ls : xL) (st : List Value) (h : xH) : xog E h (xloi i nx ls st h) := by
  unfold xloi
  repeat' split
  all_goals exact xle.rf
theorem xog_xlol {E : xE} (i : Nat) (nx : Nat) (ls : xL) (st : List Value) (h : xH) : xog E h (xlol i nx ls st h) := by
  unfold xlol
  repeat' split
  all_goals exact xle.rf
theorem xog_xlof {E : xE} (i : Nat) (nx : Nat) (ls : xL) (st : List Value) (h : xH) : xog E h (xlof i nx ls st h) := by
  unfold xlof
  repeat' split
  all_goals exact xle.rf
theorem xog_xloa {E : xE} (i : Nat) (nx : Nat) (ls : xL) (st : List Value) (h : xH) : xog E h (xloa i nx ls st h) := by
  unfold xloa
  repeat' split
  all_goals exact xle.rf
theorem xog_xsti {E : xE} (i : Nat) (nx : Nat) (ls : xL) (st : List Value) (h : xH) : xog E h (xsti i nx ls st h) := by
  unfold xsti
  repeat' split
  all_goals exact xle.rf
theorem xog_xstf {E : xE} (i : Nat) (nx : Nat) (ls : xL) (st : List Value) (h : xH) : xog E h (xstf i nx ls st h) := by
  unfold xstf
  repeat' split
  all_goals exact xle.rf
theorem xog_xsta {E : xE} (i : Nat) (nx : Nat) (ls : xL) (st : List Value) (h : xH) : xog E h (xsta i nx ls st h) := by
  unfold xsta
  repeat' split
  all_goals exact xle.rf
theorem xog_xstl {E : xE} (i : Nat) (nx : Nat) (ls : xL) (st : List Value) (h : xH) : xog E h (xstl i nx ls st h) := by
  unfold xstl
  repeat' split
  all_goals exact xle.rf
theorem xog_xinc {E : xE} (i : Nat) (v : Value) (nx : Nat) (ls : xL) (st : List Value) (h : xH) : xog E h (xinc i v nx ls st h) := by
  unfold xinc
  repeat' split
  all_goals exact xle.rf
theorem xog_xnul {E : xE} (a b : Nat) (ls : xL) (st : List Value) (h : xH) : xog E h (xnul a b ls st h) := by
  unfold xnul
  repeat' split
  all_goals exact xle.rf
theorem xog_xaldI {E : xE}  (nx : Nat) (ls : xL) (st : List Value) (h : xH) : xog E h (xaldI nx ls st h) := by
  unfold xaldI
  repeat' split
  all_goals exact xle.rf
theorem xog_xaldB {E : xE}  (nx : Nat) (ls : xL) (st : List Value) (h : xH) : xog E h (xaldB nx ls st h) := by
  unfold xaldB
  repeat' split
  all_goals exact xle.rf
theorem xog_xaldL {E : xE}  (nx : Nat) (ls : xL) (st : List Value) (h : xH) : xog E h (xaldL nx ls st h) := by
  unfold xaldL
  repeat' split
  all_goals exact xle.rf
theorem xog_xaldF {E : xE}  (nx : Nat) (ls : xL) (st : List Value) (h : xH) : xog E h (xaldF nx ls st h) := by
  unfold xaldF
  repeat' split
  all_goals exact xle.rf
theorem xog_xaldA {E : xE}  (nx : Nat) (ls : xL) (st : List Value) (h : xH) : xog E h (xaldA nx ls st h) := by
  unfold xaldA
  repeat' split
  all_goals exact xle.rf
theorem xog_xastI {E : xE}  (nx : Nat) (ls : xL) (st : List Value) (h : xH) : xog E h (xastI nx ls st h) := by
  unfold xastI
  repeat' split
  all_goals exact xle.rf
theorem xog_xastB {E : xE}  (nx : Nat) (ls : xL) (st : List Value) (h : xH) : xog E h (xastB nx ls st h) := by
  unfold xastB
  repeat' split
  all_goals exact xle.rf
theorem xog_xastL {E : xE}  (nx : Nat) (ls : xL) (st : List Value) (h : xH) : xog E h (xastL nx ls st h) := by
  unfold xastL
  repeat' split
  all_goals exact xle.rf
theorem xog_xastF {E : xE}  (nx : Nat) (ls : xL) (st : List Value) (h : xH) : xog E h (xastF nx ls st h) := by
  unfold xastF
  repeat' split
  all_goals exact xle.rf
theorem xog_xaln {E : xE}  (nx : Nat) (ls : xL) (st : List Value) (h : xH) : xog E h (xaln nx ls st h) := by
  unfold xaln
  repeat' split
  all_goals exact xle.rf
theorem xog_xb1 {E : xE} (g : Int32 → Prop) (nx : Nat) (tg : List Nat) (ls : xL) (st : List Value) (h : xH) : xog E h (xb1 g nx tg ls st h) := by
  unfold xb1
  split
  · unfold xb1t
    split
    · exact ⟨fun q hq => by rw [List.mem_singleton.mp hq]; exact xle.rf, xle.rf⟩
    · exact xle.rf
  · exact xle.rf
theorem xog_xb2 {E : xE} (g : Int32 → Int32 → Prop) (nx : Nat) (tg : List Nat) (ls : xL) (st : List Value) (h : xH) : xog E h (xb2 g nx tg ls st h) := by
  unfold xb2
  split
  · unfold xb2t
    split
    · exact ⟨fun q hq => by rw [List.mem_singleton.mp hq]; exact xle.rf, xle.rf⟩
    · exact xle.rf
  · exact xle.rf
theorem xsw_mem {ls : xL} {r : List Value} {h : xH} {x : Int32} : ∀ (ts : List Nat) (k : Int) (q : Prop × xF), q ∈ xsw ls r h x k ts → q.2.2.2.2 = h
  | [], _, _, hq => by cases hq
  | t :: ts, k, q, hq => by
    unfold xsw at hq
    rcases List.mem_cons.mp hq with rfl | hq
    · rfl
    · exact xsw_mem ts _ q hq
theorem xog_xgf {E : xE} (nx : Nat) (tg : List Nat) (ls : xL) (st : List Value) (h : xH) : xog E h (xgf E nx tg ls st h) := by
  unfold xgf
  split
  · rename_i ci k
    unfold xgft
    split
    · split
      · rename_i c2 rf ty ha hty
        cases hb : Nat.beq c2 ci <;> exact xle.rf
      · exact xle.rf
    · exact xle.rf
  · exact xle.rf
theorem xog_xpf {E : xE} (nx : Nat) (tg : List Nat) (ls : xL) (st : List Value) (h : xH) : xog E h (xpf E nx tg ls st h) := by
  unfold xpf
  split
  · rename_i ci k
    unfold xpft
    split
    · rename_i v a r
      split
      · rename_i c2 rf ty ha hty
        cases hb : Nat.beq c2 ci with
        | false => exact xle.rf
        | true =>
          have := Nat.eq_of_beq_eq_true hb
          subst this
          show xog E h (xwr nx ls _ _ h a c2 k rf ty v)
          unfold xwr
          split <;> first | exact xle.rf | exact xle_set ha
      · exact xle.rf
    · exact xle.rf
  · exact xle.rf
theorem xog_xnew {E : xE} (nx : Nat) (tg : List Nat) (ls : xL) (st : List Value) (h : xH) : xog E h (xnew E nx tg ls st h) := by
  unfold xnew
  split
  · exact xle_app
  · exact xle.rf
theorem xog_xnar {E : xE} (ty : FieldType) (nx : Nat) (ls : xL) (st : List Value) (h : xH) : xog E h (xnar ty nx ls st h) := by
  unfold xnar
  split
  · cases xoka ty
    · exact xle.rf
    · exact xle_app
  · exact xle.rf
theorem xog_xmul {E : xE} (nx : Nat) (ls : xL) (st : List Value) (h : xH) : xog E h (xmul nx ls st h) := by
  unfold xmul
  split
  · exact xle_app
  · exact xle.rf
theorem xog_xcl {E : xE} (nx : Nat) (ls : xL) (st : List Value) (h : xH) (y n : Nat) : xog E h (xcl E nx ls st h y n) := by
  unfold xcl
  split
  · rename_i av r _
    cases (Nat.ble (xcat r) 8 && Nat.ble (xflat av).length (E.1 y).2.2.1)
    · exact xle.rf
    · rfl
  · exact xle.rf
theorem xog_xclv {E : xE} (nx : Nat) (ls : xL) (st : List Value) (h : xH) (y n ci : Nat) : xog E h (xclv E nx ls st h y n ci) := by
  unfold xclv
  split
  · rename_i av r _
    cases (Nat.ble (xcat r) 8 && Nat.ble (xflat av).length (E.1 y).2.2.1 && xis E ci av h)
    · exact xle.rf
    · rfl
  · exact xle.rf
theorem xog_xmax {E : xE} (nx : Nat) (ls : xL) (st : List Value) (h : xH) : xog E h (xmax nx ls st h) := by
  unfold xmax
  split
  · cases Nat.ble _ _ <;> exact xle.rf
  · exact xle.rf
theorem xog_xmin {E : xE} (nx : Nat) (ls : xL) (st : List Value) (h : xH) : xog E h (xmin nx ls st h) := by
  unfold xmin
  split
  · cases Nat.ble _ _ <;> exact xle.rf
  · exact xle.rf
theorem xog_xobj {E : xE} (nx : Nat) (ls : xL) (st : List Value) (h : xH) : xog E h (xobj nx ls st h) := by
  unfold xobj
  split
  · cases Nat.ble _ _ <;> exact xle.rf
  · exact xle.rf
theorem xog_xtl {E : xE} (nx : Nat) (ls : xL) (st : List Value) (h : xH) : xog E h (xtl E nx ls st h) := by
  unfold xtl
  split
  · rename_i a r
    cases (Nat.ble xt0 a && Nat.ble (xcat r) 8 && Nat.ble 1 (E.2.2.1 (a - xt0))) <;> exact xle.rf
  · exact xle.rf
theorem xog_xtc {E : xE} (nx : Nat) (ls : xL) (st : List Value) (h : xH) : xog E h (xtc E nx ls st h) := by
  unfold xtc
  split
  · rename_i i a r
    cases (Nat.ble xt0 a && Nat.ble (xcat r) 8) <;> exact xle.rf
  · exact xle.rf
theorem xog_xivs {E : xE} (nx : Nat) (tg : List Nat) (ls : xL) (st : List Value) (h : xH) : xog E h (xivs E nx tg ls st h) := by
  unfold xivs
  split
  · apply xog_xcl
  · apply xog_xmax
  · apply xog_xmin
  · exact xle.rf
theorem xog_xivv {E : xE} (nx : Nat) (tg : List Nat) (ls : xL) (st : List Value) (h : xH) : xog E h (xivv E nx tg ls st h) := by
  unfold xivv
  split
  · apply xog_xclv
  · apply xog_xtl
  · apply xog_xtc
  · exact xle.rf
theorem xog_xivi {E : xE} (nx : Nat) (tg : List Nat) (ls : xL) (st : List Value) (h : xH) : xog E h (xivi E nx tg ls st h) := by
  unfold xivi
  split
  · apply xog_xclv
  · apply xog_xobj
  · exact xle.rf
theorem xog_xswt {E : xE} (lo : Int) (nx t : Nat) (ts : List Nat) (ls : xL) (st : List Value) (h : xH) : xog E h (xswt lo nx t ts ls st h) := by
  unfold xswt
  split
  · exact ⟨fun q hq => by rw [xsw_mem _ _ q hq]; exact xle.rf, xle.rf⟩
  · exact xle.rf
theorem xog_xrei {E : xE} (M : xM) (st : List Value) (h : xH) : xog E h (xrei M st h) := by
  unfold xrei
  split <;> first | rfl | exact xle.rf
theorem xog_xrel {E : xE} (M : xM) (st : List Value) (h : xH) : xog E h (xrel M st h) := by
  unfold xrel
  split <;> first | rfl | exact xle.rf
theorem xog_xref {E : xE} (M : xM) (st : List Value) (h : xH) : xog E h (xref M st h) := by
  unfold xref
  split <;> first | rfl | exact xle.rf
theorem xog_xrea {E : xE} (M : xM) (st : List Value) (h : xH) : xog E h (xrea M st h) := by
  unfold xrea
  split <;> first | rfl | exact xle.rf
theorem xog_xrev {E : xE} (M : xM) (st : List Value) (h : xH) : xog E h (xrev M st h) := by
  unfold xrev
  split <;> first | rfl | exact xle.rf
theorem xog_xdup {E : xE} (nx : Nat) (ls : xL) (st : List Value) (h : xH) : xog E h (xdup nx ls st h) := by
  unfold xdup
  split
  all_goals first | exact xle.rf | (cases (Nat.beq _ _) <;> exact xle.rf) | (cases (Nat.beq _ _ && Nat.beq _ _) <;> exact xle.rf) | (cases (Nat.beq _ _ && Nat.beq _ _ && Nat.beq _ _) <;> exact xle.rf) | (cases (Nat.beq _ _ && Nat.beq _ _) <;> first | exact xle.rf | (cases (Nat.beq _ 2) <;> exact xle.rf))
theorem xog_xpo {E : xE} (nx : Nat) (ls : xL) (st : List Value) (h : xH) : xog E h (xpo nx ls st h) := by
  unfold xpo
  split
  all_goals first | exact xle.rf | (cases (Nat.beq _ _) <;> exact xle.rf) | (cases (Nat.beq _ _ && Nat.beq _ _) <;> exact xle.rf) | (cases (Nat.beq _ _ && Nat.beq _ _ && Nat.beq _ _) <;> exact xle.rf) | (cases (Nat.beq _ _ && Nat.beq _ _) <;> first | exact xle.rf | (cases (Nat.beq _ 2) <;> exact xle.rf))
theorem xog_xdx1 {E : xE} (nx : Nat) (ls : xL) (st : List Value) (h : xH) : xog E h (xdx1 nx ls st h) := by
  unfold xdx1
  split
  all_goals first | exact xle.rf | (cases (Nat.beq _ _) <;> exact xle.rf) | (cases (Nat.beq _ _ && Nat.beq _ _) <;> exact xle.rf) | (cases (Nat.beq _ _ && Nat.beq _ _ && Nat.beq _ _) <;> exact xle.rf) | (cases (Nat.beq _ _ && Nat.beq _ _) <;> first | exact xle.rf | (cases (Nat.beq _ 2) <;> exact xle.rf))
theorem xog_xdx2 {E : xE} (nx : Nat) (ls : xL) (st : List Value) (h : xH) : xog E h (xdx2 nx ls st h) := by
  unfold xdx2
  split
  all_goals first | exact xle.rf | (cases (Nat.beq _ _) <;> exact xle.rf) | (cases (Nat.beq _ _ && Nat.beq _ _) <;> exact xle.rf) | (cases (Nat.beq _ _ && Nat.beq _ _ && Nat.beq _ _) <;> exact xle.rf) | (cases (Nat.beq _ _ && Nat.beq _ _) <;> first | exact xle.rf | (cases (Nat.beq _ 2) <;> exact xle.rf))
theorem xog_xd2 {E : xE} (nx : Nat) (ls : xL) (st : List Value) (h : xH) : xog E h (xd2 nx ls st h) := by
  unfold xd2
  split
  all_goals first | exact xle.rf | (cases (Nat.beq _ _) <;> exact xle.rf) | (cases (Nat.beq _ _ && Nat.beq _ _) <;> exact xle.rf) | (cases (Nat.beq _ _ && Nat.beq _ _ && Nat.beq _ _) <;> exact xle.rf) | (cases (Nat.beq _ _ && Nat.beq _ _) <;> first | exact xle.rf | (cases (Nat.beq _ 2) <;> exact xle.rf))
theorem xog_xd2x1 {E : xE} (nx : Nat) (ls : xL) (st : List Value) (h : xH) : xog E h (xd2x1 nx ls st h) := by
  unfold xd2x1
  split
  all_goals first | exact xle.rf | (cases (Nat.beq _ _) <;> exact xle.rf) | (cases (Nat.beq _ _ && Nat.beq _ _) <;> exact xle.rf) | (cases (Nat.beq _ _ && Nat.beq _ _ && Nat.beq _ _) <;> exact xle.rf) | (cases (Nat.beq _ _ && Nat.beq _ _) <;> first | exact xle.rf | (cases (Nat.beq _ 2) <;> exact xle.rf))
theorem xog_xins {E : xE} {M : xM} (i : Instr) (nx : Nat) (tg : List Nat) (v : Value) (ls : xL) (st : List Value) (h : xH) : xog E h (xins E M i nx tg v ls st h) := by
  unfold xins
  split
  all_goals first | exact xle.rf | apply xog_xii | apply xog_xi | apply xog_xiiD | apply xog_xll | apply xog_xl | apply xog_xli | apply xog_xff | apply xog_xf | apply xog_xfc | apply xog_xloi | apply xog_xlol | apply xog_xlof | apply xog_xloa | apply xog_xsti | apply xog_xstf | apply xog_xsta | apply xog_xstl | apply xog_xinc | apply xog_xnul | apply xog_xaldI | apply xog_xaldB | apply xog_xaldL | apply xog_xaldF | apply xog_xaldA | apply xog_xastI | apply xog_xastB | apply xog_xastL | apply xog_xastF | apply xog_xaln | apply xog_xb1 | apply xog_xb2 | apply xog_xgf | apply xog_xpf | apply xog_xnew | apply xog_xnar | apply xog_xmul | apply xog_xivs | apply xog_xivv | apply xog_xivi | apply xog_xrei | apply xog_xrel | apply xog_xref | apply xog_xrea | apply xog_xrev | apply xog_xdup | apply xog_xpo | apply xog_xdx1 | apply xog_xdx2 | apply xog_xd2x1 | apply xog_xd2 | (split <;> first | exact xle.rf | apply xog_xnul | apply xog_xswt)
theorem xog_xstep {E : xE} {M : xM} (f : xF) : xog E f.2.2.2 (xstep E M f) := by
  unfold xstep
  split
  · exact xle.rf
  · exact xog_xins _ _ _ _ _ _ _
theorem xdl_le {E : xE} {h : xH} {rn : xF → Prop} {P : Prop} (H : ∀ f, rn f → xle E h f.2.2.2 → P) : ∀ (cs : List (Prop × xF)) (g : xF), (∀ q ∈ cs, xle E h q.2.2.2.2) → xle E h g.2.2.2 → xdl rn cs g → P
  | [], g, _, hg, k => H g k hg
  | (c, g1) :: t, g, hc, hg, k => by
    by_cases z : c
    · exact H g1 (k.1 z) (hc _ List.mem_cons_self)
    · exact xdl_le H t g (fun q hq => hc q (List.mem_cons_of_mem _ hq)) hg (k.2 z)
/-- at its end a method has at least the cells that were there -/
theorem xr_len {E : xE} : ∀ (n d : Nat) (M : xM) (f : xF) (v : Option Value) (h' : xH), xr E n d M f (fun v2 h2 => v2 = v ∧ h2 = h') → xle E f.2.2.2 h'
  | 0, _, _, _, _, _, k => k.elim
  | n + 1, d, M, f, v, h', k => by
    have k1 : xwo E (xr E n) (xr E n d M) d (fun v2 h2 => v2 = v ∧ h2 = h') (xstep E M f) := k
    have g := xog_xstep (E := E) (M := M) f
    generalize xstep E M f = o at k1 g
    unfold xwo at k1
    split at k1
    · exact xle.tr g (xr_len n _ _ _ _ _ k1)
    · exact xle.tr g (xr_len n _ _ _ _ _ k1.2)
    · exact xdl_le (fun f9 k9 g9 => xle.tr g9 (xr_len n _ _ _ _ _ k9)) _ _ g.1 g.2 k1
    · split at k1
      · exact k1.elim
      · rename_i y av pc ls st h2 _ d2
        have g : h2 = f.2.2.2 := g
        obtain ⟨v9, h9, hq, hrun⟩ := xr_det n _ _ _ _ k1
        have a1 := xr_len n _ _ _ _ _ hrun
        have a2 := xr_len n _ _ _ _ _ hq
        rw [← g]
        exact xle.tr a1 a2
    · obtain ⟨_, -, e⟩ := k1
      have g : _ = f.2.2.2 := g
      rw [← g, e]
      exact xle.rf
