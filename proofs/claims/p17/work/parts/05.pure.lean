/-- a state of the machine that belongs to a frame on paper -/
def xRel (E : xE) (ad : Nat → Nat) (cA : FieldType → ClassId) (D : va_G) (cl : List vw_C) (A : Nat → Prop) (r0 : Nat → Option Nat) (s : State) (nL : Nat) (f : xF) (ws : va_W) (H : Heap) (locs : List Loc) (lsC : Array Slot) (stC : List Value) : Prop :=
  (xW E ad cA f.2.2.2 ws ∧ xmon r0 (xa ad ws)) ∧ va_P D cl ws H ∧ va_D A ws ∧ va_S A s.heap H locs ∧ xls (xa ad ws) f.2.1 lsC nL ∧ xva (xa ad ws) f.2.2.1 stC
/-- every state that belongs to this frame goes on to its end -/
def xG (p : Program) (l : Launch) (e : Env) (R : Room) (s : State) (m : MethodId) (args : Array Value) (below : List Frame) (meth : Method) (c : Code) (Q : State → Prop) (E : xE) (ad : Nat → Nat) (cA : FieldType → ClassId) (D : va_G) (cl : List vw_C) (A : Nat → Prop) (r0 : Nat → Option Nat) (nL mc ms fin finS : Nat) (g : xF) : Prop :=
  ∀ (cells slots : Nat) (ws : va_W) (H : Heap) (locs : List Loc) (lsC : Array Slot) (stC : List Value), cells + fin ≤ mc + g.2.2.2.1.length → slots + finS ≤ ms + xsz E g.2.2.2.1 → xRel E ad cA D cl A r0 s nL g ws H locs lsC stC → W p l e R s m args below meth c H locs cells slots Q (F0 m g.1 lsC stC)
section XSO
variable {p : Program} {l : Launch} {e : Env} {R : Room} {s : State} {m : MethodId} {args : Array Value} {below : List Frame} {meth : Method} {c : Code} {Q : State → Prop}
variable {E : xE} {ad : Nat → Nat} {cA : FieldType → ClassId} {D : va_G} {cl : List vw_C} {A : Nat → Prop} {r0 : Nat → Option Nat} {nL mc ms fin finS : Nat}
variable {rc : Nat → xM → xF → xP → Prop} {rn : xF → xP → Prop} {d : Nat} {Q0 : xP} {pc nx : Nat} {ls : xL} {st : List Value} {h : xH}
theorem so_ii (hN : ∀ f, rn f Q0 → xG p l e R s m args below meth c Q E ad cA D cl A r0 nL mc ms fin finS f) {g : Int32 → Int32 → Int32} (row : ∀ (H : Heap) (locs : List Loc) (cells slots : Nat) (lsC : Array Slot) (rest : List Value) (x : Int32) (y : Int32), W p l e R s m args below meth c H locs cells slots Q (F0 m nx lsC (.int (g x y) :: rest)) → W p l e R s m args below meth c H locs cells slots Q (F0 m pc lsC (.int y :: .int x :: rest))) (k : xwo E rc rn d Q0 (xii g nx ls st h)) : xG p l e R s m args below meth c Q E ad cA D cl A r0 nL mc ms fin finS (pc, ls, st, h) := by
  unfold xii at k
  split at k
  · rename_i y x r
    intro cells slots ws H locs lsC stC h1 h2 hr
    obtain ⟨hW, hP, hD, hS, hl, hst⟩ := hr
    obtain ⟨_, _, rfl, rfl, _, _, rfl, rfl, hst⟩ := hst
    exact row _ _ _ _ _ _ _ _ (hN _ k cells slots ws H locs lsC _ h1 h2 ⟨hW, hP, hD, hS, hl, ⟨_, _, rfl, rfl, hst⟩⟩)
  · exact k.1.elim
theorem so_iiD (hN : ∀ f, rn f Q0 → xG p l e R s m args below meth c Q E ad cA D cl A r0 nL mc ms fin finS f) {g : Int32 → Int32 → Int32} (row : ∀ (H : Heap) (locs : List Loc) (cells slots : Nat) (lsC : Array Slot) (rest : List Value) (x : Int32) (y : Int32), ¬ y = 0 → W p l e R s m args below meth c H locs cells slots Q (F0 m nx lsC (.int (g x y) :: rest)) → W p l e R s m args below meth c H locs cells slots Q (F0 m pc lsC (.int y :: .int x :: rest))) (k : xwo E rc rn d Q0 (xiiD g nx ls st h)) : xG p l e R s m args below meth c Q E ad cA D cl A r0 nL mc ms fin finS (pc, ls, st, h) := by
  unfold xiiD at k
  split at k
  · rename_i y x r
    intro cells slots ws H locs lsC stC h1 h2 hr
    obtain ⟨hW, hP, hD, hS, hl, hst⟩ := hr
    obtain ⟨_, _, rfl, rfl, _, _, rfl, rfl, hst⟩ := hst
    exact row _ _ _ _ _ _ _ _ k.1 (hN _ k.2 cells slots ws H locs lsC _ h1 h2 ⟨hW, hP, hD, hS, hl, ⟨_, _, rfl, rfl, hst⟩⟩)
  · exact k.1.elim
theorem so_li (hN : ∀ f, rn f Q0 → xG p l e R s m args below meth c Q E ad cA D cl A r0 nL mc ms fin finS f) {g : Int64 → Int32 → Int64} (row : ∀ (H : Heap) (locs : List Loc) (cells slots : Nat) (lsC : Array Slot) (rest : List Value) (x : Int64) (y : Int32), W p l e R s m args below meth c H locs cells slots Q (F0 m nx lsC (.long (g x y) :: rest)) → W p l e R s m args below meth c H locs cells slots Q (F0 m pc lsC (.int y :: .long x :: rest))) (k : xwo E rc rn d Q0 (xli g nx ls st h)) : xG p l e R s m args below meth c Q E ad cA D cl A r0 nL mc ms fin finS (pc, ls, st, h) := by
  unfold xli at k
  split at k
  · rename_i y x r
    intro cells slots ws H locs lsC stC h1 h2 hr
    obtain ⟨hW, hP, hD, hS, hl, hst⟩ := hr
    obtain ⟨_, _, rfl, rfl, _, _, rfl, rfl, hst⟩ := hst
    exact row _ _ _ _ _ _ _ _ (hN _ k cells slots ws H locs lsC _ h1 h2 ⟨hW, hP, hD, hS, hl, ⟨_, _, rfl, rfl, hst⟩⟩)
  · exact k.1.elim
theorem so_ff (hN : ∀ f, rn f Q0 → xG p l e R s m args below meth c Q E ad cA D cl A r0 nL mc ms fin finS f) {g : UInt32 → UInt32 → UInt32} (row : ∀ (H : Heap) (locs : List Loc) (cells slots : Nat) (lsC : Array Slot) (rest : List Value) (x : UInt32) (y : UInt32), vf_n32 (g x y) → W p l e R s m args below meth c H locs cells slots Q (F0 m nx lsC (.float (g x y) :: rest)) → W p l e R s m args below meth c H locs cells slots Q (F0 m pc lsC (.float y :: .float x :: rest))) (k : xwo E rc rn d Q0 (xff g nx ls st h)) : xG p l e R s m args below meth c Q E ad cA D cl A r0 nL mc ms fin finS (pc, ls, st, h) := by
  unfold xff at k
  split at k
  · rename_i y x r
    intro cells slots ws H locs lsC stC h1 h2 hr
    obtain ⟨hW, hP, hD, hS, hl, hst⟩ := hr
    obtain ⟨_, _, rfl, rfl, _, _, rfl, rfl, hst⟩ := hst
    exact row _ _ _ _ _ _ _ _ k.1 (hN _ k.2 cells slots ws H locs lsC _ h1 h2 ⟨hW, hP, hD, hS, hl, ⟨_, _, rfl, rfl, hst⟩⟩)
  · exact k.1.elim
theorem so_i (hN : ∀ f, rn f Q0 → xG p l e R s m args below meth c Q E ad cA D cl A r0 nL mc ms fin finS f) {g : Int32 → Value} (hg : ∀ x (r : Nat → Option Nat), xv r (g x) (g x)) (row : ∀ (H : Heap) (locs : List Loc) (cells slots : Nat) (lsC : Array Slot) (rest : List Value) (x : Int32), W p l e R s m args below meth c H locs cells slots Q (F0 m nx lsC (g x :: rest)) → W p l e R s m args below meth c H locs cells slots Q (F0 m pc lsC (.int x :: rest))) (k : xwo E rc rn d Q0 (xi g nx ls st h)) : xG p l e R s m args below meth c Q E ad cA D cl A r0 nL mc ms fin finS (pc, ls, st, h) := by
  unfold xi at k
  split at k
  · rename_i x r
    intro cells slots ws H locs lsC stC h1 h2 hr
    obtain ⟨hW, hP, hD, hS, hl, hst⟩ := hr
    obtain ⟨_, _, rfl, rfl, hst⟩ := hst
    exact row _ _ _ _ _ _ _ (hN _ k cells slots ws H locs lsC _ h1 h2 ⟨hW, hP, hD, hS, hl, ⟨_, _, rfl, hg _ _, hst⟩⟩)
  · exact k.1.elim
theorem so_ll (hN : ∀ f, rn f Q0 → xG p l e R s m args below meth c Q E ad cA D cl A r0 nL mc ms fin finS f) {g : Int64 → Int64 → Value} (hg : ∀ x y (r : Nat → Option Nat), xv r (g x y) (g x y)) (row : ∀ (H : Heap) (locs : List Loc) (cells slots : Nat) (lsC : Array Slot) (rest : List Value) (x : Int64) (y : Int64), W p l e R s m args below meth c H locs cells slots Q (F0 m nx lsC (g x y :: rest)) → W p l e R s m args below meth c H locs cells slots Q (F0 m pc lsC (.long y :: .long x :: rest))) (k : xwo E rc rn d Q0 (xll g nx ls st h)) : xG p l e R s m args below meth c Q E ad cA D cl A r0 nL mc ms fin finS (pc, ls, st, h) := by
  unfold xll at k
  split at k
  · rename_i y x r
    intro cells slots ws H locs lsC stC h1 h2 hr
    obtain ⟨hW, hP, hD, hS, hl, hst⟩ := hr
    obtain ⟨_, _, rfl, rfl, _, _, rfl, rfl, hst⟩ := hst
    exact row _ _ _ _ _ _ _ _ (hN _ k cells slots ws H locs lsC _ h1 h2 ⟨hW, hP, hD, hS, hl, ⟨_, _, rfl, hg _ _ _, hst⟩⟩)
  · exact k.1.elim
theorem so_l (hN : ∀ f, rn f Q0 → xG p l e R s m args below meth c Q E ad cA D cl A r0 nL mc ms fin finS f) {g : Int64 → Value} (hg : ∀ x (r : Nat → Option Nat), xv r (g x) (g x)) (row : ∀ (H : Heap) (locs : List Loc) (cells slots : Nat) (lsC : Array Slot) (rest : List Value) (x : Int64), W p l e R s m args below meth c H locs cells slots Q (F0 m nx lsC (g x :: rest)) → W p l e R s m args below meth c H locs cells slots Q (F0 m pc lsC (.long x :: rest))) (k : xwo E rc rn d Q0 (xl g nx ls st h)) : xG p l e R s m args below meth c Q E ad cA D cl A r0 nL mc ms fin finS (pc, ls, st, h) := by
  unfold xl at k
  split at k
  · rename_i x r
    intro cells slots ws H locs lsC stC h1 h2 hr
    obtain ⟨hW, hP, hD, hS, hl, hst⟩ := hr
    obtain ⟨_, _, rfl, rfl, hst⟩ := hst
    exact row _ _ _ _ _ _ _ (hN _ k cells slots ws H locs lsC _ h1 h2 ⟨hW, hP, hD, hS, hl, ⟨_, _, rfl, hg _ _, hst⟩⟩)
  · exact k.1.elim
theorem so_f (hN : ∀ f, rn f Q0 → xG p l e R s m args below meth c Q E ad cA D cl A r0 nL mc ms fin finS f) {g : UInt32 → Value} (hg : ∀ x (r : Nat → Option Nat), xv r (g x) (g x)) (row : ∀ (H : Heap) (locs : List Loc) (cells slots : Nat) (lsC : Array Slot) (rest : List Value) (x : UInt32), W p l e R s m args below meth c H locs cells slots Q (F0 m nx lsC (g x :: rest)) → W p l e R s m args below meth c H locs cells slots Q (F0 m pc lsC (.float x :: rest))) (k : xwo E rc rn d Q0 (xf g nx ls st h)) : xG p l e R s m args below meth c Q E ad cA D cl A r0 nL mc ms fin finS (pc, ls, st, h) := by
  unfold xf at k
  split at k
  · rename_i x r
    intro cells slots ws H locs lsC stC h1 h2 hr
    obtain ⟨hW, hP, hD, hS, hl, hst⟩ := hr
    obtain ⟨_, _, rfl, rfl, hst⟩ := hst
    exact row _ _ _ _ _ _ _ (hN _ k cells slots ws H locs lsC _ h1 h2 ⟨hW, hP, hD, hS, hl, ⟨_, _, rfl, hg _ _, hst⟩⟩)
  · exact k.1.elim
theorem so_fc (hN : ∀ f, rn f Q0 → xG p l e R s m args below meth c Q E ad cA D cl A r0 nL mc ms fin finS f) {op : CmpOp} (row : ∀ (H : Heap) (locs : List Loc) (cells slots : Nat) (lsC : Array Slot) (rest : List Value) (x y : UInt32), W p l e R s m args below meth c H locs cells slots Q (F0 m nx lsC (.int (Op.cmpValue (FP.fcmp x y) op) :: rest)) → W p l e R s m args below meth c H locs cells slots Q (F0 m pc lsC (.float y :: .float x :: rest))) (k : xwo E rc rn d Q0 (xfc op nx ls st h)) : xG p l e R s m args below meth c Q E ad cA D cl A r0 nL mc ms fin finS (pc, ls, st, h) := by
  unfold xfc at k
  split at k
  · rename_i y x r
    intro cells slots ws H locs lsC stC h1 h2 hr
    obtain ⟨hW, hP, hD, hS, hl, hst⟩ := hr
    obtain ⟨_, _, rfl, rfl, _, _, rfl, rfl, hst⟩ := hst
    exact row _ _ _ _ _ _ _ _ (hN _ k cells slots ws H locs lsC _ h1 h2 ⟨hW, hP, hD, hS, hl, ⟨_, _, rfl, rfl, hst⟩⟩)
  · exact k.1.elim
theorem so_push (hN : ∀ f, rn f Q0 → xG p l e R s m args below meth c Q E ad cA D cl A r0 nL mc ms fin finS f) {v : Value} (hv : ∀ ws : va_W, ∃ w, xv (xa ad ws) v w ∧ ∀ (H : Heap) (locs : List Loc) (cells slots : Nat) (lsC : Array Slot) (rest : List Value), W p l e R s m args below meth c H locs cells slots Q (F0 m nx lsC (w :: rest)) → W p l e R s m args below meth c H locs cells slots Q (F0 m pc lsC rest)) (k : xwo E rc rn d Q0 (.inl (nx, ls, v :: st, h))) : xG p l e R s m args below meth c Q E ad cA D cl A r0 nL mc ms fin finS (pc, ls, st, h) := by
  intro cells slots ws H locs lsC stC h1 h2 hr
  obtain ⟨hW, hP, hD, hS, hl, hst⟩ := hr
  obtain ⟨w, hv1, row⟩ := hv ws
  exact row _ _ _ _ _ _ (hN _ k cells slots ws H locs lsC _ h1 h2 ⟨hW, hP, hD, hS, hl, ⟨_, _, rfl, hv1, hst⟩⟩)
theorem so_loi (hN : ∀ f, rn f Q0 → xG p l e R s m args below meth c Q E ad cA D cl A r0 nL mc ms fin finS f) {i : Nat} (row : ∀ (H : Heap) (locs : List Loc) (cells slots : Nat) (lsC : Array Slot) (rest : List Value) (x : Int32), lsC[i]? = some (.val (.int x)) → W p l e R s m args below meth c H locs cells slots Q (F0 m nx lsC (.int x :: rest)) → W p l e R s m args below meth c H locs cells slots Q (F0 m pc lsC rest)) (k : xwo E rc rn d Q0 (xloi i nx ls st h)) : xG p l e R s m args below meth c Q E ad cA D cl A r0 nL mc ms fin finS (pc, ls, st, h) := by
  unfold xloi at k
  split at k
  · rename_i x hx
    intro cells slots ws H locs lsC stC h1 h2 hr
    obtain ⟨hW, hP, hD, hS, hl, hst⟩ := hr
    obtain ⟨_, e1, rfl⟩ := hl.2.2.2 i _ hx
    exact row _ _ _ _ _ _ _ e1 (hN _ k cells slots ws H locs lsC _ h1 h2 ⟨hW, hP, hD, hS, hl, ⟨_, _, rfl, rfl, hst⟩⟩)
  · exact k.1.elim
theorem so_lol (hN : ∀ f, rn f Q0 → xG p l e R s m args below meth c Q E ad cA D cl A r0 nL mc ms fin finS f) {i : Nat} (row : ∀ (H : Heap) (locs : List Loc) (cells slots : Nat) (lsC : Array Slot) (rest : List Value) (x : Int64), lsC[i]? = some (.val (.long x)) → W p l e R s m args below meth c H locs cells slots Q (F0 m nx lsC (.long x :: rest)) → W p l e R s m args below meth c H locs cells slots Q (F0 m pc lsC rest)) (k : xwo E rc rn d Q0 (xlol i nx ls st h)) : xG p l e R s m args below meth c Q E ad cA D cl A r0 nL mc ms fin finS (pc, ls, st, h) := by
  unfold xlol at k
  split at k
  · rename_i x hx
    intro cells slots ws H locs lsC stC h1 h2 hr
    obtain ⟨hW, hP, hD, hS, hl, hst⟩ := hr
    obtain ⟨_, e1, rfl⟩ := hl.2.2.2 i _ hx
    exact row _ _ _ _ _ _ _ e1 (hN _ k cells slots ws H locs lsC _ h1 h2 ⟨hW, hP, hD, hS, hl, ⟨_, _, rfl, rfl, hst⟩⟩)
  · exact k.1.elim
theorem so_lof (hN : ∀ f, rn f Q0 → xG p l e R s m args below meth c Q E ad cA D cl A r0 nL mc ms fin finS f) {i : Nat} (row : ∀ (H : Heap) (locs : List Loc) (cells slots : Nat) (lsC : Array Slot) (rest : List Value) (x : UInt32), lsC[i]? = some (.val (.float x)) → W p l e R s m args below meth c H locs cells slots Q (F0 m nx lsC (.float x :: rest)) → W p l e R s m args below meth c H locs cells slots Q (F0 m pc lsC rest)) (k : xwo E rc rn d Q0 (xlof i nx ls st h)) : xG p l e R s m args below meth c Q E ad cA D cl A r0 nL mc ms fin finS (pc, ls, st, h) := by
  unfold xlof at k
  split at k
  · rename_i x hx
    intro cells slots ws H locs lsC stC h1 h2 hr
    obtain ⟨hW, hP, hD, hS, hl, hst⟩ := hr
    obtain ⟨_, e1, rfl⟩ := hl.2.2.2 i _ hx
    exact row _ _ _ _ _ _ _ e1 (hN _ k cells slots ws H locs lsC _ h1 h2 ⟨hW, hP, hD, hS, hl, ⟨_, _, rfl, rfl, hst⟩⟩)
  · exact k.1.elim
theorem so_loa (hN : ∀ f, rn f Q0 → xG p l e R s m args below meth c Q E ad cA D cl A r0 nL mc ms fin finS f) {i : Nat} (row : ∀ (H : Heap) (locs : List Loc) (cells slots : Nat) (lsC : Array Slot) (rest : List Value) (x : Nat), lsC[i]? = some (.val (.ref x)) → W p l e R s m args below meth c H locs cells slots Q (F0 m nx lsC (.ref x :: rest)) → W p l e R s m args below meth c H locs cells slots Q (F0 m pc lsC rest)) (row2 : ∀ (H : Heap) (locs : List Loc) (cells slots : Nat) (lsC : Array Slot) (rest : List Value), lsC[i]? = some (.val .null) → W p l e R s m args below meth c H locs cells slots Q (F0 m nx lsC (.null :: rest)) → W p l e R s m args below meth c H locs cells slots Q (F0 m pc lsC rest)) (k : xwo E rc rn d Q0 (xloa i nx ls st h)) : xG p l e R s m args below meth c Q E ad cA D cl A r0 nL mc ms fin finS (pc, ls, st, h) := by
  unfold xloa at k
  split at k
  · rename_i x hx
    intro cells slots ws H locs lsC stC h1 h2 hr
    obtain ⟨hW, hP, hD, hS, hl, hst⟩ := hr
    obtain ⟨_, e1, a, e2, rfl⟩ := hl.2.2.2 i _ hx
    exact row _ _ _ _ _ _ _ e1 (hN _ k cells slots ws H locs lsC _ h1 h2 ⟨hW, hP, hD, hS, hl, ⟨_, _, rfl, ⟨a, e2, rfl⟩, hst⟩⟩)
  · rename_i hx
    intro cells slots ws H locs lsC stC h1 h2 hr
    obtain ⟨hW, hP, hD, hS, hl, hst⟩ := hr
    obtain ⟨_, e1, rfl⟩ := hl.2.2.2 i _ hx
    exact row2 _ _ _ _ _ _ e1 (hN _ k cells slots ws H locs lsC _ h1 h2 ⟨hW, hP, hD, hS, hl, ⟨_, _, rfl, rfl, hst⟩⟩)
  · exact k.1.elim
theorem so_sti (hN : ∀ f, rn f Q0 → xG p l e R s m args below meth c Q E ad cA D cl A r0 nL mc ms fin finS f) {i : Nat} (row : ∀ (H : Heap) (locs : List Loc) (cells slots : Nat) (lsC : Array Slot) (rest : List Value) (x : Int32), lv_has lsC nL (xall lsC) → i < nL → (∀ ls2 : Array Slot, lv_has ls2 nL ((i, Value.int x) :: (xall lsC).filter (fun q => !(q.1 == i) && !(q.1 + 1 == i && q.2.category == 2))) → W p l e R s m args below meth c H locs cells slots Q (F0 m nx ls2 rest)) → W p l e R s m args below meth c H locs cells slots Q (F0 m pc lsC (.int x :: rest))) (k : xwo E rc rn d Q0 (xsti i nx ls st h)) : xG p l e R s m args below meth c Q E ad cA D cl A r0 nL mc ms fin finS (pc, ls, st, h) := by
  unfold xsti at k
  split at k
  · rename_i x r
    split at k
    · rename_i l2 hp
      intro cells slots ws H locs lsC stC h1 h2 hr
      obtain ⟨hW, hP, hD, hS, hl, hst⟩ := hr
      obtain ⟨_, _, rfl, rfl, hst⟩ := hst
      refine row _ _ _ _ _ _ _ (xls_has hl) (by have := xput_lt hp; have h5 : ls.length = nL := hl.2.1; omega) (fun ls2 h9 => ?_)
      exact hN _ k cells slots ws H locs ls2 _ h1 h2 ⟨hW, hP, hD, hS, (xls_put hl hp rfl h9).1, hst⟩
    · exact k.1.elim
  · exact k.1.elim
theorem so_stf (hN : ∀ f, rn f Q0 → xG p l e R s m args below meth c Q E ad cA D cl A r0 nL mc ms fin finS f) {i : Nat} (row : ∀ (H : Heap) (locs : List Loc) (cells slots : Nat) (lsC : Array Slot) (rest : List Value) (x : UInt32), lv_has lsC nL (xall lsC) → i < nL → (∀ ls2 : Array Slot, lv_has ls2 nL ((i, Value.float x) :: (xall lsC).filter (fun q => !(q.1 == i) && !(q.1 + 1 == i && q.2.category == 2))) → W p l e R s m args below meth c H locs cells slots Q (F0 m nx ls2 rest)) → W p l e R s m args below meth c H locs cells slots Q (F0 m pc lsC (.float x :: rest))) (k : xwo E rc rn d Q0 (xstf i nx ls st h)) : xG p l e R s m args below meth c Q E ad cA D cl A r0 nL mc ms fin finS (pc, ls, st, h) := by
  unfold xstf at k
  split at k
  · rename_i x r
    split at k
    · rename_i l2 hp
      intro cells slots ws H locs lsC stC h1 h2 hr
      obtain ⟨hW, hP, hD, hS, hl, hst⟩ := hr
      obtain ⟨_, _, rfl, rfl, hst⟩ := hst
      refine row _ _ _ _ _ _ _ (xls_has hl) (by have := xput_lt hp; have h5 : ls.length = nL := hl.2.1; omega) (fun ls2 h9 => ?_)
      exact hN _ k cells slots ws H locs ls2 _ h1 h2 ⟨hW, hP, hD, hS, (xls_put hl hp rfl h9).1, hst⟩
    · exact k.1.elim
  · exact k.1.elim
theorem so_stl (hN : ∀ f, rn f Q0 → xG p l e R s m args below meth c Q E ad cA D cl A r0 nL mc ms fin finS f) {i : Nat} (row : ∀ (H : Heap) (locs : List Loc) (cells slots : Nat) (lsC : Array Slot) (rest : List Value) (x : Int64), lv_has lsC nL (xall lsC) → i + 1 < nL → (∀ ls2 : Array Slot, lv_has ls2 nL ((i, Value.long x) :: (xall lsC).filter (fun q => !(q.1 == i) && (!(q.1 == i + 1) && !(q.1 + 1 == i && q.2.category == 2)))) → W p l e R s m args below meth c H locs cells slots Q (F0 m nx ls2 rest)) → W p l e R s m args below meth c H locs cells slots Q (F0 m pc lsC (.long x :: rest))) (k : xwo E rc rn d Q0 (xstl i nx ls st h)) : xG p l e R s m args below meth c Q E ad cA D cl A r0 nL mc ms fin finS (pc, ls, st, h) := by
  unfold xstl at k
  split at k
  · rename_i x r
    split at k
    · rename_i l2 hp
      intro cells slots ws H locs lsC stC h1 h2 hr
      obtain ⟨hW, hP, hD, hS, hl, hst⟩ := hr
      obtain ⟨_, _, rfl, rfl, hst⟩ := hst
      refine row _ _ _ _ _ _ _ (xls_has hl) (by have := xput2_lt hp; have h5 : ls.length = nL := hl.2.1; omega) (fun ls2 h9 => ?_)
      exact hN _ k cells slots ws H locs ls2 _ h1 h2 ⟨hW, hP, hD, hS, (xls_put2 hl hp rfl h9), hst⟩
    · exact k.1.elim
  · exact k.1.elim
theorem so_sta (hN : ∀ f, rn f Q0 → xG p l e R s m args below meth c Q E ad cA D cl A r0 nL mc ms fin finS f) {i : Nat} (row : ∀ (H : Heap) (locs : List Loc) (cells slots : Nat) (lsC : Array Slot) (rest : List Value) (x : Nat), lv_has lsC nL (xall lsC) → i < nL → (∀ ls2 : Array Slot, lv_has ls2 nL ((i, Value.ref x) :: (xall lsC).filter (fun q => !(q.1 == i) && !(q.1 + 1 == i && q.2.category == 2))) → W p l e R s m args below meth c H locs cells slots Q (F0 m nx ls2 rest)) → W p l e R s m args below meth c H locs cells slots Q (F0 m pc lsC (.ref x :: rest))) (row2 : ∀ (H : Heap) (locs : List Loc) (cells slots : Nat) (lsC : Array Slot) (rest : List Value), lv_has lsC nL (xall lsC) → i < nL → (∀ ls2 : Array Slot, lv_has ls2 nL ((i, Value.null) :: (xall lsC).filter (fun q => !(q.1 == i) && !(q.1 + 1 == i && q.2.category == 2))) → W p l e R s m args below meth c H locs cells slots Q (F0 m nx ls2 rest)) → W p l e R s m args below meth c H locs cells slots Q (F0 m pc lsC (.null :: rest))) (k : xwo E rc rn d Q0 (xsta i nx ls st h)) : xG p l e R s m args below meth c Q E ad cA D cl A r0 nL mc ms fin finS (pc, ls, st, h) := by
  unfold xsta at k
  split at k
  · rename_i x r
    split at k
    · rename_i l2 hp
      intro cells slots ws H locs lsC stC h1 h2 hr
      obtain ⟨hW, hP, hD, hS, hl, hst⟩ := hr
      obtain ⟨_, _, rfl, ⟨a, e2, rfl⟩, hst⟩ := hst
      refine row _ _ _ _ _ _ _ (xls_has hl) (by have := xput_lt hp; have h5 : ls.length = nL := hl.2.1; omega) (fun ls2 h9 => ?_)
      exact hN _ k cells slots ws H locs ls2 _ h1 h2 ⟨hW, hP, hD, hS, (xls_put hl hp ⟨a, e2, rfl⟩ h9).1, hst⟩
    · exact k.1.elim
  · rename_i r
    split at k
    · rename_i l2 hp
      intro cells slots ws H locs lsC stC h1 h2 hr
      obtain ⟨hW, hP, hD, hS, hl, hst⟩ := hr
      obtain ⟨_, _, rfl, rfl, hst⟩ := hst
      refine row2 _ _ _ _ _ _ (xls_has hl) (by have := xput_lt hp; have h5 : ls.length = nL := hl.2.1; omega) (fun ls2 h9 => ?_)
      exact hN _ k cells slots ws H locs ls2 _ h1 h2 ⟨hW, hP, hD, hS, (xls_put hl hp rfl h9).1, hst⟩
    · exact k.1.elim
  · exact k.1.elim
theorem so_inc (hN : ∀ f, rn f Q0 → xG p l e R s m args below meth c Q E ad cA D cl A r0 nL mc ms fin finS f) {i : Nat} {z : Int32} (row : ∀ (H : Heap) (locs : List Loc) (cells slots : Nat) (lsC : Array Slot) (rest : List Value) (x : Int32), lv_has lsC nL (xall lsC) → lsC[i]? = some (.val (.int x)) → i < nL → (∀ ls2 : Array Slot, lv_has ls2 nL ((i, Value.int (x + z)) :: (xall lsC).filter (fun q => !(q.1 == i) && !(q.1 + 1 == i && q.2.category == 2))) → W p l e R s m args below meth c H locs cells slots Q (F0 m nx ls2 rest)) → W p l e R s m args below meth c H locs cells slots Q (F0 m pc lsC rest)) (k : xwo E rc rn d Q0 (xinc i (.int z) nx ls st h)) : xG p l e R s m args below meth c Q E ad cA D cl A r0 nL mc ms fin finS (pc, ls, st, h) := by
  unfold xinc at k
  split at k
  · rename_i x z2 hx hz
    cases hz
    split at k
    · rename_i l2 hp
      intro cells slots ws H locs lsC stC h1 h2 hr
      obtain ⟨hW, hP, hD, hS, hl, hst⟩ := hr
      obtain ⟨_, e1, rfl⟩ := hl.2.2.2 i _ hx
      refine row _ _ _ _ _ _ _ (xls_has hl) e1 (by have := xput_lt hp; have h5 : ls.length = nL := hl.2.1; omega) (fun ls2 h9 => ?_)
      exact hN _ k cells slots ws H locs ls2 _ h1 h2 ⟨hW, hP, hD, hS, (xls_put hl hp rfl h9).1, hst⟩
    · exact k.1.elim
  · exact k.1.elim
theorem so_b1 (hN : ∀ f, rn f Q0 → xG p l e R s m args below meth c Q E ad cA D cl A r0 nL mc ms fin finS f) {g : Int32 → Prop} {t : Nat} (row : ∀ (H : Heap) (locs : List Loc) (cells slots : Nat) (lsC : Array Slot) (rest : List Value) (x : Int32), (g x → W p l e R s m args below meth c H locs cells slots Q (F0 m t lsC rest)) → (¬ g x → W p l e R s m args below meth c H locs cells slots Q (F0 m nx lsC rest)) → W p l e R s m args below meth c H locs cells slots Q (F0 m pc lsC (.int x :: rest))) (k : xwo E rc rn d Q0 (xb1 g nx [t] ls st h)) : xG p l e R s m args below meth c Q E ad cA D cl A r0 nL mc ms fin finS (pc, ls, st, h) := by
  replace k : xwo E rc rn d Q0 (xb1t g nx t ls st h) := k
  unfold xb1t at k
  split at k
  · rename_i x r
    intro cells slots ws H locs lsC stC h1 h2 hr
    obtain ⟨hW, hP, hD, hS, hl, hst⟩ := hr
    obtain ⟨_, _, rfl, rfl, hst⟩ := hst
    exact row _ _ _ _ _ _ _ (fun c => hN _ (k.1 c) cells slots ws H locs lsC _ h1 h2 ⟨hW, hP, hD, hS, hl, hst⟩) (fun c => hN _ (k.2 c) cells slots ws H locs lsC _ h1 h2 ⟨hW, hP, hD, hS, hl, hst⟩)
  · exact k.1.elim
theorem so_b2 (hN : ∀ f, rn f Q0 → xG p l e R s m args below meth c Q E ad cA D cl A r0 nL mc ms fin finS f) {g : Int32 → Int32 → Prop} {t : Nat} (row : ∀ (H : Heap) (locs : List Loc) (cells slots : Nat) (lsC : Array Slot) (rest : List Value) (x y : Int32), (g x y → W p l e R s m args below meth c H locs cells slots Q (F0 m t lsC rest)) → (¬ g x y → W p l e R s m args below meth c H locs cells slots Q (F0 m nx lsC rest)) → W p l e R s m args below meth c H locs cells slots Q (F0 m pc lsC (.int y :: .int x :: rest))) (k : xwo E rc rn d Q0 (xb2 g nx [t] ls st h)) : xG p l e R s m args below meth c Q E ad cA D cl A r0 nL mc ms fin finS (pc, ls, st, h) := by
  replace k : xwo E rc rn d Q0 (xb2t g nx t ls st h) := k
  unfold xb2t at k
  split at k
  · rename_i y x r
    intro cells slots ws H locs lsC stC h1 h2 hr
    obtain ⟨hW, hP, hD, hS, hl, hst⟩ := hr
    obtain ⟨_, _, rfl, rfl, _, _, rfl, rfl, hst⟩ := hst
    exact row _ _ _ _ _ _ _ _ (fun c => hN _ (k.1 c) cells slots ws H locs lsC _ h1 h2 ⟨hW, hP, hD, hS, hl, hst⟩) (fun c => hN _ (k.2 c) cells slots ws H locs lsC _ h1 h2 ⟨hW, hP, hD, hS, hl, hst⟩)
  · exact k.1.elim
theorem so_nul (hN : ∀ f, rn f Q0 → xG p l e R s m args below meth c Q E ad cA D cl A r0 nL mc ms fin finS f) {a b : Nat} (row : ∀ (H : Heap) (locs : List Loc) (cells slots : Nat) (lsC : Array Slot) (rest : List Value), W p l e R s m args below meth c H locs cells slots Q (F0 m a lsC rest) → W p l e R s m args below meth c H locs cells slots Q (F0 m pc lsC (.null :: rest))) (row2 : ∀ (H : Heap) (locs : List Loc) (cells slots : Nat) (lsC : Array Slot) (rest : List Value) (x : Nat), W p l e R s m args below meth c H locs cells slots Q (F0 m b lsC rest) → W p l e R s m args below meth c H locs cells slots Q (F0 m pc lsC (.ref x :: rest))) (k : xwo E rc rn d Q0 (xnul a b ls st h)) : xG p l e R s m args below meth c Q E ad cA D cl A r0 nL mc ms fin finS (pc, ls, st, h) := by
  unfold xnul at k
  split at k
  · rename_i r
    intro cells slots ws H locs lsC stC h1 h2 hr
    obtain ⟨hW, hP, hD, hS, hl, hst⟩ := hr
    obtain ⟨_, _, rfl, rfl, hst⟩ := hst
    exact row _ _ _ _ _ _ (hN _ k cells slots ws H locs lsC _ h1 h2 ⟨hW, hP, hD, hS, hl, hst⟩)
  · rename_i x r
    intro cells slots ws H locs lsC stC h1 h2 hr
    obtain ⟨hW, hP, hD, hS, hl, hst⟩ := hr
    obtain ⟨_, _, rfl, ⟨y, e2, rfl⟩, hst⟩ := hst
    exact row2 _ _ _ _ _ _ _ (hN _ k cells slots ws H locs lsC _ h1 h2 ⟨hW, hP, hD, hS, hl, hst⟩)
  · exact k.1.elim
theorem so_goto (hN : ∀ f, rn f Q0 → xG p l e R s m args below meth c Q E ad cA D cl A r0 nL mc ms fin finS f) {t : Nat} (row : ∀ (H : Heap) (locs : List Loc) (cells slots : Nat) (lsC : Array Slot) (rest : List Value), W p l e R s m args below meth c H locs cells slots Q (F0 m t lsC rest) → W p l e R s m args below meth c H locs cells slots Q (F0 m pc lsC rest)) (k : xwo E rc rn d Q0 (.inl (t, ls, st, h))) : xG p l e R s m args below meth c Q E ad cA D cl A r0 nL mc ms fin finS (pc, ls, st, h) := by
  intro cells slots ws H locs lsC stC h1 h2 hr
  exact row _ _ _ _ _ _ (hN _ k cells slots ws H locs lsC _ h1 h2 hr)
theorem so_dup (hN : ∀ f, rn f Q0 → xG p l e R s m args below meth c Q E ad cA D cl A r0 nL mc ms fin finS f) (row : ∀ (H : Heap) (locs : List Loc) (cells slots : Nat) (lsC : Array Slot) (rest : List Value) (v : Value), v.category = 1 → W p l e R s m args below meth c H locs cells slots Q (F0 m nx lsC (v :: v :: rest)) → W p l e R s m args below meth c H locs cells slots Q (F0 m pc lsC (v :: rest))) (k : xwo E rc rn d Q0 (xdup nx ls st h)) : xG p l e R s m args below meth c Q E ad cA D cl A r0 nL mc ms fin finS (pc, ls, st, h) := by
  unfold xdup at k
  split at k
  · rename_i v r
    cases hb : (Nat.beq v.category 1) with
    | false => rw [hb] at k; exact k.1.elim
    | true =>
      rw [hb] at k
      have c1 := Nat.eq_of_beq_eq_true hb
      intro cells slots ws H locs lsC stC h1 h2 hr
      obtain ⟨hW, hP, hD, hS, hl, hst⟩ := hr
      obtain ⟨u0, _, rfl, hu0, hst⟩ := hst
      exact row _ _ _ _ _ _ _ ((xv_cat hu0).trans c1) (hN _ k cells slots ws H locs lsC _ h1 h2 ⟨hW, hP, hD, hS, hl, ⟨_, _, rfl, hu0, ⟨_, _, rfl, hu0, hst⟩⟩⟩)
  · exact k.1.elim
theorem so_pop (hN : ∀ f, rn f Q0 → xG p l e R s m args below meth c Q E ad cA D cl A r0 nL mc ms fin finS f) (row : ∀ (H : Heap) (locs : List Loc) (cells slots : Nat) (lsC : Array Slot) (rest : List Value) (v : Value), v.category = 1 → W p l e R s m args below meth c H locs cells slots Q (F0 m nx lsC rest) → W p l e R s m args below meth c H locs cells slots Q (F0 m pc lsC (v :: rest))) (k : xwo E rc rn d Q0 (xpo nx ls st h)) : xG p l e R s m args below meth c Q E ad cA D cl A r0 nL mc ms fin finS (pc, ls, st, h) := by
  unfold xpo at k
  split at k
  · rename_i v r
    cases hb : Nat.beq v.category 1 with
    | false => rw [hb] at k; exact k.1.elim
    | true =>
      rw [hb] at k
      have c1 := Nat.eq_of_beq_eq_true hb
      intro cells slots ws H locs lsC stC h1 h2 hr
      obtain ⟨hW, hP, hD, hS, hl, hst⟩ := hr
      obtain ⟨u0, _, rfl, hu0, hst⟩ := hst
      exact row _ _ _ _ _ _ _ ((xv_cat hu0).trans c1) (hN _ k cells slots ws H locs lsC _ h1 h2 ⟨hW, hP, hD, hS, hl, hst⟩)
  · exact k.1.elim
theorem so_dx1 (hN : ∀ f, rn f Q0 → xG p l e R s m args below meth c Q E ad cA D cl A r0 nL mc ms fin finS f) (row : ∀ (H : Heap) (locs : List Loc) (cells slots : Nat) (lsC : Array Slot) (rest : List Value) (v w : Value), v.category = 1 → w.category = 1 → W p l e R s m args below meth c H locs cells slots Q (F0 m nx lsC (v :: w :: v :: rest)) → W p l e R s m args below meth c H locs cells slots Q (F0 m pc lsC (v :: w :: rest))) (k : xwo E rc rn d Q0 (xdx1 nx ls st h)) : xG p l e R s m args below meth c Q E ad cA D cl A r0 nL mc ms fin finS (pc, ls, st, h) := by
  unfold xdx1 at k
  split at k
  · rename_i v w r
    cases hb : (Nat.beq v.category 1 && Nat.beq w.category 1) with
    | false => rw [hb] at k; exact k.1.elim
    | true =>
      rw [hb] at k
      rw [Bool.and_eq_true] at hb
      have c1 := Nat.eq_of_beq_eq_true hb.1
      have c2 := Nat.eq_of_beq_eq_true hb.2
      intro cells slots ws H locs lsC stC h1 h2 hr
      obtain ⟨hW, hP, hD, hS, hl, hst⟩ := hr
      obtain ⟨u0, _, rfl, hu0, u1, _, rfl, hu1, hst⟩ := hst
      exact row _ _ _ _ _ _ _ _ ((xv_cat hu0).trans c1) ((xv_cat hu1).trans c2) (hN _ k cells slots ws H locs lsC _ h1 h2 ⟨hW, hP, hD, hS, hl, ⟨_, _, rfl, hu0, ⟨_, _, rfl, hu1, ⟨_, _, rfl, hu0, hst⟩⟩⟩⟩)
  · exact k.1.elim
theorem so_dx2 (hN : ∀ f, rn f Q0 → xG p l e R s m args below meth c Q E ad cA D cl A r0 nL mc ms fin finS f) (row : ∀ (H : Heap) (locs : List Loc) (cells slots : Nat) (lsC : Array Slot) (rest : List Value) (v w z : Value), v.category = 1 → w.category = 1 → z.category = 1 → W p l e R s m args below meth c H locs cells slots Q (F0 m nx lsC (v :: w :: z :: v :: rest)) → W p l e R s m args below meth c H locs cells slots Q (F0 m pc lsC (v :: w :: z :: rest))) (k : xwo E rc rn d Q0 (xdx2 nx ls st h)) : xG p l e R s m args below meth c Q E ad cA D cl A r0 nL mc ms fin finS (pc, ls, st, h) := by
  unfold xdx2 at k
  split at k
  · rename_i v w z r
    cases hb : (Nat.beq v.category 1 && Nat.beq w.category 1 && Nat.beq z.category 1) with
    | false => rw [hb] at k; exact k.1.elim
    | true =>
      rw [hb] at k
      rw [Bool.and_eq_true, Bool.and_eq_true] at hb
      have c1 := Nat.eq_of_beq_eq_true hb.1.1
      have c2 := Nat.eq_of_beq_eq_true hb.1.2
      have c3 := Nat.eq_of_beq_eq_true hb.2
      intro cells slots ws H locs lsC stC h1 h2 hr
      obtain ⟨hW, hP, hD, hS, hl, hst⟩ := hr
      obtain ⟨u0, _, rfl, hu0, u1, _, rfl, hu1, u2, _, rfl, hu2, hst⟩ := hst
      exact row _ _ _ _ _ _ _ _ _ ((xv_cat hu0).trans c1) ((xv_cat hu1).trans c2) ((xv_cat hu2).trans c3) (hN _ k cells slots ws H locs lsC _ h1 h2 ⟨hW, hP, hD, hS, hl, ⟨_, _, rfl, hu0, ⟨_, _, rfl, hu1, ⟨_, _, rfl, hu2, ⟨_, _, rfl, hu0, hst⟩⟩⟩⟩⟩)
  · exact k.1.elim
theorem so_d2x1 (hN : ∀ f, rn f Q0 → xG p l e R s m args below meth c Q E ad cA D cl A r0 nL mc ms fin finS f) (row : ∀ (H : Heap) (locs : List Loc) (cells slots : Nat) (lsC : Array Slot) (rest : List Value) (v w : Value), v.category = 2 → w.category = 1 → W p l e R s m args below meth c H locs cells slots Q (F0 m nx lsC (v :: w :: v :: rest)) → W p l e R s m args below meth c H locs cells slots Q (F0 m pc lsC (v :: w :: rest))) (k : xwo E rc rn d Q0 (xd2x1 nx ls st h)) : xG p l e R s m args below meth c Q E ad cA D cl A r0 nL mc ms fin finS (pc, ls, st, h) := by
  unfold xd2x1 at k
  split at k
  · rename_i v w r
    cases hb : (Nat.beq v.category 2 && Nat.beq w.category 1) with
    | false => rw [hb] at k; exact k.1.elim
    | true =>
      rw [hb] at k
      rw [Bool.and_eq_true] at hb
      have c1 := Nat.eq_of_beq_eq_true hb.1
      have c2 := Nat.eq_of_beq_eq_true hb.2
      intro cells slots ws H locs lsC stC h1 h2 hr
      obtain ⟨hW, hP, hD, hS, hl, hst⟩ := hr
      obtain ⟨u0, _, rfl, hu0, u1, _, rfl, hu1, hst⟩ := hst
      exact row _ _ _ _ _ _ _ _ ((xv_cat hu0).trans c1) ((xv_cat hu1).trans c2) (hN _ k cells slots ws H locs lsC _ h1 h2 ⟨hW, hP, hD, hS, hl, ⟨_, _, rfl, hu0, ⟨_, _, rfl, hu1, ⟨_, _, rfl, hu0, hst⟩⟩⟩⟩)
  · exact k.1.elim
theorem so_d2 (hN : ∀ f, rn f Q0 → xG p l e R s m args below meth c Q E ad cA D cl A r0 nL mc ms fin finS f) (row : ∀ (H : Heap) (locs : List Loc) (cells slots : Nat) (lsC : Array Slot) (rest : List Value) (v w : Value), v.category = 1 → w.category = 1 → W p l e R s m args below meth c H locs cells slots Q (F0 m nx lsC (v :: w :: v :: w :: rest)) → W p l e R s m args below meth c H locs cells slots Q (F0 m pc lsC (v :: w :: rest))) (row2 : ∀ (H : Heap) (locs : List Loc) (cells slots : Nat) (lsC : Array Slot) (rest : List Value) (v : Value), v.category = 2 → W p l e R s m args below meth c H locs cells slots Q (F0 m nx lsC (v :: v :: rest)) → W p l e R s m args below meth c H locs cells slots Q (F0 m pc lsC (v :: rest))) (k : xwo E rc rn d Q0 (xd2 nx ls st h)) : xG p l e R s m args below meth c Q E ad cA D cl A r0 nL mc ms fin finS (pc, ls, st, h) := by
  unfold xd2 at k
  split at k
  · rename_i v w r
    intro cells slots ws H locs lsC stC h1 h2 hr
    obtain ⟨hW, hP, hD, hS, hl, hst⟩ := hr
    obtain ⟨u0, _, rfl, hu0, u1, _, rfl, hu1, hst⟩ := hst
    cases hb : (Nat.beq v.category 1 && Nat.beq w.category 1) with
    | true =>
      rw [hb] at k
      rw [Bool.and_eq_true] at hb
      have c1 := Nat.eq_of_beq_eq_true hb.1
      have c2 := Nat.eq_of_beq_eq_true hb.2
      exact row _ _ _ _ _ _ _ _ ((xv_cat hu0).trans c1) ((xv_cat hu1).trans c2) (hN _ k cells slots ws H locs lsC _ h1 h2 ⟨hW, hP, hD, hS, hl, ⟨_, _, rfl, hu0, _, _, rfl, hu1, _, _, rfl, hu0, _, _, rfl, hu1, hst⟩⟩)
    | false =>
      rw [hb] at k
      cases hb2 : Nat.beq v.category 2 with
      | false => rw [hb2] at k; exact k.1.elim
      | true =>
        rw [hb2] at k
        have c1 := Nat.eq_of_beq_eq_true hb2
        exact row2 _ _ _ _ _ _ _ ((xv_cat hu0).trans c1) (hN _ k cells slots ws H locs lsC _ h1 h2 ⟨hW, hP, hD, hS, hl, ⟨_, _, rfl, hu0, _, _, rfl, hu0, _, _, rfl, hu1, hst⟩⟩)
  · rename_i v
    intro cells slots ws H locs lsC stC h1 h2 hr
    obtain ⟨hW, hP, hD, hS, hl, hst⟩ := hr
    obtain ⟨u0, _, rfl, hu0, hst⟩ := hst
    cases hb2 : Nat.beq v.category 2 with
    | false => rw [hb2] at k; exact k.1.elim
    | true =>
      rw [hb2] at k
      have c1 := Nat.eq_of_beq_eq_true hb2
      exact row2 _ _ _ _ _ _ _ ((xv_cat hu0).trans c1) (hN _ k cells slots ws H locs lsC _ h1 h2 ⟨hW, hP, hD, hS, hl, ⟨_, _, rfl, hu0, _, _, rfl, hu0, hst⟩⟩)
  · exact k.1.elim
end XSO
