/-! what the tables must say of each instruction -/
def xlen : Instr → Nat
  | .iload _ => 2 | .lload _ => 2 | .fload _ => 2 | .aload _ => 2 | .istore _ => 2 | .lstore _ => 2 | .fstore _ => 2 | .astore _ => 2
  | .bipush _ => 2 | .sipush _ => 3 | .ldc _ => 2 | .ldc_w _ => 3 | .ldc2_w _ => 3 | .iinc _ _ => 3
  | .ifCond _ _ => 3 | .if_icmp _ _ => 3 | .ifnull _ => 3 | .ifnonnull _ => 3 | .goto _ => 3
  | .getfield _ => 3 | .putfield _ => 3 | .new _ => 3 | .newarray _ => 2 | .multianewarray _ _ => 4
  | .invokestatic _ => 3 | .invokevirtual _ => 3 | .invokespecial _ => 3
  | _ => 1
def xlk (TB : List Cond) (TF : List xNF) (TM : List xNM) (TS : List xTS) (cl : List vw_C) (E : xE) (M : xM) (pc : Nat) (i : Instr) (nx : Nat) (tg : List Nat) (v : Value) : Prop := match i with
  | .tableswitch df lo hi offs => (∃ len, decode M.2.1 pc = .ok (.tableswitch df lo hi offs, len)) ∧ (offs.toList.length : Int) = hi - lo + 1 ∧ xtgt pc (df :: offs.toList) tg
  | i => (decode M.2.1 pc = .ok (i, xlen i) ∧ nx = pc + xlen i) ∧ (match i with
    | .iconst n => v = .int (Int32.ofInt n)
    | .bipush n => v = .int (Int8.ofInt n).toInt32
    | .sipush n => v = .int (Int16.ofInt n).toInt32
    | .lconst n => v = .long (Int64.ofNat (n : Nat))
    | .fconst n => v = .float (if n = 0 then FP.fconst0 else if n = 1 then FP.fconst1 else FP.fconst2)
    | .ldc idx => (∃ x, v = .int x ∧ Cond.constant M.2.2.2.2.1 idx x ∈ TB) ∨ (∃ x, v = .float x ∧ Cond.constantFloat M.2.2.2.2.1 idx x ∈ TB) ∨ ∃ tx j, v = .ref (xt0 + j) ∧ (M.2.2.2.2.1, idx, tx, j) ∈ TS
    | .ldc_w idx => (∃ x, v = .int x ∧ Cond.constant M.2.2.2.2.1 idx x ∈ TB) ∨ ∃ x, v = .float x ∧ Cond.constantFloat M.2.2.2.2.1 idx x ∈ TB
    | .ldc2_w idx => ∃ x, v = .long x ∧ Cond.constantLong M.2.2.2.2.1 idx x ∈ TB
    | .iinc _ n => v = .int (Int32.ofInt n)
    | .ifCond _ off => ∃ t, tg = [t] ∧ (pc : Int) + off = (t : Int)
    | .if_icmp _ off => ∃ t, tg = [t] ∧ (pc : Int) + off = (t : Int)
    | .ifnull off => ∃ t, tg = [t] ∧ (pc : Int) + off = (t : Int)
    | .ifnonnull off => ∃ t, tg = [t] ∧ (pc : Int) + off = (t : Int)
    | .goto off => ∃ t, tg = [t] ∧ (pc : Int) + off = (t : Int)
    | .getfield idx => ∃ ci k r, tg = [ci, k] ∧ cl[ci]? = some r ∧ k < r.2.2 ∧ xLF TB TF M.2.2.2.2.1 idx (r.2.1 k)
    | .putfield idx => ∃ ci k r, tg = [ci, k] ∧ cl[ci]? = some r ∧ k < r.2.2 ∧ xLF TB TF M.2.2.2.2.1 idx (r.2.1 k) ∧ ((r.2.1 k).2.2.2 = false ∨ (M.1.name = "<init>" ∧ (r.2.1 k).1 = M.2.2.2.2.1 ∧ Cond.fieldLink M.2.2.2.2.1 idx (r.2.1 k).1 (r.2.1 k).2.1 (r.2.1 k).2.2.1 ∈ TB))
    | .new idx => ∃ ci r, tg = [ci] ∧ cl[ci]? = some r ∧ Cond.classLink M.2.2.2.2.1 idx r.1 ∈ TB
    | .multianewarray idx k => k = 2 ∧ Cond.classLink M.2.2.2.2.1 idx "[[F" ∈ TB
    | .invokestatic idx => (∃ y n, tg = [y, n] ∧ xMok TB (E.1 y) n ∧ Cond.methodLink M.2.2.2.2.1 idx (E.1 y).1 ∈ TB ∧ Cond.static (E.1 y).1 ∈ TB) ∨ (tg = [2] ∧ Cond.methodLink M.2.2.2.2.1 idx Lib.Math.max.name ∈ TB ∧ Cond.static Lib.Math.max.name ∈ TB ∧ Cond.initialized "java/lang/Math" ∈ TB ∧ Cond.code Lib.Math.max.name Lib.Math.max.code 2 (some .int) ∈ TB) ∨ (tg = [3] ∧ Cond.methodLink M.2.2.2.2.1 idx Lib.Math.min.name ∈ TB ∧ Cond.static Lib.Math.min.name ∈ TB ∧ Cond.initialized "java/lang/Math" ∈ TB ∧ Cond.code Lib.Math.min.name Lib.Math.min.code 2 (some .int) ∈ TB)
    | .invokevirtual idx => (∃ y n ci r, tg = [y, n, ci] ∧ cl[ci]? = some r ∧ xMok TB (E.1 y) n ∧ (E.1 y).1.cls = r.1 ∧ Cond.methodLink M.2.2.2.2.1 idx (E.1 y).1 ∈ TB ∧ Cond.instanceMethod (E.1 y).1 ∈ TB ∧ Cond.selects r.1 (E.1 y).1 (E.1 y).1 ∈ TB) ∨ (tg = [0] ∧ xTx TB M.2.2.2.2.1 idx 0) ∨ (tg = [1] ∧ xTx TB M.2.2.2.2.1 idx 1)
    | .invokespecial idx => (∃ y n ci, tg = [y, n, ci] ∧ xMok TB (E.1 y) n ∧ (E.1 y).2.2.2.1 = none ∧ (E.1 y).1.name = "<init>" ∧ (Cond.methodLink M.2.2.2.2.1 idx (E.1 y).1 ∈ TB ∨ ∃ host, (M.2.2.2.2.1, idx, (E.1 y).1, host) ∈ TM) ∧ Cond.instanceMethod (E.1 y).1 ∈ TB) ∨ (tg = [] ∧ Cond.methodLink M.2.2.2.2.1 idx Lib.objectInit ∈ TB ∧ Cond.instanceMethod Lib.objectInit ∈ TB ∧ Cond.code Lib.objectInit ⟨#[0xb1]⟩ 1 none ∈ TB)
    | _ => True)
/-- what holds while a method runs -/
def xFx (TB : List Cond) (TF : List xNF) (TM : List xNM) (TS : List xTS) (nS : Nat) (lenS : List Nat) (bytS : List (List Int32)) (ad adV : Nat → Nat) (cA : FieldType → ClassId) (D : va_G) (cl : List vw_C) (M : xM) (A : Nat → Prop) (p : Program) (s : State) (m : MethodId) (args : Array Value) (meth : Method) (c : Code) : Prop :=
  p.tables.exec = Jvm.exec ∧ c.code = M.2.1 ∧ c.maxLocals = M.2.2.1 ∧ meth.sig.returnType = M.2.2.2.1 ∧ s.vm.findClass M.2.2.2.2.1 = some m.cls ∧ (∀ w ∈ TB, w.before args s = true) ∧ meth.locks = false ∧ (M.1.name = "<init>" → meth.name = "<init>") ∧ va_K D cl (xtys cA) s ∧ xEv TF TM TS nS lenS bytS ad adV A s
/-- what the tables say -/
def xTab (TB : List Cond) (TF : List xNF) (TM : List xNM) (TS : List xTS) (cl : List vw_C) (E : xE) : Prop :=
  (∀ w ∈ TB, goodWord w = true) ∧ xCL E cl TB ∧ (∀ a : ArrayType, xoka (xty a) = true → Cond.arrayClass (xty a) ∈ TB) ∧ (∀ (y pc : Nat) (i : Instr) (nx : Nat) (tg : List Nat) (v : Value), (E.1 y).2.2.2.2.2 pc = some (i, nx, tg, v) → xlk TB TF TM TS cl E (E.1 y) pc i nx tg v) ∧ ∀ y, plainName (E.1 y).1.cls = true ∧ (E.1 y).1.cls = (E.1 y).2.2.2.2.1
set_option maxHeartbeats 4000000 in
/-- one instruction -/
theorem xone {l : Launch} {TB : List Cond} {TF : List xNF} {TM : List xNM} {TS : List xTS} {nS : Nat} {lenS : List Nat} {bytS : List (List Int32)} {E : xE} {ad adV : Nat → Nat} {cA : FieldType → ClassId} {D : va_G} {cl : List vw_C} {p : Program} {e : Env} {s : State} {m : MethodId} {args : Array Value} {below : List Frame} {meth : Method} {c : Code} {d y mc ms : Nat} {v0 : Option Value} {h0 : xH} {ws0 : va_W} (hT : xTab TB TF TM TS cl E) (hX : xTxE E nS lenS bytS) (hF : xFx TB TF TM TS nS lenS bytS ad adV cA D cl (E.1 y) (va_A ws0 s.heap.size) p s m args meth c) (hfin : h0.1.length ≤ xt0) {rc : Nat → xM → xF → xP → Prop} {rn : xF → xP → Prop}
    (hmono : ∀ (d : Nat) (M : xM) (f : xF) (v : Option Value) (h' : xH), rc d M f (fun v' h2 => v' = v ∧ h2 = h') → f.2.2.2.1.length ≤ h'.1.length ∧ xsz E f.2.2.2.1 ≤ xsz E h'.1) (hdet : ∀ (d : Nat) (M : xM) (f : xF) (P : xP), rc d M f P → ∃ v h', P v h' ∧ rc d M f (fun v' h2 => v' = v ∧ h2 = h'))
    (hMet : ∀ (d : Nat) (y : Nat) (av : List Value) (h : xH) (v : Option Value) (h' : xH), rc d (E.1 y) (0, xent (E.1 y) av, [], h) (fun v' h2 => v' = v ∧ h2 = h') → xMet l TB TF TM TS nS lenS bytS E ad adV cA D cl d (E.1 y) av h v h')
    (hlen : ∀ f : xF, rn f (fun v' h2 => v' = v0 ∧ h2 = h0) → f.2.2.2.1.length ≤ h0.1.length ∧ xsz E f.2.2.2.1 ≤ xsz E h0.1) (hN : ∀ f, rn f (fun v' h2 => v' = v0 ∧ h2 = h0) → xG p l e (xroom d mc ms) s m args below meth c (MQ below (xQc E ad cA D cl ws0 s.heap.size v0 h0) args s mc ms (va_A ws0 s.heap.size)) E ad cA D cl (va_A ws0 s.heap.size) (xa ad ws0) (E.1 y).2.2.1 mc ms h0.1.length (xsz E h0.1) f)
    (i : Instr) (pc nx : Nat) (tg : List Nat) (v : Value) (ls : xL) (st : List Value) (h : xH) (hl : xlk TB TF TM TS cl E (E.1 y) pc i nx tg v) (k : xwo E rc rn d (fun v' h2 => v' = v0 ∧ h2 = h0) (xins E (E.1 y) i nx tg v ls st h)) : xG p l e (xroom d mc ms) s m args below meth c (MQ below (xQc E ad cA D cl ws0 s.heap.size v0 h0) args s mc ms (va_A ws0 s.heap.size)) E ad cA D cl (va_A ws0 s.heap.size) (xa ad ws0) (E.1 y).2.2.1 mc ms h0.1.length (xsz E h0.1) (pc, ls, st, h) := by
  obtain ⟨hgd, hCL, hAC, -, -⟩ := hT
  obtain ⟨hx, hb, hml, hr, hown, hts, hlk0, hini, hK, hEv⟩ := hF
  have hA : ∀ q : Nat, s.heap.size ≤ q → va_A ws0 s.heap.size q := fun q z => Or.inr z
  cases i with
  | iadd =>
    obtain ⟨⟨hdg, hnx⟩, -⟩ := hl
    subst hnx
    exact so_ii hN (fun _ _ _ _ _ _ _ _ kk => lv_iadd hx hb hdg kk) k
  | isub =>
    obtain ⟨⟨hdg, hnx⟩, -⟩ := hl
    subst hnx
    exact so_ii hN (fun _ _ _ _ _ _ _ _ kk => lv_isub hx hb hdg kk) k
  | imul =>
    obtain ⟨⟨hdg, hnx⟩, -⟩ := hl
    subst hnx
    exact so_ii hN (fun _ _ _ _ _ _ _ _ kk => lv_imul hx hb hdg kk) k
  | iand =>
    obtain ⟨⟨hdg, hnx⟩, -⟩ := hl
    subst hnx
    exact so_ii hN (fun _ _ _ _ _ _ _ _ kk => lv_iand hx hb hdg kk) k
  | ior =>
    obtain ⟨⟨hdg, hnx⟩, -⟩ := hl
    subst hnx
    exact so_ii hN (fun _ _ _ _ _ _ _ _ kk => lv_ior hx hb hdg kk) k
  | ixor =>
    obtain ⟨⟨hdg, hnx⟩, -⟩ := hl
    subst hnx
    exact so_ii hN (fun _ _ _ _ _ _ _ _ kk => lv_ixor hx hb hdg kk) k
  | ishl =>
    obtain ⟨⟨hdg, hnx⟩, -⟩ := hl
    subst hnx
    exact so_ii hN (fun _ _ _ _ _ _ _ _ kk => lv_ishl hx hb hdg kk) k
  | ishr =>
    obtain ⟨⟨hdg, hnx⟩, -⟩ := hl
    subst hnx
    exact so_ii hN (fun _ _ _ _ _ _ _ _ kk => lv_ishr hx hb hdg kk) k
  | iushr =>
    obtain ⟨⟨hdg, hnx⟩, -⟩ := hl
    subst hnx
    exact so_ii hN (fun _ _ _ _ _ _ _ _ kk => lv_iushr hx hb hdg rfl kk) k
  | idiv =>
    obtain ⟨⟨hdg, hnx⟩, -⟩ := hl
    subst hnx
    exact so_iiD hN (fun _ _ _ _ _ _ _ _ hne kk => lv_idiv hx hb hdg hne kk) k
  | irem =>
    obtain ⟨⟨hdg, hnx⟩, -⟩ := hl
    subst hnx
    exact so_iiD hN (fun _ _ _ _ _ _ _ _ hne kk => lv_irem hx hb hdg hne kk) k
  | fadd =>
    obtain ⟨⟨hdg, hnx⟩, -⟩ := hl
    subst hnx
    exact so_ff hN (fun _ _ _ _ _ _ _ _ hne kk => lv_fadd hx hb hdg hne kk) k
  | fsub =>
    obtain ⟨⟨hdg, hnx⟩, -⟩ := hl
    subst hnx
    exact so_ff hN (fun _ _ _ _ _ _ _ _ hne kk => lv_fsub hx hb hdg hne kk) k
  | fmul =>
    obtain ⟨⟨hdg, hnx⟩, -⟩ := hl
    subst hnx
    exact so_ff hN (fun _ _ _ _ _ _ _ _ hne kk => lv_fmul hx hb hdg hne kk) k
  | fdiv =>
    obtain ⟨⟨hdg, hnx⟩, -⟩ := hl
    subst hnx
    exact so_ff hN (fun _ _ _ _ _ _ _ _ hne kk => lv_fdiv hx hb hdg hne kk) k
  | ineg =>
    obtain ⟨⟨hdg, hnx⟩, -⟩ := hl
    subst hnx
    exact so_i hN (by intros; rfl) (fun _ _ _ _ _ _ _ kk => lv_ineg hx hb hdg kk) k
  | i2l =>
    obtain ⟨⟨hdg, hnx⟩, -⟩ := hl
    subst hnx
    exact so_i hN (by intros; rfl) (fun _ _ _ _ _ _ _ kk => lv_i2l hx hb hdg rfl kk) k
  | i2b =>
    obtain ⟨⟨hdg, hnx⟩, -⟩ := hl
    subst hnx
    exact so_i hN (by intros; rfl) (fun _ _ _ _ _ _ _ kk => lv_i2b hx hb hdg rfl kk) k
  | i2c =>
    obtain ⟨⟨hdg, hnx⟩, -⟩ := hl
    subst hnx
    exact so_i hN (by intros; rfl) (fun _ _ _ _ _ _ _ kk => lv_i2c hx hb hdg rfl kk) k
  | i2s =>
    obtain ⟨⟨hdg, hnx⟩, -⟩ := hl
    subst hnx
    exact so_i hN (by intros; rfl) (fun _ _ _ _ _ _ _ kk => lv_i2s hx hb hdg rfl kk) k
  | i2f =>
    obtain ⟨⟨hdg, hnx⟩, -⟩ := hl
    subst hnx
    exact so_i hN (by intros; rfl) (fun _ _ _ _ _ _ _ kk => lv_i2f hx hb hdg kk) k
  | ladd =>
    obtain ⟨⟨hdg, hnx⟩, -⟩ := hl
    subst hnx
    exact so_ll hN (by intros; rfl) (fun _ _ _ _ _ _ _ _ kk => lv_ladd hx hb hdg kk) k
  | lsub =>
    obtain ⟨⟨hdg, hnx⟩, -⟩ := hl
    subst hnx
    exact so_ll hN (by intros; rfl) (fun _ _ _ _ _ _ _ _ kk => lv_lsub hx hb hdg kk) k
  | lmul =>
    obtain ⟨⟨hdg, hnx⟩, -⟩ := hl
    subst hnx
    exact so_ll hN (by intros; rfl) (fun _ _ _ _ _ _ _ _ kk => lv_lmul hx hb hdg kk) k
  | land =>
    obtain ⟨⟨hdg, hnx⟩, -⟩ := hl
    subst hnx
    exact so_ll hN (by intros; rfl) (fun _ _ _ _ _ _ _ _ kk => lv_land hx hb hdg kk) k
  | lor =>
    obtain ⟨⟨hdg, hnx⟩, -⟩ := hl
    subst hnx
    exact so_ll hN (by intros; rfl) (fun _ _ _ _ _ _ _ _ kk => lv_lor hx hb hdg kk) k
  | lxor =>
    obtain ⟨⟨hdg, hnx⟩, -⟩ := hl
    subst hnx
    exact so_ll hN (by intros; rfl) (fun _ _ _ _ _ _ _ _ kk => lv_lxor hx hb hdg kk) k
  | lcmp =>
    obtain ⟨⟨hdg, hnx⟩, -⟩ := hl
    subst hnx
    exact so_ll hN (by intros; rfl) (fun _ _ _ _ _ _ _ _ kk => W.lcmp hx hb hdg kk) k
  | lneg =>
    obtain ⟨⟨hdg, hnx⟩, -⟩ := hl
    subst hnx
    exact so_l hN (by intros; rfl) (fun _ _ _ _ _ _ _ kk => lv_lneg hx hb hdg kk) k
  | l2i =>
    obtain ⟨⟨hdg, hnx⟩, -⟩ := hl
    subst hnx
    exact so_l hN (by intros; rfl) (fun _ _ _ _ _ _ _ kk => lv_l2i hx hb hdg rfl kk) k
  | l2f =>
    obtain ⟨⟨hdg, hnx⟩, -⟩ := hl
    subst hnx
    exact so_l hN (by intros; rfl) (fun _ _ _ _ _ _ _ kk => lv_l2f hx hb hdg kk) k
  | lshl =>
    obtain ⟨⟨hdg, hnx⟩, -⟩ := hl
    subst hnx
    exact so_li hN (fun _ _ _ _ _ _ _ _ kk => lv_lshl hx hb hdg rfl kk) k
  | lshr =>
    obtain ⟨⟨hdg, hnx⟩, -⟩ := hl
    subst hnx
    exact so_li hN (fun _ _ _ _ _ _ _ _ kk => lv_lshr hx hb hdg rfl kk) k
  | lushr =>
    obtain ⟨⟨hdg, hnx⟩, -⟩ := hl
    subst hnx
    exact so_li hN (fun _ _ _ _ _ _ _ _ kk => lv_lushr hx hb hdg rfl kk) k
  | fneg =>
    obtain ⟨⟨hdg, hnx⟩, -⟩ := hl
    subst hnx
    exact so_f hN (by intros; rfl) (fun _ _ _ _ _ _ _ kk => lv_fneg hx hb hdg kk) k
  | f2i =>
    obtain ⟨⟨hdg, hnx⟩, -⟩ := hl
    subst hnx
    exact so_f hN (by intros; rfl) (fun _ _ _ _ _ _ _ kk => lv_f2i hx hb hdg kk) k
  | fcmp o =>
    obtain ⟨⟨hdg, hnx⟩, -⟩ := hl
    subst hnx
    exact so_fc hN (fun _ _ _ _ _ _ _ _ kk => lv_fcmp hx hb hdg kk) k
  | iconst n =>
    obtain ⟨⟨hdg, hnx⟩, rfl⟩ := hl
    subst hnx
    exact so_push (v := .int (Int32.ofInt n)) hN (fun ws => ⟨_, rfl, fun _ _ _ _ _ _ kk => lv_iconst hx hb hdg rfl kk⟩) k
  | bipush n =>
    obtain ⟨⟨hdg, hnx⟩, rfl⟩ := hl
    subst hnx
    exact so_push (v := .int (Int8.ofInt n).toInt32) hN (fun ws => ⟨_, rfl, fun _ _ _ _ _ _ kk => lv_bipush hx hb hdg rfl kk⟩) k
  | sipush n =>
    obtain ⟨⟨hdg, hnx⟩, rfl⟩ := hl
    subst hnx
    exact so_push (v := .int (Int16.ofInt n).toInt32) hN (fun ws => ⟨_, rfl, fun _ _ _ _ _ _ kk => lv_sipush hx hb hdg rfl kk⟩) k
  | lconst n =>
    obtain ⟨⟨hdg, hnx⟩, rfl⟩ := hl
    subst hnx
    exact so_push (v := .long (Int64.ofNat (n : Nat))) hN (fun ws => ⟨_, rfl, fun _ _ _ _ _ _ kk => lv_lconst hx hb hdg rfl kk⟩) k
  | fconst n =>
    obtain ⟨⟨hdg, hnx⟩, rfl⟩ := hl
    subst hnx
    refine so_push (v := .float (if n = 0 then FP.fconst0 else if n = 1 then FP.fconst1 else FP.fconst2)) hN (fun ws => ⟨_, rfl, fun _ _ _ _ _ _ kk => ?_⟩) k
    rcases n with ⟨n, hn⟩
    match n, hn with
    | 0, _ => exact lv_fconst0 hx hb hdg kk
    | 1, _ => exact lv_fconst1 hx hb hdg kk
    | 2, _ => exact lv_fconst2 hx hb hdg kk
  | ldc idx =>
    obtain ⟨⟨hdg, hnx⟩, hl⟩ := hl
    subst hnx
    rcases hl with ⟨x, rfl, hw⟩ | ⟨x, rfl, hw⟩ | ⟨tx, j, rfl, hw⟩
    · exact so_push (v := .int x) hN (fun ws => ⟨_, rfl, fun _ _ _ _ _ _ kk => lv_ldc hx hb hown (hts _ hw) hdg kk⟩) k
    · exact so_push (v := .float x) hN (fun ws => ⟨_, rfl, fun _ _ _ _ _ _ kk => lv_ldcf hx hb hown (hts _ hw) hdg kk⟩) k
    · refine so_push (v := .ref (xt0 + j)) hN (fun ws => ⟨_, ⟨ad j, ?_, rfl⟩, fun _ _ _ _ _ _ kk => va_ldcS hx hb hown (hEv.2.2.2.1 _ hw) hdg kk⟩) k
      unfold xa
      have h9 : Nat.ble xt0 (xt0 + j) = true := Nat.ble_eq_true_of_le (Nat.le_add_right _ _)
      rw [h9, Nat.add_sub_cancel_left]
      rfl
  | ldc_w idx =>
    obtain ⟨⟨hdg, hnx⟩, hl⟩ := hl
    subst hnx
    rcases hl with ⟨x, rfl, hw⟩ | ⟨x, rfl, hw⟩
    · exact so_push (v := .int x) hN (fun ws => ⟨_, rfl, fun _ _ _ _ _ _ kk => lv_ldcw hx hb hown (hts _ hw) hdg kk⟩) k
    · exact so_push (v := .float x) hN (fun ws => ⟨_, rfl, fun _ _ _ _ _ _ kk => so_ldcwF hx hb hown (hts _ hw) hdg kk⟩) k
  | ldc2_w idx =>
    obtain ⟨⟨hdg, hnx⟩, x, rfl, hw⟩ := hl
    subst hnx
    exact so_push (v := .long x) hN (fun ws => ⟨_, rfl, fun _ _ _ _ _ _ kk => lv_ldc2 hx hb hown (hts _ hw) hdg kk⟩) k
  | aconst_null =>
    obtain ⟨⟨hdg, hnx⟩, -⟩ := hl
    subst hnx
    exact so_push (v := .null) hN (fun ws => ⟨_, rfl, fun _ _ _ _ _ _ kk => lv_null hx hb hdg kk⟩) k
  | iload i =>
    obtain ⟨⟨hdg, hnx⟩, -⟩ := hl
    subst hnx
    exact so_loi hN (fun _ _ _ _ _ _ _ h9 kk => lv_iload hx hb hdg h9 kk) k
  | iload_n i =>
    obtain ⟨⟨hdg, hnx⟩, -⟩ := hl
    subst hnx
    exact so_loi hN (fun _ _ _ _ _ _ _ h9 kk => lv_iload_n hx hb hdg rfl h9 kk) k
  | lload i =>
    obtain ⟨⟨hdg, hnx⟩, -⟩ := hl
    subst hnx
    exact so_lol hN (fun _ _ _ _ _ _ _ h9 kk => lv_lload hx hb hdg h9 kk) k
  | lload_n i =>
    obtain ⟨⟨hdg, hnx⟩, -⟩ := hl
    subst hnx
    exact so_lol hN (fun _ _ _ _ _ _ _ h9 kk => lv_lload_n hx hb hdg rfl h9 kk) k
  | fload i =>
    obtain ⟨⟨hdg, hnx⟩, -⟩ := hl
    subst hnx
    exact so_lof hN (fun _ _ _ _ _ _ _ h9 kk => lv_fload hx hb hdg h9 kk) k
  | fload_n i =>
    obtain ⟨⟨hdg, hnx⟩, -⟩ := hl
    subst hnx
    exact so_lof hN (fun _ _ _ _ _ _ _ h9 kk => lv_fload_n hx hb hdg rfl h9 kk) k
  | aload i =>
    obtain ⟨⟨hdg, hnx⟩, -⟩ := hl
    subst hnx
    exact so_loa hN (fun _ _ _ _ _ _ _ h9 kk => lv_aload hx hb hdg h9 kk) (fun _ _ _ _ _ _ h9 kk => lv_aloadN hx hb hdg h9 kk) k
  | aload_n i =>
    obtain ⟨⟨hdg, hnx⟩, -⟩ := hl
    subst hnx
    exact so_loa hN (fun _ _ _ _ _ _ _ h9 kk => lv_aload_n hx hb hdg rfl h9 kk) (fun _ _ _ _ _ _ h9 kk => lv_aload_nN hx hb hdg rfl h9 kk) k
  | istore i =>
    obtain ⟨⟨hdg, hnx⟩, -⟩ := hl
    subst hnx
    exact so_sti hN (fun _ _ _ _ _ _ _ h8 h9 kk => lv_istore hx hb hdg h8 h9 rfl kk) k
  | istore_n i =>
    obtain ⟨⟨hdg, hnx⟩, -⟩ := hl
    subst hnx
    exact so_sti hN (fun _ _ _ _ _ _ _ h8 h9 kk => lv_istore_n hx hb hdg rfl h8 h9 rfl kk) k
  | lstore i =>
    obtain ⟨⟨hdg, hnx⟩, -⟩ := hl
    subst hnx
    exact so_stl hN (fun _ _ _ _ _ _ _ h8 h9 kk => lv_lstore hx hb hdg h8 h9 rfl kk) k
  | lstore_n i =>
    obtain ⟨⟨hdg, hnx⟩, -⟩ := hl
    subst hnx
    exact so_stl hN (fun _ _ _ _ _ _ _ h8 h9 kk => lv_lstore_n hx hb hdg rfl h8 h9 rfl kk) k
  | fstore i =>
    obtain ⟨⟨hdg, hnx⟩, -⟩ := hl
    subst hnx
    exact so_stf hN (fun _ _ _ _ _ _ _ h8 h9 kk => lv_fstore hx hb hdg h8 h9 rfl kk) k
  | fstore_n i =>
    obtain ⟨⟨hdg, hnx⟩, -⟩ := hl
    subst hnx
    exact so_stf hN (fun _ _ _ _ _ _ _ h8 h9 kk => lv_fstore_n hx hb hdg rfl h8 h9 rfl kk) k
  | astore i =>
    obtain ⟨⟨hdg, hnx⟩, -⟩ := hl
    subst hnx
    exact so_sta hN (fun _ _ _ _ _ _ _ h8 h9 kk => lv_astore hx hb hdg h8 h9 rfl kk) (fun _ _ _ _ _ _ h8 h9 kk => lv_astoreN hx hb hdg h8 h9 rfl kk) k
  | astore_n i =>
    obtain ⟨⟨hdg, hnx⟩, -⟩ := hl
    subst hnx
    exact so_sta hN (fun _ _ _ _ _ _ _ h8 h9 kk => lv_astore_n hx hb hdg rfl h8 h9 rfl kk) (fun _ _ _ _ _ _ h8 h9 kk => lv_astore_nN hx hb hdg rfl h8 h9 rfl kk) k
  | iinc i n =>
    obtain ⟨⟨hdg, hnx⟩, rfl⟩ := hl
    subst hnx
    refine so_inc hN (fun _ _ _ _ lsC _ x h7 h8 h9 kk => ?_) k
    obtain ⟨k9, hk9⟩ := List.getElem?_of_mem (xall_mem.mpr h8)
    exact lv_iinc hx hb hdg h7 hk9 rfl h9 rfl kk
  | ifnull off =>
    obtain ⟨⟨hdg, hnx⟩, t, rfl, ht⟩ := hl
    subst hnx
    exact so_nul hN (fun _ _ _ _ _ _ kk => lv_ifnullN hx hb hdg ht kk) (fun _ _ _ _ _ _ _ kk => lv_ifnull hx hb hdg kk) k
  | ifnonnull off =>
    obtain ⟨⟨hdg, hnx⟩, t, rfl, ht⟩ := hl
    subst hnx
    exact so_nul hN (fun _ _ _ _ _ _ kk => lv_ifnonnullN hx hb hdg kk) (fun _ _ _ _ _ _ _ kk => lv_ifnonnull hx hb hdg ht kk) k
  | goto off =>
    obtain ⟨⟨hdg, hnx⟩, t, rfl, ht⟩ := hl
    subst hnx
    exact so_goto hN (fun _ _ _ _ _ _ kk => lv_goto hx hb hdg ht kk) k
  | dup =>
    obtain ⟨⟨hdg, hnx⟩, -⟩ := hl
    subst hnx
    exact so_dup hN (fun _ _ _ _ _ _ _ c1 kk => lv_dup hx hb hdg c1 kk) k
  | pop =>
    obtain ⟨⟨hdg, hnx⟩, -⟩ := hl
    subst hnx
    exact so_pop hN (fun _ _ _ _ _ _ _ c1 kk => lv_pop hx hb hdg c1 kk) k
  | dup_x1 =>
    obtain ⟨⟨hdg, hnx⟩, -⟩ := hl
    subst hnx
    exact so_dx1 hN (fun _ _ _ _ _ _ _ _ c1 c2 kk => lv_dup_x1 hx hb hdg c1 c2 kk) k
  | dup_x2 =>
    obtain ⟨⟨hdg, hnx⟩, -⟩ := hl
    subst hnx
    exact so_dx2 hN (fun _ _ _ _ _ _ _ _ _ c1 c2 c3 kk => lv_dup_x2 hx hb hdg c1 c2 c3 kk) k
  | dup2_x1 =>
    obtain ⟨⟨hdg, hnx⟩, -⟩ := hl
    subst hnx
    exact so_d2x1 hN (fun _ _ _ _ _ _ _ _ c1 c2 kk => lv_dup2_x1_2 hx hb hdg c1 c2 kk) k
  | dup2 =>
    obtain ⟨⟨hdg, hnx⟩, -⟩ := hl
    subst hnx
    exact so_d2 hN (fun _ _ _ _ _ _ _ _ c1 c2 kk => lv_dup2_11 hx hb hdg c1 c2 kk) (fun _ _ _ _ _ _ _ c1 kk => lv_dup2_2 hx hb hdg c1 kk) k
  | getfield idx =>
    obtain ⟨⟨hdg, hnx⟩, ci, kf, r, rfl, hr, hk, hlk⟩ := hl
    subst hnx
    exact so_gf hx hb hts hCL hown hK hEv.1 hN hr hk hlk hdg k
  | putfield idx =>
    obtain ⟨⟨hdg, hnx⟩, ci, kf, r, rfl, hr, hk, hlk, hfn⟩ := hl
    subst hnx
    exact so_pf hx hb hts hCL hown hK hEv.1 hN hr hk hlk (by rcases hfn with z | ⟨z1, z2, z3⟩; exact Or.inl z; exact Or.inr ⟨hini z1, z2, z3⟩) hdg k
  | iaload =>
    obtain ⟨⟨hdg, hnx⟩, -⟩ := hl
    subst hnx
    exact so_aldI hx hb hK hN hdg k
  | baload =>
    obtain ⟨⟨hdg, hnx⟩, -⟩ := hl
    subst hnx
    exact so_aldB hx hb hK hN hdg k
  | laload =>
    obtain ⟨⟨hdg, hnx⟩, -⟩ := hl
    subst hnx
    exact so_aldL hx hb hK hN hdg k
  | faload =>
    obtain ⟨⟨hdg, hnx⟩, -⟩ := hl
    subst hnx
    exact so_aldF hx hb hK hN hdg k
  | aaload =>
    obtain ⟨⟨hdg, hnx⟩, -⟩ := hl
    subst hnx
    exact so_aldA hx hb hK hN hdg k
  | iastore =>
    obtain ⟨⟨hdg, hnx⟩, -⟩ := hl
    subst hnx
    exact so_astI hx hb hK hN hdg k
  | bastore =>
    obtain ⟨⟨hdg, hnx⟩, -⟩ := hl
    subst hnx
    exact so_astB hx hb hK hN hdg k
  | lastore =>
    obtain ⟨⟨hdg, hnx⟩, -⟩ := hl
    subst hnx
    exact so_astL hx hb hK hN hdg k
  | fastore =>
    obtain ⟨⟨hdg, hnx⟩, -⟩ := hl
    subst hnx
    exact so_astF hx hb hK hN hdg k
  | arraylength =>
    obtain ⟨⟨hdg, hnx⟩, -⟩ := hl
    subst hnx
    exact so_aln hx hb hK hN hdg k
  | new idx =>
    obtain ⟨⟨hdg, hnx⟩, ci, r, rfl, hr, hlk⟩ := hl
    subst hnx
    exact so_new hx hb hts hCL hown hK hA hlen hfin rfl rfl hN hr hlk hdg k
  | newarray a =>
    obtain ⟨⟨hdg, hnx⟩, -⟩ := hl
    subst hnx
    exact so_nar hx hb hts hK hA hAC hlen hfin rfl rfl hN hdg k
  | multianewarray idx k2 =>
    obtain ⟨⟨hdg, hnx⟩, rfl, hlk⟩ := hl
    subst hnx
    exact so_mul hx hb hts hown hK hA hEv (hAC .float rfl) hlen hfin hN hlk hdg k
  | invokestatic idx =>
    obtain ⟨⟨hdg, hnx⟩, hl⟩ := hl
    subst hnx
    rcases hl with ⟨y9, n9, rfl, hM, h1, h2⟩ | ⟨rfl, h1, h2, h3, h4⟩ | ⟨rfl, h1, h2, h3, h4⟩
    · exact so_cls hx hb hml hts hgd hown hK hA hEv hlen rfl hmono hdet hfin hMet hN hM h1 h2 hdg k
    · exact so_max hx hb hml hown (hts _ h1) (hts _ h2) (hts _ h3) (hts _ h4) hlen hN hdg k
    · exact so_min hx hb hml hown (hts _ h1) (hts _ h2) (hts _ h3) (hts _ h4) hlen hN hdg k
  | invokevirtual idx =>
    obtain ⟨⟨hdg, hnx⟩, hl⟩ := hl
    subst hnx
    rcases hl with ⟨y9, n9, ci, r, rfl, hr, hM, h1, h2, h3, h4⟩ | ⟨rfl, h1⟩ | ⟨rfl, h1⟩
    · exact so_clv hx hb hml hts hgd hown hK hA hEv hlen rfl hmono hdet hfin hMet hN hr hM h1 h2 h3 h4 hdg k
    · exact so_tlen hx hb hml hown hts hgd hEv hX hlen hN h1 hdg k
    · exact so_tchr hx hb hml hown hts hgd hEv hX hlen hN h1 hdg k
  | invokespecial idx =>
    obtain ⟨⟨hdg, hnx⟩, hl⟩ := hl
    subst hnx
    rcases hl with ⟨y9, n9, ci, rfl, hM, h1, h2, h3, h4⟩ | ⟨rfl, h1, h2, h3⟩
    · exact so_cli hx hb hml hts hgd hown hK hA hEv hlen rfl hmono hdet hfin hMet hN hM h1 h2 h3 h4 hdg k
    · exact so_obj hx hb hml hown (hts _ h1) (hts _ h2) (hts _ h3) hN hdg k
  | ireturn =>
    obtain ⟨⟨hdg, hnx⟩, -⟩ := hl
    exact so_rei hx hb hr hlk0 hK hdg k
  | lreturn =>
    obtain ⟨⟨hdg, hnx⟩, -⟩ := hl
    exact so_rel hx hb hr hlk0 hK hdg k
  | freturn =>
    obtain ⟨⟨hdg, hnx⟩, -⟩ := hl
    exact so_ref hx hb hr hlk0 hK hdg k
  | areturn =>
    obtain ⟨⟨hdg, hnx⟩, -⟩ := hl
    exact so_rea hx hb hr hlk0 hK hdg k
  | return_ =>
    obtain ⟨⟨hdg, hnx⟩, -⟩ := hl
    exact so_rev hx hb hr hlk0 hK hdg k
  | tableswitch df lo hi offs =>
    obtain ⟨⟨len, hdg⟩, hof, htg⟩ := hl
    exact so_sw hx hb hN hdg hof htg k
  | ifCond cnd off =>
    cases cnd with
    | eq =>
      obtain ⟨⟨hdg, hnx⟩, t, rfl, ht⟩ := hl
      subst hnx
      exact so_b1 hN (fun _ _ _ _ _ _ _ k1 k2 => lv_if_eq hx hb hdg ht k1 k2) k
    | lt =>
      obtain ⟨⟨hdg, hnx⟩, t, rfl, ht⟩ := hl
      subst hnx
      exact so_b1 hN (fun _ _ _ _ _ _ _ k1 k2 => lv_if_lt hx hb hdg ht k1 k2) k
    | ge =>
      obtain ⟨⟨hdg, hnx⟩, t, rfl, ht⟩ := hl
      subst hnx
      exact so_b1 hN (fun _ _ _ _ _ _ _ k1 k2 => lv_if_ge hx hb hdg ht k1 k2) k
    | gt =>
      obtain ⟨⟨hdg, hnx⟩, t, rfl, ht⟩ := hl
      subst hnx
      exact so_b1 hN (fun _ _ _ _ _ _ _ k1 k2 => lv_if_gt hx hb hdg ht k1 k2) k
    | le =>
      obtain ⟨⟨hdg, hnx⟩, t, rfl, ht⟩ := hl
      subst hnx
      exact so_b1 hN (fun _ _ _ _ _ _ _ k1 k2 => lv_if_le hx hb hdg ht k1 k2) k
    | ne =>
      obtain ⟨⟨hdg, hnx⟩, t, rfl, ht⟩ := hl
      subst hnx
      exact so_b1 hN (fun _ _ _ _ _ _ _ k1 k2 => lv_if_ne hx hb hdg ht k1 (fun z => k2 (fun q => q z))) k
  | if_icmp cnd off =>
    cases cnd with
    | eq =>
      obtain ⟨⟨hdg, hnx⟩, t, rfl, ht⟩ := hl
      subst hnx
      exact so_b2 hN (fun _ _ _ _ _ _ _ _ k1 k2 => lv_icmp_eq hx hb hdg ht k1 k2) k
    | lt =>
      obtain ⟨⟨hdg, hnx⟩, t, rfl, ht⟩ := hl
      subst hnx
      exact so_b2 hN (fun _ _ _ _ _ _ _ _ k1 k2 => lv_icmp_lt hx hb hdg ht k1 k2) k
    | ge =>
      obtain ⟨⟨hdg, hnx⟩, t, rfl, ht⟩ := hl
      subst hnx
      exact so_b2 hN (fun _ _ _ _ _ _ _ _ k1 k2 => lv_icmp_ge hx hb hdg ht k1 k2) k
    | gt =>
      obtain ⟨⟨hdg, hnx⟩, t, rfl, ht⟩ := hl
      subst hnx
      exact so_b2 hN (fun _ _ _ _ _ _ _ _ k1 k2 => lv_icmp_gt hx hb hdg ht k1 k2) k
    | le =>
      obtain ⟨⟨hdg, hnx⟩, t, rfl, ht⟩ := hl
      subst hnx
      exact so_b2 hN (fun _ _ _ _ _ _ _ _ k1 k2 => lv_icmp_le hx hb hdg ht k1 k2) k
    | ne =>
      obtain ⟨⟨hdg, hnx⟩, t, rfl, ht⟩ := hl
      subst hnx
      exact so_b2 hN (fun _ _ _ _ _ _ _ _ k1 k2 => lv_icmp_ne hx hb hdg ht k1 (fun z => k2 (fun q => q z))) k
  | _ => exact k.1.elim
