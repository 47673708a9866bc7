section
/-! A MACHINE ON PAPER: an interpreter of the bytecode over cells that are numbered in the order of their making. -/
/-- the shape of a cell: an array (type of its entries, length, what it refers to), or an object (number of its class, what its fields refer to) -/
abbrev xS : Type := (FieldType × Nat × List (Option Nat)) ⊕ (Nat × List (Option Nat))
/-- the numbers in the cells: by cell and place -/
abbrev xD : Type := (Nat → Nat → Int32) × (Nat → Nat → Int64) × (Nat → Nat → UInt32)
abbrev xH : Type := List xS × xD
abbrev xL : Type := List (Option Value)
/-- a frame: pc, locals, stack, heap -/
abbrev xF : Type := Nat × xL × List Value × xH
/-- an instruction as the tables have it: the instruction, the next pc, its numbers (targets, class and field, method ..), its constant -/
abbrev xN : Type := Instr × Nat × List Nat × Value
/-- a method: name, bytes, locals, type of the answer, class, its instructions by pc -/
abbrev xM : Type := MethodName × ByteArray × Nat × Option FieldType × String × (Nat → Option xN)
/-- all methods by number, all classes' field types by number, length and letter of the text constants -/
abbrev xE : Type := (Nat → xM) × (Nat → List FieldType) × (Nat → Nat) × (Nat → Nat → Int32)
/-- what an instruction does: go on; go on where a condition holds; choose; call; end -/
abbrev xO : Type := xF ⊕ (Prop × xF) ⊕ (List (Prop × xF) × xF) ⊕ (Nat × List Value × Nat × xL × List Value × xH) ⊕ (Prop × Option Value × xH)
abbrev xP : Type := Option Value → xH → Prop
def xt0 : Nat := 1000000
def x2 {α : Type} (f : Nat → Nat → α) (a k : Nat) (x : α) : Nat → Nat → α := fun b j => bif Nat.beq b a && Nat.beq j k then x else f b j
def x0 {α : Type} (f : Nat → Nat → α) (a : Nat) (z : α) : Nat → Nat → α := fun b j => bif Nat.beq b a then z else f b j
def xrv : Option (Option Nat) → Value
  | some (some q) => .ref q
  | _ => .null
def xget (ty : FieldType) (k a : Nat) (rf : List (Option Nat)) (d : xD) : Value := match ty with
  | .long => .long (d.2.1 a k)
  | .float => .float (d.2.2 a k)
  | .double => .retAddr 0
  | .object _ => xrv rf[k]?
  | .array _ => xrv rf[k]?
  | _ => .int (d.1 a k)
def xno (f : xF) : xO := .inr (.inl (False, f))
def xld (ls : xL) (i : Nat) : Option Value := match ls[i]? with
  | some o => o
  | none => none
/-- a store into a local: what was there before goes, the second half of a long too -/
def xkill (ls : xL) (i : Nat) : xL := match i with
  | 0 => ls
  | j + 1 => match xld ls j with
    | some w => bif Nat.beq w.category 2 then ls.set j none else ls
    | none => ls
def xput (ls : xL) (i : Nat) (v : Value) : Option xL := match ls[i]? with
  | none => none
  | some _ => some ((xkill ls i).set i (some v))
def xput2 (ls : xL) (i : Nat) (v : Value) : Option xL := match ls[i + 1]? with
  | none => none
  | some _ => some (((xkill ls i).set i (some v)).set (i + 1) none)
def xpop : Nat → List Value → List Value → Option (List Value × List Value)
  | 0, st, acc => some (acc, st)
  | _ + 1, [], _ => none
  | n + 1, v :: st, acc => xpop n st (v :: acc)
def xflat : List Value → xL
  | [] => []
  | v :: vs => bif Nat.beq v.category 2 then some v :: none :: xflat vs else some v :: xflat vs
def xpad : Nat → xL → xL
  | 0, l => l
  | n + 1, [] => none :: xpad n []
  | n + 1, v :: l => v :: xpad n l
def xent (M : xM) (av : List Value) : xL := xpad M.2.2.1 (xflat av)
def xcat (st : List Value) : Nat := (st.map fun v => v.category).sum
/-- integers -/
def xii (g : Int32 → Int32 → Int32) (nx : Nat) (ls : xL) (st : List Value) (h : xH) : xO := match st with
  | .int y :: .int x :: r => .inl (nx, ls, .int (g x y) :: r, h)
  | _ => xno (nx, ls, st, h)
def xi (g : Int32 → Value) (nx : Nat) (ls : xL) (st : List Value) (h : xH) : xO := match st with
  | .int x :: r => .inl (nx, ls, g x :: r, h)
  | _ => xno (nx, ls, st, h)
def xiiD (g : Int32 → Int32 → Int32) (nx : Nat) (ls : xL) (st : List Value) (h : xH) : xO := match st with
  | .int y :: .int x :: r => .inr (.inl (¬ y = 0, nx, ls, .int (g x y) :: r, h))
  | _ => xno (nx, ls, st, h)
def xll (g : Int64 → Int64 → Value) (nx : Nat) (ls : xL) (st : List Value) (h : xH) : xO := match st with
  | .long y :: .long x :: r => .inl (nx, ls, g x y :: r, h)
  | _ => xno (nx, ls, st, h)
def xl (g : Int64 → Value) (nx : Nat) (ls : xL) (st : List Value) (h : xH) : xO := match st with
  | .long x :: r => .inl (nx, ls, g x :: r, h)
  | _ => xno (nx, ls, st, h)
def xli (g : Int64 → Int32 → Int64) (nx : Nat) (ls : xL) (st : List Value) (h : xH) : xO := match st with
  | .int y :: .long x :: r => .inl (nx, ls, .long (g x y) :: r, h)
  | _ => xno (nx, ls, st, h)
/-- floats: no answer may be NaN -/
def xff (g : UInt32 → UInt32 → UInt32) (nx : Nat) (ls : xL) (st : List Value) (h : xH) : xO := match st with
  | .float y :: .float x :: r => .inr (.inl (vf_n32 (g x y), nx, ls, .float (g x y) :: r, h))
  | _ => xno (nx, ls, st, h)
def xf (g : UInt32 → Value) (nx : Nat) (ls : xL) (st : List Value) (h : xH) : xO := match st with
  | .float x :: r => .inl (nx, ls, g x :: r, h)
  | _ => xno (nx, ls, st, h)
def xfc (op : CmpOp) (nx : Nat) (ls : xL) (st : List Value) (h : xH) : xO := match st with
  | .float y :: .float x :: r => .inl (nx, ls, .int (Op.cmpValue (FP.fcmp x y) op) :: r, h)
  | _ => xno (nx, ls, st, h)
/-- loads and stores of locals -/
def xloi (i nx : Nat) (ls : xL) (st : List Value) (h : xH) : xO := match xld ls i with
  | some (.int x) => .inl (nx, ls, .int x :: st, h)
  | _ => xno (nx, ls, st, h)
def xlol (i nx : Nat) (ls : xL) (st : List Value) (h : xH) : xO := match xld ls i with
  | some (.long x) => .inl (nx, ls, .long x :: st, h)
  | _ => xno (nx, ls, st, h)
def xlof (i nx : Nat) (ls : xL) (st : List Value) (h : xH) : xO := match xld ls i with
  | some (.float x) => .inl (nx, ls, .float x :: st, h)
  | _ => xno (nx, ls, st, h)
def xloa (i nx : Nat) (ls : xL) (st : List Value) (h : xH) : xO := match xld ls i with
  | some (.ref x) => .inl (nx, ls, .ref x :: st, h)
  | some .null => .inl (nx, ls, .null :: st, h)
  | _ => xno (nx, ls, st, h)
def xsti (i nx : Nat) (ls : xL) (st : List Value) (h : xH) : xO := match st with
  | .int x :: r => (match xput ls i (.int x) with
    | some ls' => .inl (nx, ls', r, h)
    | none => xno (nx, ls, st, h))
  | _ => xno (nx, ls, st, h)
def xstf (i nx : Nat) (ls : xL) (st : List Value) (h : xH) : xO := match st with
  | .float x :: r => (match xput ls i (.float x) with
    | some ls' => .inl (nx, ls', r, h)
    | none => xno (nx, ls, st, h))
  | _ => xno (nx, ls, st, h)
def xsta (i nx : Nat) (ls : xL) (st : List Value) (h : xH) : xO := match st with
  | .ref x :: r => (match xput ls i (.ref x) with
    | some ls' => .inl (nx, ls', r, h)
    | none => xno (nx, ls, st, h))
  | .null :: r => (match xput ls i .null with
    | some ls' => .inl (nx, ls', r, h)
    | none => xno (nx, ls, st, h))
  | _ => xno (nx, ls, st, h)
def xstl (i nx : Nat) (ls : xL) (st : List Value) (h : xH) : xO := match st with
  | .long x :: r => (match xput2 ls i (.long x) with
    | some ls' => .inl (nx, ls', r, h)
    | none => xno (nx, ls, st, h))
  | _ => xno (nx, ls, st, h)
def xinc (i : Nat) (v : Value) (nx : Nat) (ls : xL) (st : List Value) (h : xH) : xO := match xld ls i, v with
  | some (.int x), .int k => (match xput ls i (.int (x + k)) with
    | some ls' => .inl (nx, ls', st, h)
    | none => xno (nx, ls, st, h))
  | _, _ => xno (nx, ls, st, h)
/-- branches -/
def xb1t (g : Int32 → Prop) (nx t : Nat) (ls : xL) (st : List Value) (h : xH) : xO := match st with
  | .int x :: r => .inr (.inr (.inl ([(g x, t, ls, r, h)], nx, ls, r, h)))
  | _ => xno (nx, ls, st, h)
def xb1 (g : Int32 → Prop) (nx : Nat) (tg : List Nat) (ls : xL) (st : List Value) (h : xH) : xO := match tg with
  | [t] => xb1t g nx t ls st h
  | _ => xno (nx, ls, st, h)
def xb2t (g : Int32 → Int32 → Prop) (nx t : Nat) (ls : xL) (st : List Value) (h : xH) : xO := match st with
  | .int y :: .int x :: r => .inr (.inr (.inl ([(g x y, t, ls, r, h)], nx, ls, r, h)))
  | _ => xno (nx, ls, st, h)
def xb2 (g : Int32 → Int32 → Prop) (nx : Nat) (tg : List Nat) (ls : xL) (st : List Value) (h : xH) : xO := match tg with
  | [t] => xb2t g nx t ls st h
  | _ => xno (nx, ls, st, h)
def xnul (a b : Nat) (ls : xL) (st : List Value) (h : xH) : xO := match st with
  | .null :: r => .inl (a, ls, r, h)
  | .ref _ :: r => .inl (b, ls, r, h)
  | _ => xno (0, ls, st, h)
def xsw (ls : xL) (r : List Value) (h : xH) (x : Int32) : Int → List Nat → List (Prop × xF)
  | _, [] => []
  | k, t :: ts => (x.toInt = k, t, ls, r, h) :: xsw ls r h x (k + 1) ts
/-- fields -/
def xgft (E : xE) (nx ci k : Nat) (ls : xL) (st : List Value) (h : xH) : xO := match st with
  | .ref a :: r => (match h.1[a]?, (E.2.1 ci)[k]? with
    | some (.inr (c2, rf)), some ty => (bif Nat.beq c2 ci then .inl (nx, ls, xget ty k a rf h.2 :: r, h) else xno (nx, ls, st, h))
    | _, _ => xno (nx, ls, st, h))
  | _ => xno (nx, ls, st, h)
def xgf (E : xE) (nx : Nat) (tg : List Nat) (ls : xL) (st : List Value) (h : xH) : xO := match tg with
  | [ci, k] => xgft E nx ci k ls st h
  | _ => xno (nx, ls, st, h)
def xwr (nx : Nat) (ls : xL) (r st : List Value) (h : xH) (a ci k : Nat) (rf : List (Option Nat)) (ty : FieldType) (v : Value) : xO := match ty, v with
  | .int, .int x => .inl (nx, ls, r, h.1, x2 h.2.1 a k x, h.2.2)
  | .boolean, .int x => .inr (.inl (x = 0 ∨ x = 1, nx, ls, r, h.1, x2 h.2.1 a k x, h.2.2))
  | .long, .long x => .inl (nx, ls, r, h.1, h.2.1, x2 h.2.2.1 a k x, h.2.2.2)
  | .float, .float x => .inl (nx, ls, r, h.1, h.2.1, h.2.2.1, x2 h.2.2.2 a k x)
  | .object _, .ref q => .inl (nx, ls, r, h.1.set a (.inr (ci, rf.set k (some q))), h.2)
  | .array _, .ref q => .inl (nx, ls, r, h.1.set a (.inr (ci, rf.set k (some q))), h.2)
  | .object _, .null => .inl (nx, ls, r, h.1.set a (.inr (ci, rf.set k none)), h.2)
  | .array _, .null => .inl (nx, ls, r, h.1.set a (.inr (ci, rf.set k none)), h.2)
  | _, _ => xno (nx, ls, st, h)
def xpft (E : xE) (nx ci k : Nat) (ls : xL) (st : List Value) (h : xH) : xO := match st with
  | v :: .ref a :: r => (match h.1[a]?, (E.2.1 ci)[k]? with
    | some (.inr (c2, rf)), some ty => (bif Nat.beq c2 ci then xwr nx ls r st h a ci k rf ty v else xno (nx, ls, st, h))
    | _, _ => xno (nx, ls, st, h))
  | _ => xno (nx, ls, st, h)
def xpf (E : xE) (nx : Nat) (tg : List Nat) (ls : xL) (st : List Value) (h : xH) : xO := match tg with
  | [ci, k] => xpft E nx ci k ls st h
  | _ => xno (nx, ls, st, h)
/-- arrays -/
def xaldI (nx : Nat) (ls : xL) (st : List Value) (h : xH) : xO := match st with
  | .int i :: .ref a :: r => (match h.1[a]? with
    | some (.inl (.int, n, _)) => .inr (.inl (vp_in i n, nx, ls, .int (h.2.1 a i.toNatClampNeg) :: r, h))
    | _ => xno (nx, ls, st, h))
  | _ => xno (nx, ls, st, h)
def xaldB (nx : Nat) (ls : xL) (st : List Value) (h : xH) : xO := match st with
  | .int i :: .ref a :: r => (match h.1[a]? with
    | some (.inl (.byte, n, _)) => .inr (.inl (vp_in i n, nx, ls, .int (h.2.1 a i.toNatClampNeg) :: r, h))
    | _ => xno (nx, ls, st, h))
  | _ => xno (nx, ls, st, h)
def xaldL (nx : Nat) (ls : xL) (st : List Value) (h : xH) : xO := match st with
  | .int i :: .ref a :: r => (match h.1[a]? with
    | some (.inl (.long, n, _)) => .inr (.inl (vp_in i n, nx, ls, .long (h.2.2.1 a i.toNatClampNeg) :: r, h))
    | _ => xno (nx, ls, st, h))
  | _ => xno (nx, ls, st, h)
def xaldF (nx : Nat) (ls : xL) (st : List Value) (h : xH) : xO := match st with
  | .int i :: .ref a :: r => (match h.1[a]? with
    | some (.inl (.float, n, _)) => .inr (.inl (vp_in i n, nx, ls, .float (h.2.2.2 a i.toNatClampNeg) :: r, h))
    | _ => xno (nx, ls, st, h))
  | _ => xno (nx, ls, st, h)
def xaldA (nx : Nat) (ls : xL) (st : List Value) (h : xH) : xO := match st with
  | .int i :: .ref a :: r => (match h.1[a]? with
    | some (.inl (.array .float, n, rs)) => .inr (.inl (vp_in i n, nx, ls, xrv rs[i.toNatClampNeg]? :: r, h))
    | _ => xno (nx, ls, st, h))
  | _ => xno (nx, ls, st, h)
def xastI (nx : Nat) (ls : xL) (st : List Value) (h : xH) : xO := match st with
  | .int x :: .int i :: .ref a :: r => (match h.1[a]? with
    | some (.inl (.int, n, _)) => .inr (.inl (vp_in i n, nx, ls, r, h.1, x2 h.2.1 a i.toNatClampNeg x, h.2.2))
    | _ => xno (nx, ls, st, h))
  | _ => xno (nx, ls, st, h)
def xastB (nx : Nat) (ls : xL) (st : List Value) (h : xH) : xO := match st with
  | .int x :: .int i :: .ref a :: r => (match h.1[a]? with
    | some (.inl (.byte, n, _)) => .inr (.inl (vp_in i n, nx, ls, r, h.1, x2 h.2.1 a i.toNatClampNeg x.toInt8.toInt32, h.2.2))
    | _ => xno (nx, ls, st, h))
  | _ => xno (nx, ls, st, h)
def xastL (nx : Nat) (ls : xL) (st : List Value) (h : xH) : xO := match st with
  | .long x :: .int i :: .ref a :: r => (match h.1[a]? with
    | some (.inl (.long, n, _)) => .inr (.inl (vp_in i n, nx, ls, r, h.1, h.2.1, x2 h.2.2.1 a i.toNatClampNeg x, h.2.2.2))
    | _ => xno (nx, ls, st, h))
  | _ => xno (nx, ls, st, h)
def xastF (nx : Nat) (ls : xL) (st : List Value) (h : xH) : xO := match st with
  | .float x :: .int i :: .ref a :: r => (match h.1[a]? with
    | some (.inl (.float, n, _)) => .inr (.inl (vp_in i n, nx, ls, r, h.1, h.2.1, h.2.2.1, x2 h.2.2.2 a i.toNatClampNeg x))
    | _ => xno (nx, ls, st, h))
  | _ => xno (nx, ls, st, h)
def xaln (nx : Nat) (ls : xL) (st : List Value) (h : xH) : xO := match st with
  | .ref a :: r => (match h.1[a]? with
    | some (.inl (_, n, _)) => .inl (nx, ls, .int (Int32.ofNat n) :: r, h)
    | _ => xno (nx, ls, st, h))
  | _ => xno (nx, ls, st, h)
def xclr (d : xD) (q : Nat) : xD := (x0 d.1 q 0, x0 d.2.1 q 0, x0 d.2.2 q 0)
def xnew (E : xE) (nx : Nat) (tg : List Nat) (ls : xL) (st : List Value) (h : xH) : xO := match tg with
  | [ci] => .inl (nx, ls, .ref h.1.length :: st, h.1 ++ [.inr (ci, (E.2.1 ci).map fun _ => none)], xclr h.2 h.1.length)
  | _ => xno (nx, ls, st, h)
def xoka : FieldType → Bool
  | .int => true | .byte => true | .long => true | .float => true
  | _ => false
def xnar (ty : FieldType) (nx : Nat) (ls : xL) (st : List Value) (h : xH) : xO := match st with
  | .int n :: r => (bif xoka ty then .inr (.inl (¬ n < 0 ∧ n.toNatClampNeg ≤ 1000000, nx, ls, .ref h.1.length :: r, h.1 ++ [.inl (ty, n.toNatClampNeg, [])], xclr h.2 h.1.length)) else xno (nx, ls, st, h))
  | _ => xno (nx, ls, st, h)
def xty : ArrayType → FieldType
  | .boolean => .boolean | .char => .char | .float => .float | .double => .double | .byte => .byte | .short => .short | .int => .int | .long => .long
/-- new T[2][n] -/
def xmul (nx : Nat) (ls : xL) (st : List Value) (h : xH) : xO := match st with
  | .int n :: .int k :: r => .inr (.inl (k = 2 ∧ ¬ n < 0 ∧ n.toNatClampNeg ≤ 1000000, nx, ls, .ref h.1.length :: r, h.1 ++ [.inl (.array .float, 2, [some (h.1.length + 1), some (h.1.length + 2)]), .inl (.float, n.toNatClampNeg, []), .inl (.float, n.toNatClampNeg, [])], xclr (xclr (xclr h.2 h.1.length) (h.1.length + 1)) (h.1.length + 2)))
  | _ => xno (nx, ls, st, h)
/-- calls: [method, parameters] static; [method, parameters, class] of an object; [] of an object: Object(); [0], [1]: length and charAt of a text; [2], [3]: max and min -/
def xcl (E : xE) (nx : Nat) (ls : xL) (st : List Value) (h : xH) (y n : Nat) : xO := match xpop n st [] with
  | some (av, r) => (bif Nat.ble (xcat r) 8 && Nat.ble (xflat av).length (E.1 y).2.2.1 then .inr (.inr (.inr (.inl (y, av, nx, ls, r, h)))) else xno (nx, ls, st, h))
  | none => xno (nx, ls, st, h)
def xis (E : xE) (ci : Nat) (av : List Value) (h : xH) : Bool := match av with
  | .ref b :: _ => (match h.1[b]? with
    | some (.inr (c2, _)) => Nat.beq c2 ci
    | _ => false)
  | _ => false
def xclv (E : xE) (nx : Nat) (ls : xL) (st : List Value) (h : xH) (y n ci : Nat) : xO := match xpop (n + 1) st [] with
  | some (av, r) => (bif Nat.ble (xcat r) 8 && Nat.ble (xflat av).length (E.1 y).2.2.1 && xis E ci av h then .inr (.inr (.inr (.inl (y, av, nx, ls, r, h)))) else xno (nx, ls, st, h))
  | none => xno (nx, ls, st, h)
def xmax (nx : Nat) (ls : xL) (st : List Value) (h : xH) : xO := match st with
  | .int y :: .int x :: r => (bif Nat.ble (xcat r) 8 then .inl (nx, ls, .int (if x < y then y else x) :: r, h) else xno (nx, ls, st, h))
  | _ => xno (nx, ls, st, h)
def xmin (nx : Nat) (ls : xL) (st : List Value) (h : xH) : xO := match st with
  | .int y :: .int x :: r => (bif Nat.ble (xcat r) 8 then .inl (nx, ls, .int (if y < x then y else x) :: r, h) else xno (nx, ls, st, h))
  | _ => xno (nx, ls, st, h)
def xivs (E : xE) (nx : Nat) (tg : List Nat) (ls : xL) (st : List Value) (h : xH) : xO := match tg with
  | [y, n] => xcl E nx ls st h y n
  | [2] => xmax nx ls st h
  | [3] => xmin nx ls st h
  | _ => xno (nx, ls, st, h)
def xtl (E : xE) (nx : Nat) (ls : xL) (st : List Value) (h : xH) : xO := match st with
  | .ref a :: r => (bif Nat.ble xt0 a && Nat.ble (xcat r) 8 then .inl (nx, ls, .int (nI (E.2.2.1 (a - xt0))) :: r, h) else xno (nx, ls, st, h))
  | _ => xno (nx, ls, st, h)
def xtc (E : xE) (nx : Nat) (ls : xL) (st : List Value) (h : xH) : xO := match st with
  | .int i :: .ref a :: r => (bif Nat.ble xt0 a && Nat.ble (xcat r) 8 then .inr (.inl (vp_in i (E.2.2.1 (a - xt0)), nx, ls, .int (E.2.2.2 (a - xt0) i.toNatClampNeg) :: r, h)) else xno (nx, ls, st, h))
  | _ => xno (nx, ls, st, h)
def xivv (E : xE) (nx : Nat) (tg : List Nat) (ls : xL) (st : List Value) (h : xH) : xO := match tg with
  | [y, n, ci] => xclv E nx ls st h y n ci
  | [0] => xtl E nx ls st h
  | [1] => xtc E nx ls st h
  | _ => xno (nx, ls, st, h)
def xobj (nx : Nat) (ls : xL) (st : List Value) (h : xH) : xO := match st with
  | .ref _ :: r => (bif Nat.ble (xcat r) 8 then .inl (nx, ls, r, h) else xno (nx, ls, st, h))
  | _ => xno (nx, ls, st, h)
def xivi (E : xE) (nx : Nat) (tg : List Nat) (ls : xL) (st : List Value) (h : xH) : xO := match tg with
  | [y, n, ci] => xclv E nx ls st h y n ci
  | [] => xobj nx ls st h
  | _ => xno (nx, ls, st, h)
def xswt (lo : Int) (nx t : Nat) (ts : List Nat) (ls : xL) (st : List Value) (h : xH) : xO := match st with
  | .int x :: r => .inr (.inr (.inl (xsw ls r h x lo ts, t, ls, r, h)))
  | _ => xno (nx, ls, st, h)
/-- ends -/
def xrei (M : xM) (st : List Value) (h : xH) : xO := match M.2.2.2.1, st with
  | some .int, [.int v] => .inr (.inr (.inr (.inr (True, some (.int v), h))))
  | some .boolean, [.int v] => .inr (.inr (.inr (.inr (v &&& 1 = v, some (.int v), h))))
  | _, _ => xno (0, [], st, h)
def xrel (M : xM) (st : List Value) (h : xH) : xO := match M.2.2.2.1, st with
  | some .long, [.long v] => .inr (.inr (.inr (.inr (True, some (.long v), h))))
  | _, _ => xno (0, [], st, h)
def xref (M : xM) (st : List Value) (h : xH) : xO := match M.2.2.2.1, st with
  | some .float, [.float v] => .inr (.inr (.inr (.inr (True, some (.float v), h))))
  | _, _ => xno (0, [], st, h)
def xrea (M : xM) (st : List Value) (h : xH) : xO := match M.2.2.2.1, st with
  | some (.object _), [.ref v] => .inr (.inr (.inr (.inr (True, some (.ref v), h))))
  | some (.array _), [.ref v] => .inr (.inr (.inr (.inr (True, some (.ref v), h))))
  | some (.object _), [.null] => .inr (.inr (.inr (.inr (True, some .null, h))))
  | some (.array _), [.null] => .inr (.inr (.inr (.inr (True, some .null, h))))
  | _, _ => xno (0, [], st, h)
def xrev (M : xM) (st : List Value) (h : xH) : xO := match M.2.2.2.1, st with
  | none, [] => .inr (.inr (.inr (.inr (True, none, h))))
  | _, _ => xno (0, [], st, h)
/-- the stack -/
def xdup (nx : Nat) (ls : xL) (st : List Value) (h : xH) : xO := match st with
  | v :: r => (bif Nat.beq v.category 1 then .inl (nx, ls, v :: v :: r, h) else xno (nx, ls, st, h))
  | _ => xno (nx, ls, st, h)
def xpo (nx : Nat) (ls : xL) (st : List Value) (h : xH) : xO := match st with
  | v :: r => (bif Nat.beq v.category 1 then .inl (nx, ls, r, h) else xno (nx, ls, st, h))
  | _ => xno (nx, ls, st, h)
def xdx1 (nx : Nat) (ls : xL) (st : List Value) (h : xH) : xO := match st with
  | v :: w :: r => (bif Nat.beq v.category 1 && Nat.beq w.category 1 then .inl (nx, ls, v :: w :: v :: r, h) else xno (nx, ls, st, h))
  | _ => xno (nx, ls, st, h)
def xdx2 (nx : Nat) (ls : xL) (st : List Value) (h : xH) : xO := match st with
  | v :: w :: z :: r => (bif Nat.beq v.category 1 && Nat.beq w.category 1 && Nat.beq z.category 1 then .inl (nx, ls, v :: w :: z :: v :: r, h) else xno (nx, ls, st, h))
  | _ => xno (nx, ls, st, h)
def xd2 (nx : Nat) (ls : xL) (st : List Value) (h : xH) : xO := match st with
  | v :: w :: r => (bif Nat.beq v.category 1 && Nat.beq w.category 1 then .inl (nx, ls, v :: w :: v :: w :: r, h) else bif Nat.beq v.category 2 then .inl (nx, ls, v :: v :: w :: r, h) else xno (nx, ls, st, h))
  | [v] => (bif Nat.beq v.category 2 then .inl (nx, ls, [v, v], h) else xno (nx, ls, st, h))
  | _ => xno (nx, ls, st, h)
def xd2x1 (nx : Nat) (ls : xL) (st : List Value) (h : xH) : xO := match st with
  | v :: w :: r => (bif Nat.beq v.category 2 && Nat.beq w.category 1 then .inl (nx, ls, v :: w :: v :: r, h) else xno (nx, ls, st, h))
  | _ => xno (nx, ls, st, h)
end
section
/-- one instruction -/
def xins (E : xE) (M : xM) (i : Instr) (nx : Nat) (tg : List Nat) (v : Value) (ls : xL) (st : List Value) (h : xH) : xO := match i with
  | .iconst _ => .inl (nx, ls, v :: st, h)
  | .bipush _ => .inl (nx, ls, v :: st, h)
  | .sipush _ => .inl (nx, ls, v :: st, h)
  | .lconst _ => .inl (nx, ls, v :: st, h)
  | .fconst _ => .inl (nx, ls, v :: st, h)
  | .ldc _ => .inl (nx, ls, v :: st, h)
  | .ldc_w _ => .inl (nx, ls, v :: st, h)
  | .ldc2_w _ => .inl (nx, ls, v :: st, h)
  | .aconst_null => .inl (nx, ls, .null :: st, h)
  | .iload k => xloi k nx ls st h
  | .iload_n k => xloi k.val nx ls st h
  | .lload k => xlol k nx ls st h
  | .lload_n k => xlol k.val nx ls st h
  | .fload k => xlof k nx ls st h
  | .fload_n k => xlof k.val nx ls st h
  | .aload k => xloa k nx ls st h
  | .aload_n k => xloa k.val nx ls st h
  | .istore k => xsti k nx ls st h
  | .istore_n k => xsti k.val nx ls st h
  | .lstore k => xstl k nx ls st h
  | .lstore_n k => xstl k.val nx ls st h
  | .fstore k => xstf k nx ls st h
  | .fstore_n k => xstf k.val nx ls st h
  | .astore k => xsta k nx ls st h
  | .astore_n k => xsta k.val nx ls st h
  | .iinc k _ => xinc k v nx ls st h
  | .iadd => xii (fun x y => x + y) nx ls st h
  | .isub => xii (fun x y => x - y) nx ls st h
  | .imul => xii (fun x y => x * y) nx ls st h
  | .iand => xii (fun x y => x &&& y) nx ls st h
  | .ior => xii (fun x y => x ||| y) nx ls st h
  | .ixor => xii (fun x y => x ^^^ y) nx ls st h
  | .idiv => xiiD (fun x y => x / y) nx ls st h
  | .irem => xiiD (fun x y => x - x / y * y) nx ls st h
  | .ineg => xi (fun x => .int (-x)) nx ls st h
  | .ishl => xii (fun x y => x <<< (y &&& 31)) nx ls st h
  | .ishr => xii (fun x y => x >>> (y &&& 31)) nx ls st h
  | .iushr => xii (fun x y => (x.toUInt32 >>> (y.toUInt32 &&& Int32.toUInt32 31)).toInt32) nx ls st h
  | .i2l => xi (fun x => .long x.toInt64) nx ls st h
  | .i2b => xi (fun x => .int x.toInt8.toInt32) nx ls st h
  | .i2c => xi (fun x => .int (x.toUInt32 % 65536).toInt32) nx ls st h
  | .i2s => xi (fun x => .int x.toInt16.toInt32) nx ls st h
  | .i2f => xi (fun x => .float (FP.i2f x)) nx ls st h
  | .ladd => xll (fun x y => .long (x + y)) nx ls st h
  | .lsub => xll (fun x y => .long (x - y)) nx ls st h
  | .lmul => xll (fun x y => .long (x * y)) nx ls st h
  | .land => xll (fun x y => .long (x &&& y)) nx ls st h
  | .lor => xll (fun x y => .long (x ||| y)) nx ls st h
  | .lxor => xll (fun x y => .long (x ^^^ y)) nx ls st h
  | .lcmp => xll (fun x y => .int (lg_cmp x y)) nx ls st h
  | .lneg => xl (fun x => .long (-x)) nx ls st h
  | .lshl => xli (fun x y => x <<< (y.toInt64 &&& 63)) nx ls st h
  | .lshr => xli (fun x y => x >>> (y.toInt64 &&& 63)) nx ls st h
  | .lushr => xli (fun x y => (x.toUInt64 >>> (y.toInt64.toUInt64 &&& Int64.toUInt64 63)).toInt64) nx ls st h
  | .l2i => xl (fun x => .int x.toInt32) nx ls st h
  | .l2f => xl (fun x => .float (FP.l2f x)) nx ls st h
  | .fadd => xff FP.fadd nx ls st h
  | .fsub => xff FP.fsub nx ls st h
  | .fmul => xff FP.fmul nx ls st h
  | .fdiv => xff FP.fdiv nx ls st h
  | .fneg => xf (fun x => .float (FP.fneg x)) nx ls st h
  | .f2i => xf (fun x => .int (FP.f2i x)) nx ls st h
  | .fcmp op => xfc op nx ls st h
  | .dup => xdup nx ls st h
  | .dup_x1 => xdx1 nx ls st h
  | .dup_x2 => xdx2 nx ls st h
  | .dup2 => xd2 nx ls st h
  | .dup2_x1 => xd2x1 nx ls st h
  | .pop => xpo nx ls st h
  | .ifCond .eq _ => xb1 (fun x => x = 0) nx tg ls st h
  | .ifCond .ne _ => xb1 (fun x => ¬ x = 0) nx tg ls st h
  | .ifCond .lt _ => xb1 (fun x => x < 0) nx tg ls st h
  | .ifCond .ge _ => xb1 (fun x => 0 ≤ x) nx tg ls st h
  | .ifCond .gt _ => xb1 (fun x => 0 < x) nx tg ls st h
  | .ifCond .le _ => xb1 (fun x => x ≤ 0) nx tg ls st h
  | .if_icmp .eq _ => xb2 (fun x y => x = y) nx tg ls st h
  | .if_icmp .ne _ => xb2 (fun x y => ¬ x = y) nx tg ls st h
  | .if_icmp .lt _ => xb2 (fun x y => x < y) nx tg ls st h
  | .if_icmp .ge _ => xb2 (fun x y => y ≤ x) nx tg ls st h
  | .if_icmp .gt _ => xb2 (fun x y => y < x) nx tg ls st h
  | .if_icmp .le _ => xb2 (fun x y => x ≤ y) nx tg ls st h
  | .ifnull _ => (match tg with
    | [t] => xnul t nx ls st h
    | _ => xno (nx, ls, st, h))
  | .ifnonnull _ => (match tg with
    | [t] => xnul nx t ls st h
    | _ => xno (nx, ls, st, h))
  | .goto _ => (match tg with
    | [t] => .inl (t, ls, st, h)
    | _ => xno (nx, ls, st, h))
  | .tableswitch _ lo _ _ => (match tg with
    | t :: ts => xswt lo nx t ts ls st h
    | _ => xno (nx, ls, st, h))
  | .getfield _ => xgf E nx tg ls st h
  | .putfield _ => xpf E nx tg ls st h
  | .iaload => xaldI nx ls st h
  | .baload => xaldB nx ls st h
  | .laload => xaldL nx ls st h
  | .faload => xaldF nx ls st h
  | .aaload => xaldA nx ls st h
  | .iastore => xastI nx ls st h
  | .bastore => xastB nx ls st h
  | .lastore => xastL nx ls st h
  | .fastore => xastF nx ls st h
  | .arraylength => xaln nx ls st h
  | .new _ => xnew E nx tg ls st h
  | .newarray a => xnar (xty a) nx ls st h
  | .multianewarray _ _ => xmul nx ls st h
  | .invokestatic _ => xivs E nx tg ls st h
  | .invokevirtual _ => xivv E nx tg ls st h
  | .invokespecial _ => xivi E nx tg ls st h
  | .ireturn => xrei M st h
  | .lreturn => xrel M st h
  | .freturn => xref M st h
  | .areturn => xrea M st h
  | .return_ => xrev M st h
  | _ => xno (nx, ls, st, h)
def xstep (E : xE) (M : xM) (f : xF) : xO := match f with
  | (pc, ls, st, h) => match M.2.2.2.2.2 pc with
    | none => xno (pc, ls, st, h)
    | some (i, nx, tg, v) => xins E M i nx tg v ls st h
def xdl (rn : xF → Prop) : List (Prop × xF) → xF → Prop
  | [], f => rn f
  | (c, g) :: t, f => (c → rn g) ∧ (¬ c → xdl rn t f)
/-- what must hold ahead of an instruction: rc for a called method, rn for the next instruction -/
def xwo (E : xE) (rc : Nat → xM → xF → xP → Prop) (rn : xF → xP → Prop) (d : Nat) (Q : xP) (o : xO) : Prop := match o with
  | .inl g => rn g Q
  | .inr (.inl (C, g)) => C ∧ rn g Q
  | .inr (.inr (.inl (cs, g))) => xdl (fun g => rn g Q) cs g
  | .inr (.inr (.inr (.inl (y, av, pc, ls, st, h)))) => (match d with
    | 0 => False
    | d + 1 => rc d (E.1 y) (0, xent (E.1 y) av, [], h) (fun v h' => rn (pc, ls, v.toList ++ st, h') Q))
  | .inr (.inr (.inr (.inr (C, v, h)))) => C ∧ Q v h
def xwp (E : xE) (rc : Nat → xM → xF → xP → Prop) (rn : xF → xP → Prop) (d : Nat) (M : xM) (f : xF) (Q : xP) : Prop := xwo E rc rn d Q (xstep E M f)
def xr (E : xE) : Nat → Nat → xM → xF → xP → Prop
  | 0, _, _, _, _ => False
  | n + 1, d, M, f, Q => xwp E (xr E n) (xr E n d M) d M f Q
def XC (E : xE) (d : Nat) (M : xM) (f : xF) (Q : xP) : Prop := ∃ n, xr E n d M f Q
/-- a method, called with these values -/
def XM (E : xE) (d : Nat) (y : Nat) (av : List Value) (h : xH) (Q : xP) : Prop := XC E d (E.1 y) (0, xent (E.1 y) av, [], h) Q
def xin (n : Nat) : List Nat → Bool
  | [] => false
  | a :: t => bif Nat.beq n a then true else xin n t
/-- from here to the next cut -/
def xs (E : xE) (cuts : List Nat) : Nat → Nat → xM → xF → xP → Prop
  | 0, d, M, f, Q => XC E d M f Q
  | n + 1, d, M, f, Q => xwp E (XC E) (fun f' Q' => bif xin f'.1 cuts then XC E d M f' Q' else xs E cuts n d M f' Q') d M f Q
/-! laws -/
theorem xdl_mono {r1 r2 : xF → Prop} (h : ∀ f, r1 f → r2 f) : ∀ (cs : List (Prop × xF)) (g : xF), xdl r1 cs g → xdl r2 cs g
  | [], g, k => h g k
  | (_, _) :: t, g, k => ⟨fun c => h _ (k.1 c), fun c => xdl_mono h t g (k.2 c)⟩
theorem xwp_mono {E : xE} {rc rc' : Nat → xM → xF → xP → Prop} {rn rn' : xF → xP → Prop} {d : Nat} {M : xM} {f : xF} {Q Q' : xP}
    (hc : ∀ d M f (P P' : xP), (∀ v h, P v h → P' v h) → rc d M f P → rc' d M f P') (hn : ∀ f, rn f Q → rn' f Q') (hQ : ∀ v h, Q v h → Q' v h) (k : xwp E rc rn d M f Q) : xwp E rc' rn' d M f Q' := by
  unfold xwp xwo at k ⊢
  split at k
  · exact hn _ k
  · exact ⟨k.1, hn _ k.2⟩
  · exact xdl_mono (fun g => hn g) _ _ k
  · split at k
    · exact k.elim
    · exact hc _ _ _ _ _ (fun v h => hn _) k
  · exact ⟨k.1, hQ _ _ k.2⟩
theorem xr_Q {E : xE} : ∀ (n d : Nat) (M : xM) (f : xF) (Q Q' : xP), (∀ v h, Q v h → Q' v h) → xr E n d M f Q → xr E n d M f Q'
  | 0, _, _, _, _, _, _, k => k
  | n + 1, _, _, _, _, _, hQ, k => xwp_mono (fun d M f P P' h => xr_Q n d M f P P' h) (fun f => xr_Q n _ _ f _ _ hQ) hQ k
theorem xr_S {E : xE} : ∀ (n d : Nat) (M : xM) (f : xF) (Q : xP), xr E n d M f Q → xr E (n + 1) d M f Q
  | 0, _, _, _, _, k => k.elim
  | n + 1, d, M, f, Q, k => by
    refine xwp_mono (rc := xr E n) (rn := xr E n d M) (fun d M f P P' h k => xr_Q (n + 1) d M f P P' h (xr_S n d M f P k)) (fun f => xr_S n d M f Q) (fun _ _ h => h) k
theorem xr_le {E : xE} {n m d : Nat} {M : xM} {f : xF} {Q : xP} (hnm : n ≤ m) (k : xr E n d M f Q) : xr E m d M f Q := by
  induction hnm with
  | refl => exact k
  | step _ ih => exact xr_S _ _ _ _ _ ih
theorem XC.mono {E : xE} {d : Nat} {M : xM} {f : xF} {Q Q' : xP} (h : ∀ v h, Q v h → Q' v h) (k : XC E d M f Q) : XC E d M f Q' := by
  obtain ⟨n, k⟩ := k
  exact ⟨n, xr_Q n _ _ _ _ _ h k⟩
theorem xdl_det {rn : xF → xP → Prop} {Q : xP} (H : ∀ f, rn f Q → ∃ v h, Q v h ∧ rn f (fun v' h' => v' = v ∧ h' = h)) : ∀ (cs : List (Prop × xF)) (g : xF), xdl (fun g => rn g Q) cs g → ∃ v h, Q v h ∧ xdl (fun g => rn g (fun v' h' => v' = v ∧ h' = h)) cs g
  | [], g, k => H g k
  | (c, g1) :: t, g, k => by
    by_cases hc : c
    · obtain ⟨v, h, q, k2⟩ := H g1 (k.1 hc)
      exact ⟨v, h, q, fun _ => k2, fun z => absurd hc z⟩
    · obtain ⟨v, h, q, k2⟩ := xdl_det H t g (k.2 hc)
      exact ⟨v, h, q, fun z => absurd z hc, fun _ => k2⟩
theorem xdl_ex {E : xE} {d : Nat} {M : xM} {Q : xP} : ∀ (cs : List (Prop × xF)) (g : xF), xdl (fun g => XC E d M g Q) cs g → ∃ n, xdl (fun g => xr E n d M g Q) cs g
  | [], g, k => k
  | (c, g1) :: t, g, k => by
    by_cases hc : c
    · obtain ⟨n, k⟩ := k.1 hc
      exact ⟨n, fun _ => k, fun z => absurd hc z⟩
    · obtain ⟨n, k⟩ := xdl_ex t g (k.2 hc)
      exact ⟨n, fun z => absurd z hc, fun _ => k⟩
/-- there is one end -/
theorem xr_det {E : xE} : ∀ (n d : Nat) (M : xM) (f : xF) (Q : xP), xr E n d M f Q → ∃ v h, Q v h ∧ xr E n d M f (fun v' h' => v' = v ∧ h' = h)
  | 0, _, _, _, _, k => k.elim
  | n + 1, d, M, f, Q, k => by
    have k1 : xwp E (xr E n) (xr E n d M) d M f Q := k
    show ∃ v h, Q v h ∧ xwp E (xr E n) (xr E n d M) d M f (fun v' h' => v' = v ∧ h' = h)
    unfold xwp xwo at k1 ⊢
    split at k1
    · exact xr_det n _ _ _ _ k1
    · obtain ⟨c, k1⟩ := k1
      obtain ⟨v, h, q, k2⟩ := xr_det n _ _ _ _ k1
      exact ⟨v, h, q, c, k2⟩
    · exact xdl_det (rn := xr E n d M) (fun f k => xr_det n _ _ _ _ k) _ _ k1
    · split at k1
      · exact k1.elim
      · obtain ⟨v, h, q, k2⟩ := xr_det n _ _ _ _ k1
        obtain ⟨v2, h2, q2, k3⟩ := xr_det n _ _ _ _ q
        exact ⟨v2, h2, q2, xr_Q n _ _ _ _ _ (fun v' h' e => by obtain ⟨rfl, rfl⟩ := e; exact k3) k2⟩
    · exact ⟨_, _, k1.2, k1.1, rfl, rfl⟩
theorem XC.step {E : xE} {d : Nat} {M : xM} {f : xF} {Q : xP} (k : xwp E (XC E) (XC E d M) d M f Q) : XC E d M f Q := by
  suffices h : ∃ n, xwp E (xr E n) (xr E n d M) d M f Q by
    obtain ⟨n, h⟩ := h
    exact ⟨n + 1, h⟩
  unfold xwp xwo at k ⊢
  split at k
  · obtain ⟨n, k⟩ := k
    exact ⟨n, k⟩
  · obtain ⟨c, n, k⟩ := k
    exact ⟨n, c, k⟩
  · exact xdl_ex _ _ k
  · split at k
    · exact k.elim
    · obtain ⟨n, k⟩ := k
      obtain ⟨v, h, ⟨m, q⟩, k2⟩ := xr_det n _ _ _ _ k
      refine ⟨max n m, xr_le (Nat.le_max_left n m) (xr_Q n _ _ _ _ _ (fun v' h' e => ?_) k2)⟩
      obtain ⟨rfl, rfl⟩ := e
      exact xr_le (Nat.le_max_right n m) q
  · exact ⟨0, k⟩
theorem XC.block {E : xE} (cuts : List Nat) : ∀ (n : Nat) {d : Nat} {M : xM} {f : xF} {Q : xP}, xs E cuts n d M f Q → XC E d M f Q
  | 0, _, _, _, _, k => k
  | n + 1, d, M, f, Q, k => by
    refine XC.step (xwp_mono (rc := XC E) (rn := fun f' Q' => bif xin f'.1 cuts then XC E d M f' Q' else xs E cuts n d M f' Q') (fun d M f P P' h k => k.mono h) (fun f' k2 => ?_) (fun _ _ h => h) k)
    cases hx : xin f'.1 cuts with
    | true => rw [hx] at k2; exact k2
    | false => rw [hx] at k2; exact XC.block cuts n k2
theorem xr_d {E : xE} : ∀ (n d : Nat) (M : xM) (f : xF) (Q : xP), xr E n d M f Q → xr E n (d + 1) M f Q
  | 0, _, _, _, _, k => k
  | n + 1, d, M, f, Q, k => by
    have k1 : xwp E (xr E n) (xr E n d M) d M f Q := k
    show xwp E (xr E n) (xr E n (d + 1) M) (d + 1) M f Q
    unfold xwp xwo at k1 ⊢
    split at k1
    · exact xr_d n _ _ _ _ k1
    · exact ⟨k1.1, xr_d n _ _ _ _ k1.2⟩
    · exact xdl_mono (fun g => xr_d n _ _ _ _) _ _ k1
    · split at k1
      · exact k1.elim
      · exact xr_Q n _ _ _ _ _ (fun v h => xr_d n _ _ _ _) (xr_d n _ _ _ _ k1)
    · exact k1
theorem XC.le {E : xE} {d d' : Nat} {M : xM} {f : xF} {Q : xP} (hd : d ≤ d') (k : XC E d M f Q) : XC E d' M f Q := by
  induction hd with
  | refl => exact k
  | step _ ih =>
    obtain ⟨n, ih⟩ := ih
    exact ⟨n, xr_d n _ _ _ _ ih⟩
theorem XM.le {E : xE} {d d' : Nat} {y : Nat} {av : List Value} {h : xH} {Q : xP} (hd : d ≤ d') (k : XM E d y av h Q) : XM E d' y av h Q := XC.le hd k
theorem XM.mono {E : xE} {d : Nat} {y : Nat} {av : List Value} {h : xH} {Q Q' : xP} (hq : ∀ v h, Q v h → Q' v h) (k : XM E d y av h Q) : XM E d y av h Q' := XC.mono hq k
theorem XM.det {E : xE} {d : Nat} {y : Nat} {av : List Value} {h : xH} {Q : xP} (k : XM E d y av h Q) : ∃ v h', Q v h' ∧ XM E d y av h (fun v2 h2 => v2 = v ∧ h2 = h') := by
  obtain ⟨n, k⟩ := k
  obtain ⟨v, h2, q, k2⟩ := xr_det n _ _ _ _ k
  exact ⟨v, h2, q, n, k2⟩
end
section
/-! the machine on paper and the machine: how their states belong together -/
/-- the address of a cell -/
def xa (ad : Nat → Nat) (ws : va_W) (k : Nat) : Option Nat := bif Nat.ble xt0 k then some (ad (k - xt0)) else (ws[k]?).map Prod.fst
def xmon (r1 r2 : Nat → Option Nat) : Prop := ∀ k a, r1 k = some a → r2 k = some a
def xv (r : Nat → Option Nat) (v w : Value) : Prop := match v with
  | .ref k => ∃ a, r k = some a ∧ w = .ref a
  | .int x => w = .int x
  | .long x => w = .long x
  | .float x => w = .float x
  | .double x => w = .double x
  | .null => w = .null
  | .retAddr _ => False
def xvo (r : Nat → Option Nat) (v w : Option Value) : Prop := match v with
  | none => w = none
  | some v => ∃ u, w = some u ∧ xv r v u
def xva (r : Nat → Option Nat) : List Value → List Value → Prop
  | [], w => w = []
  | v :: vs, w => ∃ u us, w = u :: us ∧ xv r v u ∧ xva r vs us
def xqr (r : Nat → Option Nat) (o : Option (Option Nat)) (x : Option Nat) : Prop := match o with
  | some (some k) => ∃ a, r k = some a ∧ x = some a
  | _ => x = none
def xce (E : xE) (cA : FieldType → ClassId) (r : Nat → Option Nat) (t : xS) (i : Nat) (d : xD) (e : va_E) : Prop := match t with
  | .inl (.int, n, _) => e = .inl (cA .int, n, .inl (d.1 i))
  | .inl (.byte, n, _) => e = .inl (cA .byte, n, .inl (d.1 i))
  | .inl (.long, n, _) => e = .inl (cA .long, n, .inr (.inl (d.2.1 i)))
  | .inl (.float, n, _) => e = .inl (cA .float, n, .inr (.inr (.inl (d.2.2 i))))
  | .inl (.array .float, n, rs) => ∃ f : Nat → Option Nat, e = .inl (cA (.array .float), n, .inr (.inr (.inr (.inr f)))) ∧ ∀ j, j < n → xqr r rs[j]? (f j)
  | .inl _ => False
  | .inr (ci, rf) => ∃ fs : List Value, e = .inr (ci, fs) ∧ fs.length = (E.2.1 ci).length ∧ rf.length = (E.2.1 ci).length ∧ ∀ (k : Nat) (ty : FieldType), (E.2.1 ci)[k]? = some ty → ∃ v, fs[k]? = some v ∧ xv r (xget ty k i rf d) v
def xW (E : xE) (ad : Nat → Nat) (cA : FieldType → ClassId) (h : xH) (ws : va_W) : Prop := ws.length = h.1.length ∧ h.1.length ≤ xt0 ∧ ∀ (i : Nat) (t : xS), h.1[i]? = some t → ∃ a e, ws[i]? = some (a, e) ∧ xce E cA (xa ad ws) t i h.2 e
def xtys (cA : FieldType → ClassId) : List (ClassId × FieldType) := [(cA .int, .int), (cA .byte, .byte), (cA .long, .long), (cA .float, .float), (cA (.array .float), .array .float)]
def xls (r : Nat → Option Nat) (l : xL) (ls : Array Slot) (nL : Nat) : Prop := ls.size = nL ∧ l.length = nL ∧ lv_wf ls ∧ ∀ (i : Nat) (v : Value), xld l i = some v → ∃ w, ls[i]? = some (.val w) ∧ xv r v w
def xsz (E : xE) (sh : List xS) : Nat := (sh.map fun t => match t with
  | .inl (_, n, _) => n
  | .inr (ci, _) => (E.2.1 ci).length).sum
def xroom (d mc ms : Nat) : Room := { frames := d + 8, cells := mc, slots := ms, locals := 60 * d + 400 }
theorem xv_mono {r1 r2 : Nat → Option Nat} (h : xmon r1 r2) {v w : Value} (k : xv r1 v w) : xv r2 v w := by
  cases v with
  | ref q => obtain ⟨a, h1, h2⟩ := k; exact ⟨a, h _ _ h1, h2⟩
  | _ => exact k
theorem xvo_mono {r1 r2 : Nat → Option Nat} (h : xmon r1 r2) {v w : Option Value} (k : xvo r1 v w) : xvo r2 v w := by
  cases v with
  | none => exact k
  | some q => obtain ⟨a, h1, h2⟩ := k; exact ⟨a, h1, xv_mono h h2⟩
theorem xva_mono {r1 r2 : Nat → Option Nat} (h : xmon r1 r2) : ∀ {v w : List Value}, xva r1 v w → xva r2 v w
  | [], _, k => k
  | _ :: _, _, ⟨u, us, e, h1, h2⟩ => ⟨u, us, e, xv_mono h h1, xva_mono h h2⟩
theorem xls_mono {r1 r2 : Nat → Option Nat} (h : xmon r1 r2) {l : xL} {ls : Array Slot} {nL : Nat} (k : xls r1 l ls nL) : xls r2 l ls nL :=
  ⟨k.1, k.2.1, k.2.2.1, fun i v hv => by obtain ⟨w, h1, h2⟩ := k.2.2.2 i v hv; exact ⟨w, h1, xv_mono h h2⟩⟩
theorem xce_mono {E : xE} {cA : FieldType → ClassId} {r1 r2 : Nat → Option Nat} (h : xmon r1 r2) {t : xS} {i : Nat} {d : xD} {e : va_E} (k : xce E cA r1 t i d e) : xce E cA r2 t i d e := by
  unfold xce at k ⊢
  split at k
  · exact k
  · exact k
  · exact k
  · exact k
  · obtain ⟨f, h1, h2⟩ := k
    refine ⟨f, h1, fun j hj => ?_⟩
    have h3 := h2 j hj
    unfold xqr at h3 ⊢
    split at h3
    · obtain ⟨a, e1, e2⟩ := h3; exact ⟨a, h _ _ e1, e2⟩
    · exact h3
  · exact k
  · obtain ⟨fs, h1, h2, h4, h3⟩ := k
    refine ⟨fs, h1, h2, h4, fun j ty hj => ?_⟩
    obtain ⟨v, e1, e2⟩ := h3 j ty hj
    exact ⟨v, e1, xv_mono h e2⟩
theorem xv_cat {r : Nat → Option Nat} {v w : Value} (k : xv r v w) : w.category = v.category := by
  cases v with
  | ref q => obtain ⟨a, h1, rfl⟩ := k; rfl
  | retAddr _ => exact k.elim
  | _ => rw [show w = _ from k]
theorem xva_cat {r : Nat → Option Nat} : ∀ {v w : List Value}, xva r v w → xcat w = xcat v
  | [], _, k => by rw [show _ = [] from k]
  | v :: vs, _, ⟨u, us, e, h1, h2⟩ => by
    have := xva_cat h2
    rw [e]
    simp only [xcat, List.map_cons, List.sum_cons] at this ⊢
    rw [this, xv_cat h1]
theorem xmon_app (ad : Nat → Nat) (ws : va_W) (q : List (Nat × va_E)) : xmon (xa ad ws) (xa ad (ws ++ q)) := by
  intro k a h
  unfold xa at h ⊢
  cases hb : Nat.ble xt0 k with
  | true => rw [hb] at h; exact h
  | false =>
    rw [hb] at h
    simp only [cond_false] at h ⊢
    cases hk : ws[k]? with
    | none => rw [hk] at h; cases h
    | some x =>
      rw [hk] at h
      rw [List.getElem?_append_left (List.getElem?_eq_some_iff.mp hk).1, hk]
      exact h
theorem xa_set (ad : Nat → Nat) (ws : va_W) {q0 a : Nat} {e0 e : va_E} (h : ws[q0]? = some (a, e0)) : xa ad (ws.set q0 (a, e)) = xa ad ws := by
  funext k
  unfold xa
  congr 1
  by_cases hk : k = q0
  · subst hk
    rw [List.getElem?_set_self (List.getElem?_eq_some_iff.mp h).1, h]
    rfl
  · rw [List.getElem?_set_ne (Ne.symm hk)]
theorem xa_at {ad : Nat → Nat} {ws : va_W} {k a : Nat} (hk : k < xt0) (h : xa ad ws k = some a) : ∃ e, ws[k]? = some (a, e) := by
  unfold xa at h
  have hb : Nat.ble xt0 k = false := by
    cases hb : Nat.ble xt0 k with
    | false => rfl
    | true => exact absurd (Nat.le_of_ble_eq_true hb) (by omega)
  rw [hb] at h
  simp only [cond_false] at h
  cases hw : ws[k]? with
  | none => rw [hw] at h; cases h
  | some x => rw [hw] at h; obtain ⟨a1, e1⟩ := x; cases h; exact ⟨e1, rfl⟩
theorem xa_of {ad : Nat → Nat} {ws : va_W} {k a : Nat} {e : va_E} (hk : k < xt0) (h : ws[k]? = some (a, e)) : xa ad ws k = some a := by
  unfold xa
  have hb : Nat.ble xt0 k = false := by
    cases hb : Nat.ble xt0 k with
    | false => rfl
    | true => exact absurd (Nat.le_of_ble_eq_true hb) (by omega)
  rw [hb, h]
  rfl
/-- a cell of the world -/
theorem xW_at {E : xE} {ad : Nat → Nat} {cA : FieldType → ClassId} {h : xH} {ws : va_W} (k : xW E ad cA h ws) {i a : Nat} {t : xS} (hi : h.1[i]? = some t) (ha : xa ad ws i = some a) : ∃ e, ws[i]? = some (a, e) ∧ xce E cA (xa ad ws) t i h.2 e := by
  obtain ⟨a2, e, h1, h2⟩ := k.2.2 i t hi
  have hl : i < xt0 := Nat.lt_of_lt_of_le (List.getElem?_eq_some_iff.mp hi).1 k.2.1
  have := (xa_of (ad := ad) hl h1).symm.trans ha
  cases this
  exact ⟨e, h1, h2⟩
/-- the locals -/
def xall (ls : Array Slot) : List (Nat × Value) := (List.range ls.size).filterMap fun i => match (ls[i]? : Option Slot) with
  | some (Slot.val w) => some (i, w)
  | _ => none
theorem xall_mem {ls : Array Slot} {i : Nat} {w : Value} : (i, w) ∈ xall ls ↔ ls[i]? = some (.val w) := by
  unfold xall
  rw [List.mem_filterMap]
  constructor
  · rintro ⟨j, -, hj⟩
    split at hj
    · rename_i w2 h2
      cases hj
      exact h2
    · cases hj
  · intro h
    refine ⟨i, List.mem_range.mpr (Array.getElem?_eq_some_iff.mp h).1, ?_⟩
    rw [h]
theorem xls_has {r : Nat → Option Nat} {l : xL} {ls : Array Slot} {nL : Nat} (k : xls r l ls nL) : lv_has ls nL (xall ls) := ⟨k.1, k.2.2.1, fun q hq => xall_mem.mp hq⟩
theorem xld_set {l : xL} {i j : Nat} {o : Option Value} : xld (l.set i o) j = if j = i ∧ j < l.length then o else xld l j := by
  unfold xld
  by_cases h : j = i
  · subst h
    by_cases hl : j < l.length
    · rw [List.getElem?_set_self hl, if_pos ⟨rfl, hl⟩]
    · rw [if_neg (fun q => hl q.2), List.getElem?_eq_none (by rw [List.length_set]; omega), List.getElem?_eq_none (by omega)]
  · rw [if_neg (fun q => h q.1), List.getElem?_set_ne (Ne.symm h)]
theorem xkill_len (l : xL) (i : Nat) : (xkill l i).length = l.length := by
  unfold xkill
  split
  · rfl
  · split
    · cases hb : Nat.beq _ 2 <;> simp
    · rfl
/-- what is left of the locals when one of them is to be written -/
theorem xkill_ld {l : xL} {i j : Nat} {v : Value} (h : xld (xkill l i) j = some v) : xld l j = some v ∧ ¬ (j + 1 = i ∧ v.category = 2) := by
  unfold xkill at h
  split at h
  · exact ⟨h, fun q => by omega⟩
  · rename_i i0
    split at h
    · rename_i w hw
      cases hb : Nat.beq w.category 2 with
      | true =>
        rw [hb] at h
        simp only [cond_true] at h
        rw [xld_set] at h
        split at h
        · cases h
        · rename_i hn
          refine ⟨h, fun q => ?_⟩
          have : j = i0 := by omega
          subst this
          unfold xld at h
          split at h
          · rename_i o ho
            exact hn ⟨rfl, (List.getElem?_eq_some_iff.mp ho).1⟩
          · cases h
      | false =>
        rw [hb] at h
        simp only [cond_false] at h
        refine ⟨h, fun q => ?_⟩
        have : j = i0 := by omega
        subst this
        rw [hw] at h
        cases h
        have hq := q.2
        rw [hq] at hb
        cases hb
    · rename_i hw
      refine ⟨h, fun q => ?_⟩
      have : j = i0 := by omega
      subst this
      rw [hw] at h
      cases h
theorem xls_put {r : Nat → Option Nat} {l l' : xL} {ls ls' : Array Slot} {nL i : Nat} {v w : Value} (k : xls r l ls nL) (hp : xput l i v = some l') (hv : xv r v w) (h' : lv_has ls' nL ((i, w) :: (xall ls).filter (fun q => !(q.1 == i) && !(q.1 + 1 == i && q.2.category == 2)))) : xls r l' ls' nL ∧ i < nL := by
  unfold xput at hp
  split at hp
  · cases hp
  · rename_i o ho
    have hi : i < l.length := (List.getElem?_eq_some_iff.mp ho).1
    cases hp
    refine ⟨⟨h'.1, by rw [List.length_set, xkill_len]; exact k.2.1, h'.2.1, fun j u hj => ?_⟩, by rw [← k.2.1]; exact hi⟩
    rw [xld_set] at hj
    split at hj
    · rename_i hc
      cases hj
      rw [hc.1]
      exact ⟨w, h'.2.2 (i, w) List.mem_cons_self, hv⟩
    · rename_i hc
      have hji : ¬ j = i := fun q => hc ⟨q, by rw [xkill_len, q]; exact hi⟩
      obtain ⟨h1, h2⟩ := xkill_ld hj
      obtain ⟨z, e1, e2⟩ := k.2.2.2 j u h1
      refine ⟨z, h'.2.2 (j, z) (List.mem_cons_of_mem _ (List.mem_filter.mpr ⟨xall_mem.mpr e1, ?_⟩)), e2⟩
      have hcz := xv_cat e2
      simp only [Bool.and_eq_true, Bool.not_eq_true', beq_eq_false_iff_ne, ne_eq, Bool.and_eq_false_iff]
      refine ⟨hji, ?_⟩
      by_cases hz : j + 1 = i
      · exact Or.inr (fun q => h2 ⟨hz, hcz ▸ q⟩)
      · exact Or.inl hz
theorem xls_put2 {r : Nat → Option Nat} {l l' : xL} {ls ls' : Array Slot} {nL i : Nat} {v w : Value} (k : xls r l ls nL) (hp : xput2 l i v = some l') (hv : xv r v w) (h' : lv_has ls' nL ((i, w) :: (xall ls).filter (fun q => !(q.1 == i) && (!(q.1 == i + 1) && !(q.1 + 1 == i && q.2.category == 2))))) : xls r l' ls' nL := by
  unfold xput2 at hp
  split at hp
  · cases hp
  · rename_i o ho
    have hi : i + 1 < l.length := (List.getElem?_eq_some_iff.mp ho).1
    cases hp
    refine ⟨h'.1, by rw [List.length_set, List.length_set, xkill_len]; exact k.2.1, h'.2.1, fun j u hj => ?_⟩
    rw [xld_set] at hj
    split at hj
    · cases hj
    · rename_i hc0
      have hj1 : ¬ j = i + 1 := fun q => hc0 ⟨q, by rw [List.length_set, xkill_len, q]; exact hi⟩
      rw [xld_set] at hj
      split at hj
      · rename_i hc
        cases hj
        rw [hc.1]
        exact ⟨w, h'.2.2 (i, w) List.mem_cons_self, hv⟩
      · rename_i hc
        have hji : ¬ j = i := fun q => hc ⟨q, by rw [xkill_len, q]; omega⟩
        obtain ⟨h1, h2⟩ := xkill_ld hj
        obtain ⟨z, e1, e2⟩ := k.2.2.2 j u h1
        refine ⟨z, h'.2.2 (j, z) (List.mem_cons_of_mem _ (List.mem_filter.mpr ⟨xall_mem.mpr e1, ?_⟩)), e2⟩
        have hcz := xv_cat e2
        simp only [Bool.and_eq_true, Bool.not_eq_true', beq_eq_false_iff_ne, ne_eq, Bool.and_eq_false_iff]
        refine ⟨hji, hj1, ?_⟩
        by_cases hz : j + 1 = i
        · exact Or.inr (fun q => h2 ⟨hz, hcz ▸ q⟩)
        · exact Or.inl hz
theorem xput_lt {l l' : xL} {i : Nat} {v : Value} (hp : xput l i v = some l') : i < l.length := by
  unfold xput at hp
  split at hp
  · cases hp
  · rename_i o ho
    exact (List.getElem?_eq_some_iff.mp ho).1
theorem xput2_lt {l l' : xL} {i : Nat} {v : Value} (hp : xput2 l i v = some l') : i + 1 < l.length := by
  unfold xput2 at hp
  split at hp
  · cases hp
  · rename_i o ho
    exact (List.getElem?_eq_some_iff.mp ho).1
/-- the arguments of a call -/
theorem xpop_spec {r : Nat → Option Nat} : ∀ (n : Nat) (st acc av rest : List Value), xpop n st acc = some (av, rest) → ∃ as : List Value, av = as ++ acc ∧ as.length = n ∧ st = as.reverse ++ rest
  | 0, st, acc, av, rest, h => by cases h; exact ⟨[], rfl, rfl, rfl⟩
  | n + 1, [], acc, av, rest, h => by cases h
  | n + 1, v :: st, acc, av, rest, h => by
    obtain ⟨as, h1, h2, h3⟩ := xpop_spec (r := r) n st (v :: acc) av rest h
    exact ⟨as ++ [v], by rw [h1]; simp, by simp [h2], by rw [h3]; simp⟩
theorem xva_split {r : Nat → Option Nat} : ∀ {a b w : List Value}, xva r (a ++ b) w → ∃ wa wb, w = wa ++ wb ∧ xva r a wa ∧ xva r b wb
  | [], b, w, k => ⟨[], w, rfl, rfl, k⟩
  | v :: a, b, w, ⟨u, us, e, h1, h2⟩ => by
    obtain ⟨wa, wb, e2, h3, h4⟩ := xva_split h2
    exact ⟨u :: wa, wb, by rw [e, e2]; rfl, ⟨u, wa, rfl, h1, h3⟩, h4⟩
theorem xva_app {r : Nat → Option Nat} : ∀ {a b wa wb : List Value}, xva r a wa → xva r b wb → xva r (a ++ b) (wa ++ wb)
  | [], b, wa, wb, k, k2 => by rw [show wa = [] from k]; exact k2
  | v :: a, b, wa, wb, ⟨u, us, e, h1, h2⟩, k2 => by
    rw [e]
    exact ⟨u, us ++ wb, rfl, h1, xva_app h2 k2⟩
theorem xva_rev {r : Nat → Option Nat} : ∀ {a w : List Value}, xva r a w → xva r a.reverse w.reverse
  | [], w, k => by rw [show w = [] from k]; rfl
  | v :: a, w, ⟨u, us, e, h1, h2⟩ => by
    rw [e, List.reverse_cons, List.reverse_cons]
    exact xva_app (xva_rev h2) ⟨u, [], rfl, h1, rfl⟩
theorem xva_len {r : Nat → Option Nat} : ∀ {a w : List Value}, xva r a w → w.length = a.length
  | [], w, k => by rw [show w = [] from k]
  | v :: a, w, ⟨u, us, e, h1, h2⟩ => by rw [e, List.length_cons, List.length_cons, xva_len h2]
theorem xpad_len : ∀ (n : Nat) (l : xL), l.length ≤ n → (xpad n l).length = n
  | 0, l, h => by simpa [xpad] using h
  | n + 1, [], h => by simp [xpad, xpad_len n [] (Nat.zero_le n)]
  | n + 1, v :: l, h => by simp [xpad, xpad_len n l (by simpa using h)]
theorem xpad_ld : ∀ (n : Nat) (l : xL) (i : Nat) (v : Value), xld (xpad n l) i = some v → xld l i = some v
  | 0, l, i, v, h => h
  | n + 1, [], 0, v, h => by simp [xpad, xld] at h
  | n + 1, [], i + 1, v, h => by
    have : xld (xpad n []) i = some v := by simpa [xpad, xld] using h
    have := xpad_ld n [] i v this
    simp [xld] at this
  | n + 1, u :: l, 0, v, h => by simpa [xpad, xld] using h
  | n + 1, u :: l, i + 1, v, h => by
    have : xld (xpad n l) i = some v := by simpa [xpad, xld] using h
    simpa [xld] using xpad_ld n l i v this
theorem xflat_len : ∀ {av : List Value} {r : Nat → Option Nat} {w : List Value}, xva r av w → (xflat av).length = (lg_sl w).length
  | [], r, w, k => by rw [show w = [] from k]; rfl
  | v :: vs, r, w, ⟨u, us, e, h1, h2⟩ => by
    have ih := xflat_len h2
    have hc := xv_cat h1
    rw [e]
    simp only [lg_sl, List.flatMap_cons, List.length_append] at ih ⊢
    unfold xflat
    by_cases h : v.category = 2
    · rw [h, if_pos (hc.trans h)]
      simp [ih]
      omega
    · rw [if_neg (fun q => h (hc.symm.trans q))]
      have : Nat.beq v.category 2 = false := by
        cases hb : Nat.beq v.category 2 with
        | false => rfl
        | true => exact absurd (Nat.eq_of_beq_eq_true hb) h
      rw [this]
      simp [ih]
      omega
theorem xflat_ld : ∀ {av : List Value} {r : Nat → Option Nat} {w : List Value} (i0 : Nat) (i : Nat) (v : Value), xva r av w → xld (xflat av) i = some v → ∃ u, (i0 + i, u) ∈ lv_args i0 w ∧ xv r v u
  | [], r, w, i0, i, v, k, h => by simp [xflat, xld] at h
  | z :: vs, r, w, i0, i, v, ⟨u, us, e, h1, h2⟩, h => by
    have hc := xv_cat h1
    rw [e]
    unfold xflat at h
    by_cases hz : z.category = 2
    · rw [hz] at h
      have hu : u.category = 2 := hc.trans hz
      simp only [lv_args, hu, if_true]
      match i, h with
      | 0, h =>
        have : z = v := by simpa [xld] using h
        subst this
        exact ⟨u, List.mem_cons_self, h1⟩
      | 1, h => simp [xld] at h
      | i + 2, h =>
        have h3 : xld (xflat vs) i = some v := by simpa [xld] using h
        obtain ⟨x, e1, e2⟩ := xflat_ld (i0 + 2) i v h2 h3
        exact ⟨x, List.mem_cons_of_mem _ (by rw [show i0 + (i + 2) = i0 + 2 + i by omega]; exact e1), e2⟩
    · have hb : Nat.beq z.category 2 = false := by
        cases hb : Nat.beq z.category 2 with
        | false => rfl
        | true => exact absurd (Nat.eq_of_beq_eq_true hb) hz
      rw [hb] at h
      have hu : ¬ u.category = 2 := fun q => hz (hc.symm.trans q)
      simp only [lv_args, hu, if_false]
      match i, h with
      | 0, h =>
        have : z = v := by simpa [xld] using h
        subst this
        exact ⟨u, List.mem_cons_self, h1⟩
      | i + 1, h =>
        have h3 : xld (xflat vs) i = some v := by simpa [xld] using h
        obtain ⟨x, e1, e2⟩ := xflat_ld (i0 + 1) i v h2 h3
        exact ⟨x, List.mem_cons_of_mem _ (by rw [show i0 + (i + 1) = i0 + 1 + i by omega]; exact e1), e2⟩
/-- the locals with which a method begins -/
theorem xls_entry {r : Nat → Option Nat} {av w : List Value} {n : Nat} (k : xva r av w) (hn : (xflat av).length ≤ n) : xls r (xpad n (xflat av)) ((lg_sl w ++ List.replicate (n - (lg_sl w).length) Slot.unset).toArray) n := by
  have hl : (lg_sl w).length ≤ n := by rw [← xflat_len k]; exact hn
  have h := lv_entry w (n := n) hl
  refine ⟨h.1, xpad_len n _ hn, h.2.1, fun i v hv => ?_⟩
  obtain ⟨u, e1, e2⟩ := xflat_ld 0 i v k (xpad_ld n _ i v hv)
  rw [Nat.zero_add] at e1
  exact ⟨u, h.2.2 (i, u) e1, e2⟩
end
section
/-- a state of the machine that belongs to a frame on paper -/
def xRel (E : xE) (ad : Nat → Nat) (cA : FieldType → ClassId) (D : va_G) (cl : List vw_C) (A : Nat → Prop) (r0 : Nat → Option Nat) (s : State) (nL : Nat) (f : xF) (ws : va_W) (H : Heap) (locs : List Loc) (lsC : Array Slot) (stC : List Value) : Prop :=
  (xW E ad cA f.2.2.2 ws ∧ xmon r0 (xa ad ws)) ∧ va_P D cl ws H ∧ va_D A ws ∧ va_S A s.heap H locs ∧ xls (xa ad ws) f.2.1 lsC nL ∧ xva (xa ad ws) f.2.2.1 stC
/-- every state that belongs to this frame goes on to its end -/
def xG (p : Program) (l : Launch) (e : Env) (R : Room) (s : State) (m : MethodId) (args : Array Value) (below : List Frame) (meth : Method) (c : Code) (Q : State → Prop) (E : xE) (ad : Nat → Nat) (cA : FieldType → ClassId) (D : va_G) (cl : List vw_C) (A : Nat → Prop) (r0 : Nat → Option Nat) (nL mc ms fin finS : Nat) (g : xF) : Prop :=
  ∀ (cells slots : Nat) (ws : va_W) (H : Heap) (locs : List Loc) (lsC : Array Slot) (stC : List Value), cells + fin ≤ mc + g.2.2.2.1.length → slots + finS ≤ ms + xsz E g.2.2.2.1 → xRel E ad cA D cl A r0 s nL g ws H locs lsC stC → W p l e R s m args below meth c H locs cells slots Q (F0 m g.1 lsC stC)
section XSO
variable {p : Program} {l : Launch} {e : Env} {R : Room} {s : State} {m : MethodId} {args : Array Value} {below : List Frame} {meth : Method} {c : Code} {Q : State → Prop}
variable {E : xE} {ad : Nat → Nat} {cA : FieldType → ClassId} {D : va_G} {cl : List vw_C} {A : Nat → Prop} {r0 : Nat → Option Nat} {nL mc ms fin finS : Nat}
variable {rc : Nat → xM → xF → xP → Prop} {rn : xF → xP → Prop} {d : Nat} {Q0 : xP} {pc nx : Nat} {ls : xL} {st : List Value} {h : xH}
theorem so_ii (hN : ∀ f, rn f Q0 → xG p l e R s m args below meth c Q E ad cA D cl A r0 nL mc ms fin finS f) {g : Int32 → Int32 → Int32} (row : ∀ (H : Heap) (locs : List Loc) (cells slots : Nat) (lsC : Array Slot) (rest : List Value) (x : Int32) (y : Int32), W p l e R s m args below meth c H locs cells slots Q (F0 m nx lsC (.int (g x y) :: rest)) → W p l e R s m args below meth c H locs cells slots Q (F0 m pc lsC (.int y :: .int x :: rest))) (k : xwo E rc rn d Q0 (xii g nx ls st h)) : xG p l e R s m args below meth c Q E ad cA D cl A r0 nL mc ms fin finS (pc, ls, st, h) := by
  unfold xii at k
  split at k
  · rename_i y x r
    intro cells slots ws H locs lsC stC h1 h2 hr
    obtain ⟨hW, hP, hD, hS, hl, hst⟩ := hr
    obtain ⟨_, _, rfl, rfl, _, _, rfl, rfl, hst⟩ := hst
    exact row _ _ _ _ _ _ _ _ (hN _ k cells slots ws H locs lsC _ h1 h2 ⟨hW, hP, hD, hS, hl, ⟨_, _, rfl, rfl, hst⟩⟩)
  · exact k.1.elim
theorem so_iiD (hN : ∀ f, rn f Q0 → xG p l e R s m args below meth c Q E ad cA D cl A r0 nL mc ms fin finS f) {g : Int32 → Int32 → Int32} (row : ∀ (H : Heap) (locs : List Loc) (cells slots : Nat) (lsC : Array Slot) (rest : List Value) (x : Int32) (y : Int32), ¬ y = 0 → W p l e R s m args below meth c H locs cells slots Q (F0 m nx lsC (.int (g x y) :: rest)) → W p l e R s m args below meth c H locs cells slots Q (F0 m pc lsC (.int y :: .int x :: rest))) (k : xwo E rc rn d Q0 (xiiD g nx ls st h)) : xG p l e R s m args below meth c Q E ad cA D cl A r0 nL mc ms fin finS (pc, ls, st, h) := by
  unfold xiiD at k
  split at k
  · rename_i y x r
    intro cells slots ws H locs lsC stC h1 h2 hr
    obtain ⟨hW, hP, hD, hS, hl, hst⟩ := hr
    obtain ⟨_, _, rfl, rfl, _, _, rfl, rfl, hst⟩ := hst
    exact row _ _ _ _ _ _ _ _ k.1 (hN _ k.2 cells slots ws H locs lsC _ h1 h2 ⟨hW, hP, hD, hS, hl, ⟨_, _, rfl, rfl, hst⟩⟩)
  · exact k.1.elim
theorem so_li (hN : ∀ f, rn f Q0 → xG p l e R s m args below meth c Q E ad cA D cl A r0 nL mc ms fin finS f) {g : Int64 → Int32 → Int64} (row : ∀ (H : Heap) (locs : List Loc) (cells slots : Nat) (lsC : Array Slot) (rest : List Value) (x : Int64) (y : Int32), W p l e R s m args below meth c H locs cells slots Q (F0 m nx lsC (.long (g x y) :: rest)) → W p l e R s m args below meth c H locs cells slots Q (F0 m pc lsC (.int y :: .long x :: rest))) (k : xwo E rc rn d Q0 (xli g nx ls st h)) : xG p l e R s m args below meth c Q E ad cA D cl A r0 nL mc ms fin finS (pc, ls, st, h) := by
  unfold xli at k
  split at k
  · rename_i y x r
    intro cells slots ws H locs lsC stC h1 h2 hr
    obtain ⟨hW, hP, hD, hS, hl, hst⟩ := hr
    obtain ⟨_, _, rfl, rfl, _, _, rfl, rfl, hst⟩ := hst
    exact row _ _ _ _ _ _ _ _ (hN _ k cells slots ws H locs lsC _ h1 h2 ⟨hW, hP, hD, hS, hl, ⟨_, _, rfl, rfl, hst⟩⟩)
  · exact k.1.elim
theorem so_ff (hN : ∀ f, rn f Q0 → xG p l e R s m args below meth c Q E ad cA D cl A r0 nL mc ms fin finS f) {g : UInt32 → UInt32 → UInt32} (row : ∀ (H : Heap) (locs : List Loc) (cells slots : Nat) (lsC : Array Slot) (rest : List Value) (x : UInt32) (y : UInt32), vf_n32 (g x y) → W p l e R s m args below meth c H locs cells slots Q (F0 m nx lsC (.float (g x y) :: rest)) → W p l e R s m args below meth c H locs cells slots Q (F0 m pc lsC (.float y :: .float x :: rest))) (k : xwo E rc rn d Q0 (xff g nx ls st h)) : xG p l e R s m args below meth c Q E ad cA D cl A r0 nL mc ms fin finS (pc, ls, st, h) := by
  unfold xff at k
  split at k
  · rename_i y x r
    intro cells slots ws H locs lsC stC h1 h2 hr
    obtain ⟨hW, hP, hD, hS, hl, hst⟩ := hr
    obtain ⟨_, _, rfl, rfl, _, _, rfl, rfl, hst⟩ := hst
    exact row _ _ _ _ _ _ _ _ k.1 (hN _ k.2 cells slots ws H locs lsC _ h1 h2 ⟨hW, hP, hD, hS, hl, ⟨_, _, rfl, rfl, hst⟩⟩)
  · exact k.1.elim
theorem so_i (hN : ∀ f, rn f Q0 → xG p l e R s m args below meth c Q E ad cA D cl A r0 nL mc ms fin finS f) {g : Int32 → Value} (hg : ∀ x (r : Nat → Option Nat), xv r (g x) (g x)) (row : ∀ (H : Heap) (locs : List Loc) (cells slots : Nat) (lsC : Array Slot) (rest : List Value) (x : Int32), W p l e R s m args below meth c H locs cells slots Q (F0 m nx lsC (g x :: rest)) → W p l e R s m args below meth c H locs cells slots Q (F0 m pc lsC (.int x :: rest))) (k : xwo E rc rn d Q0 (xi g nx ls st h)) : xG p l e R s m args below meth c Q E ad cA D cl A r0 nL mc ms fin finS (pc, ls, st, h) := by
  unfold xi at k
  split at k
  · rename_i x r
    intro cells slots ws H locs lsC stC h1 h2 hr
    obtain ⟨hW, hP, hD, hS, hl, hst⟩ := hr
    obtain ⟨_, _, rfl, rfl, hst⟩ := hst
    exact row _ _ _ _ _ _ _ (hN _ k cells slots ws H locs lsC _ h1 h2 ⟨hW, hP, hD, hS, hl, ⟨_, _, rfl, hg _ _, hst⟩⟩)
  · exact k.1.elim
theorem so_ll (hN : ∀ f, rn f Q0 → xG p l e R s m args below meth c Q E ad cA D cl A r0 nL mc ms fin finS f) {g : Int64 → Int64 → Value} (hg : ∀ x y (r : Nat → Option Nat), xv r (g x y) (g x y)) (row : ∀ (H : Heap) (locs : List Loc) (cells slots : Nat) (lsC : Array Slot) (rest : List Value) (x : Int64) (y : Int64), W p l e R s m args below meth c H locs cells slots Q (F0 m nx lsC (g x y :: rest)) → W p l e R s m args below meth c H locs cells slots Q (F0 m pc lsC (.long y :: .long x :: rest))) (k : xwo E rc rn d Q0 (xll g nx ls st h)) : xG p l e R s m args below meth c Q E ad cA D cl A r0 nL mc ms fin finS (pc, ls, st, h) := by
  unfold xll at k
  split at k
  · rename_i y x r
    intro cells slots ws H locs lsC stC h1 h2 hr
    obtain ⟨hW, hP, hD, hS, hl, hst⟩ := hr
    obtain ⟨_, _, rfl, rfl, _, _, rfl, rfl, hst⟩ := hst
    exact row _ _ _ _ _ _ _ _ (hN _ k cells slots ws H locs lsC _ h1 h2 ⟨hW, hP, hD, hS, hl, ⟨_, _, rfl, hg _ _ _, hst⟩⟩)
  · exact k.1.elim
theorem so_l (hN : ∀ f, rn f Q0 → xG p l e R s m args below meth c Q E ad cA D cl A r0 nL mc ms fin finS f) {g : Int64 → Value} (hg : ∀ x (r : Nat → Option Nat), xv r (g x) (g x)) (row : ∀ (H : Heap) (locs : List Loc) (cells slots : Nat) (lsC : Array Slot) (rest : List Value) (x : Int64), W p l e R s m args below meth c H locs cells slots Q (F0 m nx lsC (g x :: rest)) → W p l e R s m args below meth c H locs cells slots Q (F0 m pc lsC (.long x :: rest))) (k : xwo E rc rn d Q0 (xl g nx ls st h)) : xG p l e R s m args below meth c Q E ad cA D cl A r0 nL mc ms fin finS (pc, ls, st, h) := by
  unfold xl at k
  split at k
  · rename_i x r
    intro cells slots ws H locs lsC stC h1 h2 hr
    obtain ⟨hW, hP, hD, hS, hl, hst⟩ := hr
    obtain ⟨_, _, rfl, rfl, hst⟩ := hst
    exact row _ _ _ _ _ _ _ (hN _ k cells slots ws H locs lsC _ h1 h2 ⟨hW, hP, hD, hS, hl, ⟨_, _, rfl, hg _ _, hst⟩⟩)
  · exact k.1.elim
theorem so_f (hN : ∀ f, rn f Q0 → xG p l e R s m args below meth c Q E ad cA D cl A r0 nL mc ms fin finS f) {g : UInt32 → Value} (hg : ∀ x (r : Nat → Option Nat), xv r (g x) (g x)) (row : ∀ (H : Heap) (locs : List Loc) (cells slots : Nat) (lsC : Array Slot) (rest : List Value) (x : UInt32), W p l e R s m args below meth c H locs cells slots Q (F0 m nx lsC (g x :: rest)) → W p l e R s m args below meth c H locs cells slots Q (F0 m pc lsC (.float x :: rest))) (k : xwo E rc rn d Q0 (xf g nx ls st h)) : xG p l e R s m args below meth c Q E ad cA D cl A r0 nL mc ms fin finS (pc, ls, st, h) := by
  unfold xf at k
  split at k
  · rename_i x r
    intro cells slots ws H locs lsC stC h1 h2 hr
    obtain ⟨hW, hP, hD, hS, hl, hst⟩ := hr
    obtain ⟨_, _, rfl, rfl, hst⟩ := hst
    exact row _ _ _ _ _ _ _ (hN _ k cells slots ws H locs lsC _ h1 h2 ⟨hW, hP, hD, hS, hl, ⟨_, _, rfl, hg _ _, hst⟩⟩)
  · exact k.1.elim
theorem so_fc (hN : ∀ f, rn f Q0 → xG p l e R s m args below meth c Q E ad cA D cl A r0 nL mc ms fin finS f) {op : CmpOp} (row : ∀ (H : Heap) (locs : List Loc) (cells slots : Nat) (lsC : Array Slot) (rest : List Value) (x y : UInt32), W p l e R s m args below meth c H locs cells slots Q (F0 m nx lsC (.int (Op.cmpValue (FP.fcmp x y) op) :: rest)) → W p l e R s m args below meth c H locs cells slots Q (F0 m pc lsC (.float y :: .float x :: rest))) (k : xwo E rc rn d Q0 (xfc op nx ls st h)) : xG p l e R s m args below meth c Q E ad cA D cl A r0 nL mc ms fin finS (pc, ls, st, h) := by
  unfold xfc at k
  split at k
  · rename_i y x r
    intro cells slots ws H locs lsC stC h1 h2 hr
    obtain ⟨hW, hP, hD, hS, hl, hst⟩ := hr
    obtain ⟨_, _, rfl, rfl, _, _, rfl, rfl, hst⟩ := hst
    exact row _ _ _ _ _ _ _ _ (hN _ k cells slots ws H locs lsC _ h1 h2 ⟨hW, hP, hD, hS, hl, ⟨_, _, rfl, rfl, hst⟩⟩)
  · exact k.1.elim
theorem so_push (hN : ∀ f, rn f Q0 → xG p l e R s m args below meth c Q E ad cA D cl A r0 nL mc ms fin finS f) {v : Value} (hv : ∀ ws : va_W, ∃ w, xv (xa ad ws) v w ∧ ∀ (H : Heap) (locs : List Loc) (cells slots : Nat) (lsC : Array Slot) (rest : List Value), W p l e R s m args below meth c H locs cells slots Q (F0 m nx lsC (w :: rest)) → W p l e R s m args below meth c H locs cells slots Q (F0 m pc lsC rest)) (k : xwo E rc rn d Q0 (.inl (nx, ls, v :: st, h))) : xG p l e R s m args below meth c Q E ad cA D cl A r0 nL mc ms fin finS (pc, ls, st, h) := by
  intro cells slots ws H locs lsC stC h1 h2 hr
  obtain ⟨hW, hP, hD, hS, hl, hst⟩ := hr
  obtain ⟨w, hv1, row⟩ := hv ws
  exact row _ _ _ _ _ _ (hN _ k cells slots ws H locs lsC _ h1 h2 ⟨hW, hP, hD, hS, hl, ⟨_, _, rfl, hv1, hst⟩⟩)
theorem so_loi (hN : ∀ f, rn f Q0 → xG p l e R s m args below meth c Q E ad cA D cl A r0 nL mc ms fin finS f) {i : Nat} (row : ∀ (H : Heap) (locs : List Loc) (cells slots : Nat) (lsC : Array Slot) (rest : List Value) (x : Int32), lsC[i]? = some (.val (.int x)) → W p l e R s m args below meth c H locs cells slots Q (F0 m nx lsC (.int x :: rest)) → W p l e R s m args below meth c H locs cells slots Q (F0 m pc lsC rest)) (k : xwo E rc rn d Q0 (xloi i nx ls st h)) : xG p l e R s m args below meth c Q E ad cA D cl A r0 nL mc ms fin finS (pc, ls, st, h) := by
  unfold xloi at k
  split at k
  · rename_i x hx
    intro cells slots ws H locs lsC stC h1 h2 hr
    obtain ⟨hW, hP, hD, hS, hl, hst⟩ := hr
    obtain ⟨_, e1, rfl⟩ := hl.2.2.2 i _ hx
    exact row _ _ _ _ _ _ _ e1 (hN _ k cells slots ws H locs lsC _ h1 h2 ⟨hW, hP, hD, hS, hl, ⟨_, _, rfl, rfl, hst⟩⟩)
  · exact k.1.elim
theorem so_lol (hN : ∀ f, rn f Q0 → xG p l e R s m args below meth c Q E ad cA D cl A r0 nL mc ms fin finS f) {i : Nat} (row : ∀ (H : Heap) (locs : List Loc) (cells slots : Nat) (lsC : Array Slot) (rest : List Value) (x : Int64), lsC[i]? = some (.val (.long x)) → W p l e R s m args below meth c H locs cells slots Q (F0 m nx lsC (.long x :: rest)) → W p l e R s m args below meth c H locs cells slots Q (F0 m pc lsC rest)) (k : xwo E rc rn d Q0 (xlol i nx ls st h)) : xG p l e R s m args below meth c Q E ad cA D cl A r0 nL mc ms fin finS (pc, ls, st, h) := by
  unfold xlol at k
  split at k
  · rename_i x hx
    intro cells slots ws H locs lsC stC h1 h2 hr
    obtain ⟨hW, hP, hD, hS, hl, hst⟩ := hr
    obtain ⟨_, e1, rfl⟩ := hl.2.2.2 i _ hx
    exact row _ _ _ _ _ _ _ e1 (hN _ k cells slots ws H locs lsC _ h1 h2 ⟨hW, hP, hD, hS, hl, ⟨_, _, rfl, rfl, hst⟩⟩)
  · exact k.1.elim
theorem so_lof (hN : ∀ f, rn f Q0 → xG p l e R s m args below meth c Q E ad cA D cl A r0 nL mc ms fin finS f) {i : Nat} (row : ∀ (H : Heap) (locs : List Loc) (cells slots : Nat) (lsC : Array Slot) (rest : List Value) (x : UInt32), lsC[i]? = some (.val (.float x)) → W p l e R s m args below meth c H locs cells slots Q (F0 m nx lsC (.float x :: rest)) → W p l e R s m args below meth c H locs cells slots Q (F0 m pc lsC rest)) (k : xwo E rc rn d Q0 (xlof i nx ls st h)) : xG p l e R s m args below meth c Q E ad cA D cl A r0 nL mc ms fin finS (pc, ls, st, h) := by
  unfold xlof at k
  split at k
  · rename_i x hx
    intro cells slots ws H locs lsC stC h1 h2 hr
    obtain ⟨hW, hP, hD, hS, hl, hst⟩ := hr
    obtain ⟨_, e1, rfl⟩ := hl.2.2.2 i _ hx
    exact row _ _ _ _ _ _ _ e1 (hN _ k cells slots ws H locs lsC _ h1 h2 ⟨hW, hP, hD, hS, hl, ⟨_, _, rfl, rfl, hst⟩⟩)
  · exact k.1.elim
theorem so_loa (hN : ∀ f, rn f Q0 → xG p l e R s m args below meth c Q E ad cA D cl A r0 nL mc ms fin finS f) {i : Nat} (row : ∀ (H : Heap) (locs : List Loc) (cells slots : Nat) (lsC : Array Slot) (rest : List Value) (x : Nat), lsC[i]? = some (.val (.ref x)) → W p l e R s m args below meth c H locs cells slots Q (F0 m nx lsC (.ref x :: rest)) → W p l e R s m args below meth c H locs cells slots Q (F0 m pc lsC rest)) (row2 : ∀ (H : Heap) (locs : List Loc) (cells slots : Nat) (lsC : Array Slot) (rest : List Value), lsC[i]? = some (.val .null) → W p l e R s m args below meth c H locs cells slots Q (F0 m nx lsC (.null :: rest)) → W p l e R s m args below meth c H locs cells slots Q (F0 m pc lsC rest)) (k : xwo E rc rn d Q0 (xloa i nx ls st h)) : xG p l e R s m args below meth c Q E ad cA D cl A r0 nL mc ms fin finS (pc, ls, st, h) := by
  unfold xloa at k
  split at k
  · rename_i x hx
    intro cells slots ws H locs lsC stC h1 h2 hr
    obtain ⟨hW, hP, hD, hS, hl, hst⟩ := hr
    obtain ⟨_, e1, a, e2, rfl⟩ := hl.2.2.2 i _ hx
    exact row _ _ _ _ _ _ _ e1 (hN _ k cells slots ws H locs lsC _ h1 h2 ⟨hW, hP, hD, hS, hl, ⟨_, _, rfl, ⟨a, e2, rfl⟩, hst⟩⟩)
  · rename_i hx
    intro cells slots ws H locs lsC stC h1 h2 hr
    obtain ⟨hW, hP, hD, hS, hl, hst⟩ := hr
    obtain ⟨_, e1, rfl⟩ := hl.2.2.2 i _ hx
    exact row2 _ _ _ _ _ _ e1 (hN _ k cells slots ws H locs lsC _ h1 h2 ⟨hW, hP, hD, hS, hl, ⟨_, _, rfl, rfl, hst⟩⟩)
  · exact k.1.elim
theorem so_sti (hN : ∀ f, rn f Q0 → xG p l e R s m args below meth c Q E ad cA D cl A r0 nL mc ms fin finS f) {i : Nat} (row : ∀ (H : Heap) (locs : List Loc) (cells slots : Nat) (lsC : Array Slot) (rest : List Value) (x : Int32), lv_has lsC nL (xall lsC) → i < nL → (∀ ls2 : Array Slot, lv_has ls2 nL ((i, Value.int x) :: (xall lsC).filter (fun q => !(q.1 == i) && !(q.1 + 1 == i && q.2.category == 2))) → W p l e R s m args below meth c H locs cells slots Q (F0 m nx ls2 rest)) → W p l e R s m args below meth c H locs cells slots Q (F0 m pc lsC (.int x :: rest))) (k : xwo E rc rn d Q0 (xsti i nx ls st h)) : xG p l e R s m args below meth c Q E ad cA D cl A r0 nL mc ms fin finS (pc, ls, st, h) := by
  unfold xsti at k
  split at k
  · rename_i x r
    split at k
    · rename_i l2 hp
      intro cells slots ws H locs lsC stC h1 h2 hr
      obtain ⟨hW, hP, hD, hS, hl, hst⟩ := hr
      obtain ⟨_, _, rfl, rfl, hst⟩ := hst
      refine row _ _ _ _ _ _ _ (xls_has hl) (by have := xput_lt hp; have h5 : ls.length = nL := hl.2.1; omega) (fun ls2 h9 => ?_)
      exact hN _ k cells slots ws H locs ls2 _ h1 h2 ⟨hW, hP, hD, hS, (xls_put hl hp rfl h9).1, hst⟩
    · exact k.1.elim
  · exact k.1.elim
theorem so_stf (hN : ∀ f, rn f Q0 → xG p l e R s m args below meth c Q E ad cA D cl A r0 nL mc ms fin finS f) {i : Nat} (row : ∀ (H : Heap) (locs : List Loc) (cells slots : Nat) (lsC : Array Slot) (rest : List Value) (x : UInt32), lv_has lsC nL (xall lsC) → i < nL → (∀ ls2 : Array Slot, lv_has ls2 nL ((i, Value.float x) :: (xall lsC).filter (fun q => !(q.1 == i) && !(q.1 + 1 == i && q.2.category == 2))) → W p l e R s m args below meth c H locs cells slots Q (F0 m nx ls2 rest)) → W p l e R s m args below meth c H locs cells slots Q (F0 m pc lsC (.float x :: rest))) (k : xwo E rc rn d Q0 (xstf i nx ls st h)) : xG p l e R s m args below meth c Q E ad cA D cl A r0 nL mc ms fin finS (pc, ls, st, h) := by
  unfold xstf at k
  split at k
  · rename_i x r
    split at k
    · rename_i l2 hp
      intro cells slots ws H locs lsC stC h1 h2 hr
      obtain ⟨hW, hP, hD, hS, hl, hst⟩ := hr
      obtain ⟨_, _, rfl, rfl, hst⟩ := hst
      refine row _ _ _ _ _ _ _ (xls_has hl) (by have := xput_lt hp; have h5 : ls.length = nL := hl.2.1; omega) (fun ls2 h9 => ?_)
      exact hN _ k cells slots ws H locs ls2 _ h1 h2 ⟨hW, hP, hD, hS, (xls_put hl hp rfl h9).1, hst⟩
    · exact k.1.elim
  · exact k.1.elim
theorem so_stl (hN : ∀ f, rn f Q0 → xG p l e R s m args below meth c Q E ad cA D cl A r0 nL mc ms fin finS f) {i : Nat} (row : ∀ (H : Heap) (locs : List Loc) (cells slots : Nat) (lsC : Array Slot) (rest : List Value) (x : Int64), lv_has lsC nL (xall lsC) → i + 1 < nL → (∀ ls2 : Array Slot, lv_has ls2 nL ((i, Value.long x) :: (xall lsC).filter (fun q => !(q.1 == i) && (!(q.1 == i + 1) && !(q.1 + 1 == i && q.2.category == 2)))) → W p l e R s m args below meth c H locs cells slots Q (F0 m nx ls2 rest)) → W p l e R s m args below meth c H locs cells slots Q (F0 m pc lsC (.long x :: rest))) (k : xwo E rc rn d Q0 (xstl i nx ls st h)) : xG p l e R s m args below meth c Q E ad cA D cl A r0 nL mc ms fin finS (pc, ls, st, h) := by
  unfold xstl at k
  split at k
  · rename_i x r
    split at k
    · rename_i l2 hp
      intro cells slots ws H locs lsC stC h1 h2 hr
      obtain ⟨hW, hP, hD, hS, hl, hst⟩ := hr
      obtain ⟨_, _, rfl, rfl, hst⟩ := hst
      refine row _ _ _ _ _ _ _ (xls_has hl) (by have := xput2_lt hp; have h5 : ls.length = nL := hl.2.1; omega) (fun ls2 h9 => ?_)
      exact hN _ k cells slots ws H locs ls2 _ h1 h2 ⟨hW, hP, hD, hS, (xls_put2 hl hp rfl h9), hst⟩
    · exact k.1.elim
  · exact k.1.elim
theorem so_sta (hN : ∀ f, rn f Q0 → xG p l e R s m args below meth c Q E ad cA D cl A r0 nL mc ms fin finS f) {i : Nat} (row : ∀ (H : Heap) (locs : List Loc) (cells slots : Nat) (lsC : Array Slot) (rest : List Value) (x : Nat), lv_has lsC nL (xall lsC) → i < nL → (∀ ls2 : Array Slot, lv_has ls2 nL ((i, Value.ref x) :: (xall lsC).filter (fun q => !(q.1 == i) && !(q.1 + 1 == i && q.2.category == 2))) → W p l e R s m args below meth c H locs cells slots Q (F0 m nx ls2 rest)) → W p l e R s m args below meth c H locs cells slots Q (F0 m pc lsC (.ref x :: rest))) (row2 : ∀ (H : Heap) (locs : List Loc) (cells slots : Nat) (lsC : Array Slot) (rest : List Value), lv_has lsC nL (xall lsC) → i < nL → (∀ ls2 : Array Slot, lv_has ls2 nL ((i, Value.null) :: (xall lsC).filter (fun q => !(q.1 == i) && !(q.1 + 1 == i && q.2.category == 2))) → W p l e R s m args below meth c H locs cells slots Q (F0 m nx ls2 rest)) → W p l e R s m args below meth c H locs cells slots Q (F0 m pc lsC (.null :: rest))) (k : xwo E rc rn d Q0 (xsta i nx ls st h)) : xG p l e R s m args below meth c Q E ad cA D cl A r0 nL mc ms fin finS (pc, ls, st, h) := by
  unfold xsta at k
  split at k
  · rename_i x r
    split at k
    · rename_i l2 hp
      intro cells slots ws H locs lsC stC h1 h2 hr
      obtain ⟨hW, hP, hD, hS, hl, hst⟩ := hr
      obtain ⟨_, _, rfl, ⟨a, e2, rfl⟩, hst⟩ := hst
      refine row _ _ _ _ _ _ _ (xls_has hl) (by have := xput_lt hp; have h5 : ls.length = nL := hl.2.1; omega) (fun ls2 h9 => ?_)
      exact hN _ k cells slots ws H locs ls2 _ h1 h2 ⟨hW, hP, hD, hS, (xls_put hl hp ⟨a, e2, rfl⟩ h9).1, hst⟩
    · exact k.1.elim
  · rename_i r
    split at k
    · rename_i l2 hp
      intro cells slots ws H locs lsC stC h1 h2 hr
      obtain ⟨hW, hP, hD, hS, hl, hst⟩ := hr
      obtain ⟨_, _, rfl, rfl, hst⟩ := hst
      refine row2 _ _ _ _ _ _ (xls_has hl) (by have := xput_lt hp; have h5 : ls.length = nL := hl.2.1; omega) (fun ls2 h9 => ?_)
      exact hN _ k cells slots ws H locs ls2 _ h1 h2 ⟨hW, hP, hD, hS, (xls_put hl hp rfl h9).1, hst⟩
    · exact k.1.elim
  · exact k.1.elim
theorem so_inc (hN : ∀ f, rn f Q0 → xG p l e R s m args below meth c Q E ad cA D cl A r0 nL mc ms fin finS f) {i : Nat} {z : Int32} (row : ∀ (H : Heap) (locs : List Loc) (cells slots : Nat) (lsC : Array Slot) (rest : List Value) (x : Int32), lv_has lsC nL (xall lsC) → lsC[i]? = some (.val (.int x)) → i < nL → (∀ ls2 : Array Slot, lv_has ls2 nL ((i, Value.int (x + z)) :: (xall lsC).filter (fun q => !(q.1 == i) && !(q.1 + 1 == i && q.2.category == 2))) → W p l e R s m args below meth c H locs cells slots Q (F0 m nx ls2 rest)) → W p l e R s m args below meth c H locs cells slots Q (F0 m pc lsC rest)) (k : xwo E rc rn d Q0 (xinc i (.int z) nx ls st h)) : xG p l e R s m args below meth c Q E ad cA D cl A r0 nL mc ms fin finS (pc, ls, st, h) := by
  unfold xinc at k
  split at k
  · rename_i x z2 hx hz
    cases hz
    split at k
    · rename_i l2 hp
      intro cells slots ws H locs lsC stC h1 h2 hr
      obtain ⟨hW, hP, hD, hS, hl, hst⟩ := hr
      obtain ⟨_, e1, rfl⟩ := hl.2.2.2 i _ hx
      refine row _ _ _ _ _ _ _ (xls_has hl) e1 (by have := xput_lt hp; have h5 : ls.length = nL := hl.2.1; omega) (fun ls2 h9 => ?_)
      exact hN _ k cells slots ws H locs ls2 _ h1 h2 ⟨hW, hP, hD, hS, (xls_put hl hp rfl h9).1, hst⟩
    · exact k.1.elim
  · exact k.1.elim
theorem so_b1 (hN : ∀ f, rn f Q0 → xG p l e R s m args below meth c Q E ad cA D cl A r0 nL mc ms fin finS f) {g : Int32 → Prop} {t : Nat} (row : ∀ (H : Heap) (locs : List Loc) (cells slots : Nat) (lsC : Array Slot) (rest : List Value) (x : Int32), (g x → W p l e R s m args below meth c H locs cells slots Q (F0 m t lsC rest)) → (¬ g x → W p l e R s m args below meth c H locs cells slots Q (F0 m nx lsC rest)) → W p l e R s m args below meth c H locs cells slots Q (F0 m pc lsC (.int x :: rest))) (k : xwo E rc rn d Q0 (xb1 g nx [t] ls st h)) : xG p l e R s m args below meth c Q E ad cA D cl A r0 nL mc ms fin finS (pc, ls, st, h) := by
  have k : xwo E rc rn d Q0 (xb1t g nx t ls st h) := k
  unfold xb1t at k
  split at k
  · rename_i x r
    intro cells slots ws H locs lsC stC h1 h2 hr
    obtain ⟨hW, hP, hD, hS, hl, hst⟩ := hr
    obtain ⟨_, _, rfl, rfl, hst⟩ := hst
    exact row _ _ _ _ _ _ _ (fun c => hN _ (k.1 c) cells slots ws H locs lsC _ h1 h2 ⟨hW, hP, hD, hS, hl, hst⟩) (fun c => hN _ (k.2 c) cells slots ws H locs lsC _ h1 h2 ⟨hW, hP, hD, hS, hl, hst⟩)
  · exact k.1.elim
theorem so_b2 (hN : ∀ f, rn f Q0 → xG p l e R s m args below meth c Q E ad cA D cl A r0 nL mc ms fin finS f) {g : Int32 → Int32 → Prop} {t : Nat} (row : ∀ (H : Heap) (locs : List Loc) (cells slots : Nat) (lsC : Array Slot) (rest : List Value) (x y : Int32), (g x y → W p l e R s m args below meth c H locs cells slots Q (F0 m t lsC rest)) → (¬ g x y → W p l e R s m args below meth c H locs cells slots Q (F0 m nx lsC rest)) → W p l e R s m args below meth c H locs cells slots Q (F0 m pc lsC (.int y :: .int x :: rest))) (k : xwo E rc rn d Q0 (xb2 g nx [t] ls st h)) : xG p l e R s m args below meth c Q E ad cA D cl A r0 nL mc ms fin finS (pc, ls, st, h) := by
  have k : xwo E rc rn d Q0 (xb2t g nx t ls st h) := k
  unfold xb2t at k
  split at k
  · rename_i y x r
    intro cells slots ws H locs lsC stC h1 h2 hr
    obtain ⟨hW, hP, hD, hS, hl, hst⟩ := hr
    obtain ⟨_, _, rfl, rfl, _, _, rfl, rfl, hst⟩ := hst
    exact row _ _ _ _ _ _ _ _ (fun c => hN _ (k.1 c) cells slots ws H locs lsC _ h1 h2 ⟨hW, hP, hD, hS, hl, hst⟩) (fun c => hN _ (k.2 c) cells slots ws H locs lsC _ h1 h2 ⟨hW, hP, hD, hS, hl, hst⟩)
  · exact k.1.elim
theorem so_nul (hN : ∀ f, rn f Q0 → xG p l e R s m args below meth c Q E ad cA D cl A r0 nL mc ms fin finS f) {a b : Nat} (row : ∀ (H : Heap) (locs : List Loc) (cells slots : Nat) (lsC : Array Slot) (rest : List Value), W p l e R s m args below meth c H locs cells slots Q (F0 m a lsC rest) → W p l e R s m args below meth c H locs cells slots Q (F0 m pc lsC (.null :: rest))) (row2 : ∀ (H : Heap) (locs : List Loc) (cells slots : Nat) (lsC : Array Slot) (rest : List Value) (x : Nat), W p l e R s m args below meth c H locs cells slots Q (F0 m b lsC rest) → W p l e R s m args below meth c H locs cells slots Q (F0 m pc lsC (.ref x :: rest))) (k : xwo E rc rn d Q0 (xnul a b ls st h)) : xG p l e R s m args below meth c Q E ad cA D cl A r0 nL mc ms fin finS (pc, ls, st, h) := by
  unfold xnul at k
  split at k
  · rename_i r
    intro cells slots ws H locs lsC stC h1 h2 hr
    obtain ⟨hW, hP, hD, hS, hl, hst⟩ := hr
    obtain ⟨_, _, rfl, rfl, hst⟩ := hst
    exact row _ _ _ _ _ _ (hN _ k cells slots ws H locs lsC _ h1 h2 ⟨hW, hP, hD, hS, hl, hst⟩)
  · rename_i x r
    intro cells slots ws H locs lsC stC h1 h2 hr
    obtain ⟨hW, hP, hD, hS, hl, hst⟩ := hr
    obtain ⟨_, _, rfl, ⟨y, e2, rfl⟩, hst⟩ := hst
    exact row2 _ _ _ _ _ _ _ (hN _ k cells slots ws H locs lsC _ h1 h2 ⟨hW, hP, hD, hS, hl, hst⟩)
  · exact k.1.elim
theorem so_goto (hN : ∀ f, rn f Q0 → xG p l e R s m args below meth c Q E ad cA D cl A r0 nL mc ms fin finS f) {t : Nat} (row : ∀ (H : Heap) (locs : List Loc) (cells slots : Nat) (lsC : Array Slot) (rest : List Value), W p l e R s m args below meth c H locs cells slots Q (F0 m t lsC rest) → W p l e R s m args below meth c H locs cells slots Q (F0 m pc lsC rest)) (k : xwo E rc rn d Q0 (.inl (t, ls, st, h))) : xG p l e R s m args below meth c Q E ad cA D cl A r0 nL mc ms fin finS (pc, ls, st, h) := by
  intro cells slots ws H locs lsC stC h1 h2 hr
  exact row _ _ _ _ _ _ (hN _ k cells slots ws H locs lsC _ h1 h2 hr)
theorem so_dup (hN : ∀ f, rn f Q0 → xG p l e R s m args below meth c Q E ad cA D cl A r0 nL mc ms fin finS f) (row : ∀ (H : Heap) (locs : List Loc) (cells slots : Nat) (lsC : Array Slot) (rest : List Value) (v : Value), v.category = 1 → W p l e R s m args below meth c H locs cells slots Q (F0 m nx lsC (v :: v :: rest)) → W p l e R s m args below meth c H locs cells slots Q (F0 m pc lsC (v :: rest))) (k : xwo E rc rn d Q0 (xdup nx ls st h)) : xG p l e R s m args below meth c Q E ad cA D cl A r0 nL mc ms fin finS (pc, ls, st, h) := by
  unfold xdup at k
  split at k
  · rename_i v r
    cases hb : (Nat.beq v.category 1) with
    | false => rw [hb] at k; exact k.1.elim
    | true =>
      rw [hb] at k
      have c1 := Nat.eq_of_beq_eq_true hb
      intro cells slots ws H locs lsC stC h1 h2 hr
      obtain ⟨hW, hP, hD, hS, hl, hst⟩ := hr
      obtain ⟨u0, _, rfl, hu0, hst⟩ := hst
      exact row _ _ _ _ _ _ _ ((xv_cat hu0).trans c1) (hN _ k cells slots ws H locs lsC _ h1 h2 ⟨hW, hP, hD, hS, hl, ⟨_, _, rfl, hu0, ⟨_, _, rfl, hu0, hst⟩⟩⟩)
  · exact k.1.elim
theorem so_pop (hN : ∀ f, rn f Q0 → xG p l e R s m args below meth c Q E ad cA D cl A r0 nL mc ms fin finS f) (row : ∀ (H : Heap) (locs : List Loc) (cells slots : Nat) (lsC : Array Slot) (rest : List Value) (v : Value), v.category = 1 → W p l e R s m args below meth c H locs cells slots Q (F0 m nx lsC rest) → W p l e R s m args below meth c H locs cells slots Q (F0 m pc lsC (v :: rest))) (k : xwo E rc rn d Q0 (xpo nx ls st h)) : xG p l e R s m args below meth c Q E ad cA D cl A r0 nL mc ms fin finS (pc, ls, st, h) := by
  unfold xpo at k
  split at k
  · rename_i v r
    cases hb : Nat.beq v.category 1 with
    | false => rw [hb] at k; exact k.1.elim
    | true =>
      rw [hb] at k
      have c1 := Nat.eq_of_beq_eq_true hb
      intro cells slots ws H locs lsC stC h1 h2 hr
      obtain ⟨hW, hP, hD, hS, hl, hst⟩ := hr
      obtain ⟨u0, _, rfl, hu0, hst⟩ := hst
      exact row _ _ _ _ _ _ _ ((xv_cat hu0).trans c1) (hN _ k cells slots ws H locs lsC _ h1 h2 ⟨hW, hP, hD, hS, hl, hst⟩)
  · exact k.1.elim
theorem so_dx1 (hN : ∀ f, rn f Q0 → xG p l e R s m args below meth c Q E ad cA D cl A r0 nL mc ms fin finS f) (row : ∀ (H : Heap) (locs : List Loc) (cells slots : Nat) (lsC : Array Slot) (rest : List Value) (v w : Value), v.category = 1 → w.category = 1 → W p l e R s m args below meth c H locs cells slots Q (F0 m nx lsC (v :: w :: v :: rest)) → W p l e R s m args below meth c H locs cells slots Q (F0 m pc lsC (v :: w :: rest))) (k : xwo E rc rn d Q0 (xdx1 nx ls st h)) : xG p l e R s m args below meth c Q E ad cA D cl A r0 nL mc ms fin finS (pc, ls, st, h) := by
  unfold xdx1 at k
  split at k
  · rename_i v w r
    cases hb : (Nat.beq v.category 1 && Nat.beq w.category 1) with
    | false => rw [hb] at k; exact k.1.elim
    | true =>
      rw [hb] at k
      rw [Bool.and_eq_true] at hb
      have c1 := Nat.eq_of_beq_eq_true hb.1
      have c2 := Nat.eq_of_beq_eq_true hb.2
      intro cells slots ws H locs lsC stC h1 h2 hr
      obtain ⟨hW, hP, hD, hS, hl, hst⟩ := hr
      obtain ⟨u0, _, rfl, hu0, u1, _, rfl, hu1, hst⟩ := hst
      exact row _ _ _ _ _ _ _ _ ((xv_cat hu0).trans c1) ((xv_cat hu1).trans c2) (hN _ k cells slots ws H locs lsC _ h1 h2 ⟨hW, hP, hD, hS, hl, ⟨_, _, rfl, hu0, ⟨_, _, rfl, hu1, ⟨_, _, rfl, hu0, hst⟩⟩⟩⟩)
  · exact k.1.elim
theorem so_dx2 (hN : ∀ f, rn f Q0 → xG p l e R s m args below meth c Q E ad cA D cl A r0 nL mc ms fin finS f) (row : ∀ (H : Heap) (locs : List Loc) (cells slots : Nat) (lsC : Array Slot) (rest : List Value) (v w z : Value), v.category = 1 → w.category = 1 → z.category = 1 → W p l e R s m args below meth c H locs cells slots Q (F0 m nx lsC (v :: w :: z :: v :: rest)) → W p l e R s m args below meth c H locs cells slots Q (F0 m pc lsC (v :: w :: z :: rest))) (k : xwo E rc rn d Q0 (xdx2 nx ls st h)) : xG p l e R s m args below meth c Q E ad cA D cl A r0 nL mc ms fin finS (pc, ls, st, h) := by
  unfold xdx2 at k
  split at k
  · rename_i v w z r
    cases hb : (Nat.beq v.category 1 && Nat.beq w.category 1 && Nat.beq z.category 1) with
    | false => rw [hb] at k; exact k.1.elim
    | true =>
      rw [hb] at k
      rw [Bool.and_eq_true, Bool.and_eq_true] at hb
      have c1 := Nat.eq_of_beq_eq_true hb.1.1
      have c2 := Nat.eq_of_beq_eq_true hb.1.2
      have c3 := Nat.eq_of_beq_eq_true hb.2
      intro cells slots ws H locs lsC stC h1 h2 hr
      obtain ⟨hW, hP, hD, hS, hl, hst⟩ := hr
      obtain ⟨u0, _, rfl, hu0, u1, _, rfl, hu1, u2, _, rfl, hu2, hst⟩ := hst
      exact row _ _ _ _ _ _ _ _ _ ((xv_cat hu0).trans c1) ((xv_cat hu1).trans c2) ((xv_cat hu2).trans c3) (hN _ k cells slots ws H locs lsC _ h1 h2 ⟨hW, hP, hD, hS, hl, ⟨_, _, rfl, hu0, ⟨_, _, rfl, hu1, ⟨_, _, rfl, hu2, ⟨_, _, rfl, hu0, hst⟩⟩⟩⟩⟩)
  · exact k.1.elim
theorem so_d2x1 (hN : ∀ f, rn f Q0 → xG p l e R s m args below meth c Q E ad cA D cl A r0 nL mc ms fin finS f) (row : ∀ (H : Heap) (locs : List Loc) (cells slots : Nat) (lsC : Array Slot) (rest : List Value) (v w : Value), v.category = 2 → w.category = 1 → W p l e R s m args below meth c H locs cells slots Q (F0 m nx lsC (v :: w :: v :: rest)) → W p l e R s m args below meth c H locs cells slots Q (F0 m pc lsC (v :: w :: rest))) (k : xwo E rc rn d Q0 (xd2x1 nx ls st h)) : xG p l e R s m args below meth c Q E ad cA D cl A r0 nL mc ms fin finS (pc, ls, st, h) := by
  unfold xd2x1 at k
  split at k
  · rename_i v w r
    cases hb : (Nat.beq v.category 2 && Nat.beq w.category 1) with
    | false => rw [hb] at k; exact k.1.elim
    | true =>
      rw [hb] at k
      rw [Bool.and_eq_true] at hb
      have c1 := Nat.eq_of_beq_eq_true hb.1
      have c2 := Nat.eq_of_beq_eq_true hb.2
      intro cells slots ws H locs lsC stC h1 h2 hr
      obtain ⟨hW, hP, hD, hS, hl, hst⟩ := hr
      obtain ⟨u0, _, rfl, hu0, u1, _, rfl, hu1, hst⟩ := hst
      exact row _ _ _ _ _ _ _ _ ((xv_cat hu0).trans c1) ((xv_cat hu1).trans c2) (hN _ k cells slots ws H locs lsC _ h1 h2 ⟨hW, hP, hD, hS, hl, ⟨_, _, rfl, hu0, ⟨_, _, rfl, hu1, ⟨_, _, rfl, hu0, hst⟩⟩⟩⟩)
  · exact k.1.elim
theorem so_d2 (hN : ∀ f, rn f Q0 → xG p l e R s m args below meth c Q E ad cA D cl A r0 nL mc ms fin finS f) (row : ∀ (H : Heap) (locs : List Loc) (cells slots : Nat) (lsC : Array Slot) (rest : List Value) (v w : Value), v.category = 1 → w.category = 1 → W p l e R s m args below meth c H locs cells slots Q (F0 m nx lsC (v :: w :: v :: w :: rest)) → W p l e R s m args below meth c H locs cells slots Q (F0 m pc lsC (v :: w :: rest))) (row2 : ∀ (H : Heap) (locs : List Loc) (cells slots : Nat) (lsC : Array Slot) (rest : List Value) (v : Value), v.category = 2 → W p l e R s m args below meth c H locs cells slots Q (F0 m nx lsC (v :: v :: rest)) → W p l e R s m args below meth c H locs cells slots Q (F0 m pc lsC (v :: rest))) (k : xwo E rc rn d Q0 (xd2 nx ls st h)) : xG p l e R s m args below meth c Q E ad cA D cl A r0 nL mc ms fin finS (pc, ls, st, h) := by
  unfold xd2 at k
  split at k
  · rename_i v w r
    intro cells slots ws H locs lsC stC h1 h2 hr
    obtain ⟨hW, hP, hD, hS, hl, hst⟩ := hr
    obtain ⟨u0, _, rfl, hu0, u1, _, rfl, hu1, hst⟩ := hst
    cases hb : (Nat.beq v.category 1 && Nat.beq w.category 1) with
    | true =>
      rw [hb] at k
      rw [Bool.and_eq_true] at hb
      have c1 := Nat.eq_of_beq_eq_true hb.1
      have c2 := Nat.eq_of_beq_eq_true hb.2
      exact row _ _ _ _ _ _ _ _ ((xv_cat hu0).trans c1) ((xv_cat hu1).trans c2) (hN _ k cells slots ws H locs lsC _ h1 h2 ⟨hW, hP, hD, hS, hl, ⟨_, _, rfl, hu0, _, _, rfl, hu1, _, _, rfl, hu0, _, _, rfl, hu1, hst⟩⟩)
    | false =>
      rw [hb] at k
      cases hb2 : Nat.beq v.category 2 with
      | false => rw [hb2] at k; exact k.1.elim
      | true =>
        rw [hb2] at k
        have c1 := Nat.eq_of_beq_eq_true hb2
        exact row2 _ _ _ _ _ _ _ ((xv_cat hu0).trans c1) (hN _ k cells slots ws H locs lsC _ h1 h2 ⟨hW, hP, hD, hS, hl, ⟨_, _, rfl, hu0, _, _, rfl, hu0, _, _, rfl, hu1, hst⟩⟩)
  · rename_i v
    intro cells slots ws H locs lsC stC h1 h2 hr
    obtain ⟨hW, hP, hD, hS, hl, hst⟩ := hr
    obtain ⟨u0, _, rfl, hu0, hst⟩ := hst
    cases hb2 : Nat.beq v.category 2 with
    | false => rw [hb2] at k; exact k.1.elim
    | true =>
      rw [hb2] at k
      have c1 := Nat.eq_of_beq_eq_true hb2
      exact row2 _ _ _ _ _ _ _ ((xv_cat hu0).trans c1) (hN _ k cells slots ws H locs lsC _ h1 h2 ⟨hW, hP, hD, hS, hl, ⟨_, _, rfl, hu0, _, _, rfl, hu0, hst⟩⟩)
  · exact k.1.elim
end XSO
end
