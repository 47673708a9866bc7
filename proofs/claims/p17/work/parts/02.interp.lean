/-! A MACHINE ON PAPER: an interpreter of the bytecode over cells that are numbered in the order of their making. -/
/-- the shape of a cell: an array (type of its entries, length, what it refers to), or an object (number of its class, what its fields refer to) -/
abbrev xS : Type := (FieldType × Nat × List (Option Nat)) ⊕ (Nat × List (Option Nat))
/-- the numbers in the cells: by cell and place -/
abbrev xD : Type := (Nat → Nat → Int32) × (Nat → Nat → Int64) × (Nat → Nat → UInt32)
abbrev xH : Type := List xS × xD
abbrev xL : Type := List (Option Value)
/-- a frame: pc, locals, stack, heap -/
abbrev xF : Type := Nat × xL × List Value × xH
/-- an instruction as the tables have it: the instruction, the next pc, its numbers (targets, class and field, method ..), its constant -/
abbrev xN : Type := Instr × Nat × List Nat × Value
/-- a method: name, bytes, locals, type of the answer, class, its instructions by pc -/
abbrev xM : Type := MethodName × ByteArray × Nat × Option FieldType × String × (Nat → Option xN)
/-- all methods by number, all classes' field types by number, length and letter of the text constants -/
abbrev xE : Type := (Nat → xM) × (Nat → List FieldType) × (Nat → Nat) × (Nat → Nat → Int32)
/-- what an instruction does: go on; go on where a condition holds; choose; call; end -/
abbrev xO : Type := xF ⊕ (Prop × xF) ⊕ (List (Prop × xF) × xF) ⊕ (Nat × List Value × Nat × xL × List Value × xH) ⊕ (Prop × Option Value × xH)
abbrev xP : Type := Option Value → xH → Prop
def xt0 : Nat := 1000000
def x2 {α : Type} (f : Nat → Nat → α) (a k : Nat) (x : α) : Nat → Nat → α := fun b j => bif Nat.beq b a && Nat.beq j k then x else f b j
def x0 {α : Type} (f : Nat → Nat → α) (a : Nat) (z : α) : Nat → Nat → α := fun b j => bif Nat.beq b a then z else f b j
def xrv : Option (Option Nat) → Value
  | some (some q) => .ref q
  | _ => .null
def xget (ty : FieldType) (k a : Nat) (rf : List (Option Nat)) (d : xD) : Value := match ty with
  | .long => .long (d.2.1 a k)
  | .float => .float (d.2.2 a k)
  | .double => .retAddr 0
  | .object _ => xrv rf[k]?
  | .array _ => xrv rf[k]?
  | _ => .int (d.1 a k)
def xno (f : xF) : xO := .inr (.inl (False, f))
def xld (ls : xL) (i : Nat) : Option Value := match ls[i]? with
  | some o => o
  | none => none
/-- a store into a local: what was there before goes, the second half of a long too -/
def xkill (ls : xL) (i : Nat) : xL := match i with
  | 0 => ls
  | j + 1 => match xld ls j with
    | some w => bif Nat.beq w.category 2 then ls.set j none else ls
    | none => ls
def xput (ls : xL) (i : Nat) (v : Value) : Option xL := match ls[i]? with
  | none => none
  | some _ => some ((xkill ls i).set i (some v))
def xput2 (ls : xL) (i : Nat) (v : Value) : Option xL := match ls[i + 1]? with
  | none => none
  | some _ => some (((xkill ls i).set i (some v)).set (i + 1) none)
def xpop : Nat → List Value → List Value → Option (List Value × List Value)
  | 0, st, acc => some (acc, st)
  | _ + 1, [], _ => none
  | n + 1, v :: st, acc => xpop n st (v :: acc)
def xflat : List Value → xL
  | [] => []
  | v :: vs => bif Nat.beq v.category 2 then some v :: none :: xflat vs else some v :: xflat vs
def xpad : Nat → xL → xL
  | 0, l => l
  | n + 1, [] => none :: xpad n []
  | n + 1, v :: l => v :: xpad n l
def xent (M : xM) (av : List Value) : xL := xpad M.2.2.1 (xflat av)
def xcat (st : List Value) : Nat := (st.map fun v => v.category).sum
/-- integers -/
def xii (g : Int32 → Int32 → Int32) (nx : Nat) (ls : xL) (st : List Value) (h : xH) : xO := match st with
  | .int y :: .int x :: r => .inl (nx, ls, .int (g x y) :: r, h)
  | _ => xno (nx, ls, st, h)
def xi (g : Int32 → Value) (nx : Nat) (ls : xL) (st : List Value) (h : xH) : xO := match st with
  | .int x :: r => .inl (nx, ls, g x :: r, h)
  | _ => xno (nx, ls, st, h)
def xiiD (g : Int32 → Int32 → Int32) (nx : Nat) (ls : xL) (st : List Value) (h : xH) : xO := match st with
  | .int y :: .int x :: r => .inr (.inl (¬ y = 0, nx, ls, .int (g x y) :: r, h))
  | _ => xno (nx, ls, st, h)
def xll (g : Int64 → Int64 → Value) (nx : Nat) (ls : xL) (st : List Value) (h : xH) : xO := match st with
  | .long y :: .long x :: r => .inl (nx, ls, g x y :: r, h)
  | _ => xno (nx, ls, st, h)
def xl (g : Int64 → Value) (nx : Nat) (ls : xL) (st : List Value) (h : xH) : xO := match st with
  | .long x :: r => .inl (nx, ls, g x :: r, h)
  | _ => xno (nx, ls, st, h)
def xli (g : Int64 → Int32 → Int64) (nx : Nat) (ls : xL) (st : List Value) (h : xH) : xO := match st with
  | .int y :: .long x :: r => .inl (nx, ls, .long (g x y) :: r, h)
  | _ => xno (nx, ls, st, h)
/-- floats: no answer may be NaN -/
def xff (g : UInt32 → UInt32 → UInt32) (nx : Nat) (ls : xL) (st : List Value) (h : xH) : xO := match st with
  | .float y :: .float x :: r => .inr (.inl (vf_n32 (g x y), nx, ls, .float (g x y) :: r, h))
  | _ => xno (nx, ls, st, h)
def xf (g : UInt32 → Value) (nx : Nat) (ls : xL) (st : List Value) (h : xH) : xO := match st with
  | .float x :: r => .inl (nx, ls, g x :: r, h)
  | _ => xno (nx, ls, st, h)
def xfc (op : CmpOp) (nx : Nat) (ls : xL) (st : List Value) (h : xH) : xO := match st with
  | .float y :: .float x :: r => .inl (nx, ls, .int (Op.cmpValue (FP.fcmp x y) op) :: r, h)
  | _ => xno (nx, ls, st, h)
/-- loads and stores of locals -/
def xloi (i nx : Nat) (ls : xL) (st : List Value) (h : xH) : xO := match xld ls i with
  | some (.int x) => .inl (nx, ls, .int x :: st, h)
  | _ => xno (nx, ls, st, h)
def xlol (i nx : Nat) (ls : xL) (st : List Value) (h : xH) : xO := match xld ls i with
  | some (.long x) => .inl (nx, ls, .long x :: st, h)
  | _ => xno (nx, ls, st, h)
def xlof (i nx : Nat) (ls : xL) (st : List Value) (h : xH) : xO := match xld ls i with
  | some (.float x) => .inl (nx, ls, .float x :: st, h)
  | _ => xno (nx, ls, st, h)
def xloa (i nx : Nat) (ls : xL) (st : List Value) (h : xH) : xO := match xld ls i with
  | some (.ref x) => .inl (nx, ls, .ref x :: st, h)
  | some .null => .inl (nx, ls, .null :: st, h)
  | _ => xno (nx, ls, st, h)
def xsti (i nx : Nat) (ls : xL) (st : List Value) (h : xH) : xO := match st with
  | .int x :: r => (match xput ls i (.int x) with
    | some ls' => .inl (nx, ls', r, h)
    | none => xno (nx, ls, st, h))
  | _ => xno (nx, ls, st, h)
def xstf (i nx : Nat) (ls : xL) (st : List Value) (h : xH) : xO := match st with
  | .float x :: r => (match xput ls i (.float x) with
    | some ls' => .inl (nx, ls', r, h)
    | none => xno (nx, ls, st, h))
  | _ => xno (nx, ls, st, h)
def xsta (i nx : Nat) (ls : xL) (st : List Value) (h : xH) : xO := match st with
  | .ref x :: r => (match xput ls i (.ref x) with
    | some ls' => .inl (nx, ls', r, h)
    | none => xno (nx, ls, st, h))
  | .null :: r => (match xput ls i .null with
    | some ls' => .inl (nx, ls', r, h)
    | none => xno (nx, ls, st, h))
  | _ => xno (nx, ls, st, h)
def xstl (i nx : Nat) (ls : xL) (st : List Value) (h : xH) : xO := match st with
  | .long x :: r => (match xput2 ls i (.long x) with
    | some ls' => .inl (nx, ls', r, h)
    | none => xno (nx, ls, st, h))
  | _ => xno (nx, ls, st, h)
def xinc (i : Nat) (v : Value) (nx : Nat) (ls : xL) (st : List Value) (h : xH) : xO := match xld ls i, v with
  | some (.int x), .int k => (match xput ls i (.int (x + k)) with
    | some ls' => .inl (nx, ls', st, h)
    | none => xno (nx, ls, st, h))
  | _, _ => xno (nx, ls, st, h)
/-- branches -/
def xb1t (g : Int32 → Prop) (nx t : Nat) (ls : xL) (st : List Value) (h : xH) : xO := match st with
  | .int x :: r => .inr (.inr (.inl ([(g x, t, ls, r, h)], nx, ls, r, h)))
  | _ => xno (nx, ls, st, h)
def xb1 (g : Int32 → Prop) (nx : Nat) (tg : List Nat) (ls : xL) (st : List Value) (h : xH) : xO := match tg with
  | [t] => xb1t g nx t ls st h
  | _ => xno (nx, ls, st, h)
def xb2t (g : Int32 → Int32 → Prop) (nx t : Nat) (ls : xL) (st : List Value) (h : xH) : xO := match st with
  | .int y :: .int x :: r => .inr (.inr (.inl ([(g x y, t, ls, r, h)], nx, ls, r, h)))
  | _ => xno (nx, ls, st, h)
def xb2 (g : Int32 → Int32 → Prop) (nx : Nat) (tg : List Nat) (ls : xL) (st : List Value) (h : xH) : xO := match tg with
  | [t] => xb2t g nx t ls st h
  | _ => xno (nx, ls, st, h)
def xnul (a b : Nat) (ls : xL) (st : List Value) (h : xH) : xO := match st with
  | .null :: r => .inl (a, ls, r, h)
  | .ref _ :: r => .inl (b, ls, r, h)
  | _ => xno (0, ls, st, h)
def xsw (ls : xL) (r : List Value) (h : xH) (x : Int32) : Int → List Nat → List (Prop × xF)
  | _, [] => []
  | k, t :: ts => (x.toInt = k, t, ls, r, h) :: xsw ls r h x (k + 1) ts
/-- fields -/
def xgft (E : xE) (nx ci k : Nat) (ls : xL) (st : List Value) (h : xH) : xO := match st with
  | .ref a :: r => (match h.1[a]?, (E.2.1 ci)[k]? with
    | some (.inr (c2, rf)), some ty => (bif Nat.beq c2 ci then .inl (nx, ls, xget ty k a rf h.2 :: r, h) else xno (nx, ls, st, h))
    | _, _ => xno (nx, ls, st, h))
  | _ => xno (nx, ls, st, h)
def xgf (E : xE) (nx : Nat) (tg : List Nat) (ls : xL) (st : List Value) (h : xH) : xO := match tg with
  | [ci, k] => xgft E nx ci k ls st h
  | _ => xno (nx, ls, st, h)
def xwr (nx : Nat) (ls : xL) (r st : List Value) (h : xH) (a ci k : Nat) (rf : List (Option Nat)) (ty : FieldType) (v : Value) : xO := match ty, v with
  | .int, .int x => .inl (nx, ls, r, h.1, x2 h.2.1 a k x, h.2.2)
  | .boolean, .int x => .inr (.inl (x = 0 ∨ x = 1, nx, ls, r, h.1, x2 h.2.1 a k x, h.2.2))
  | .long, .long x => .inl (nx, ls, r, h.1, h.2.1, x2 h.2.2.1 a k x, h.2.2.2)
  | .float, .float x => .inl (nx, ls, r, h.1, h.2.1, h.2.2.1, x2 h.2.2.2 a k x)
  | .object _, .ref q => .inl (nx, ls, r, h.1.set a (.inr (ci, rf.set k (some q))), h.2)
  | .array _, .ref q => .inl (nx, ls, r, h.1.set a (.inr (ci, rf.set k (some q))), h.2)
  | .object _, .null => .inl (nx, ls, r, h.1.set a (.inr (ci, rf.set k none)), h.2)
  | .array _, .null => .inl (nx, ls, r, h.1.set a (.inr (ci, rf.set k none)), h.2)
  | _, _ => xno (nx, ls, st, h)
def xpft (E : xE) (nx ci k : Nat) (ls : xL) (st : List Value) (h : xH) : xO := match st with
  | v :: .ref a :: r => (match h.1[a]?, (E.2.1 ci)[k]? with
    | some (.inr (c2, rf)), some ty => (bif Nat.beq c2 ci then xwr nx ls r st h a ci k rf ty v else xno (nx, ls, st, h))
    | _, _ => xno (nx, ls, st, h))
  | _ => xno (nx, ls, st, h)
def xpf (E : xE) (nx : Nat) (tg : List Nat) (ls : xL) (st : List Value) (h : xH) : xO := match tg with
  | [ci, k] => xpft E nx ci k ls st h
  | _ => xno (nx, ls, st, h)
/-- arrays -/
def xaldI (nx : Nat) (ls : xL) (st : List Value) (h : xH) : xO := match st with
  | .int i :: .ref a :: r => (match h.1[a]? with
    | some (.inl (.int, n, _)) => .inr (.inl (vp_in i n, nx, ls, .int (h.2.1 a i.toNatClampNeg) :: r, h))
    | _ => xno (nx, ls, st, h))
  | _ => xno (nx, ls, st, h)
def xaldB (nx : Nat) (ls : xL) (st : List Value) (h : xH) : xO := match st with
  | .int i :: .ref a :: r => (match h.1[a]? with
    | some (.inl (.byte, n, _)) => .inr (.inl (vp_in i n, nx, ls, .int (h.2.1 a i.toNatClampNeg) :: r, h))
    | _ => xno (nx, ls, st, h))
  | _ => xno (nx, ls, st, h)
def xaldL (nx : Nat) (ls : xL) (st : List Value) (h : xH) : xO := match st with
  | .int i :: .ref a :: r => (match h.1[a]? with
    | some (.inl (.long, n, _)) => .inr (.inl (vp_in i n, nx, ls, .long (h.2.2.1 a i.toNatClampNeg) :: r, h))
    | _ => xno (nx, ls, st, h))
  | _ => xno (nx, ls, st, h)
def xaldF (nx : Nat) (ls : xL) (st : List Value) (h : xH) : xO := match st with
  | .int i :: .ref a :: r => (match h.1[a]? with
    | some (.inl (.float, n, _)) => .inr (.inl (vp_in i n, nx, ls, .float (h.2.2.2 a i.toNatClampNeg) :: r, h))
    | _ => xno (nx, ls, st, h))
  | _ => xno (nx, ls, st, h)
def xaldA (nx : Nat) (ls : xL) (st : List Value) (h : xH) : xO := match st with
  | .int i :: .ref a :: r => (match h.1[a]? with
    | some (.inl (.array .float, n, rs)) => .inr (.inl (vp_in i n, nx, ls, xrv rs[i.toNatClampNeg]? :: r, h))
    | _ => xno (nx, ls, st, h))
  | _ => xno (nx, ls, st, h)
def xastI (nx : Nat) (ls : xL) (st : List Value) (h : xH) : xO := match st with
  | .int x :: .int i :: .ref a :: r => (match h.1[a]? with
    | some (.inl (.int, n, _)) => .inr (.inl (vp_in i n, nx, ls, r, h.1, x2 h.2.1 a i.toNatClampNeg x, h.2.2))
    | _ => xno (nx, ls, st, h))
  | _ => xno (nx, ls, st, h)
def xastB (nx : Nat) (ls : xL) (st : List Value) (h : xH) : xO := match st with
  | .int x :: .int i :: .ref a :: r => (match h.1[a]? with
    | some (.inl (.byte, n, _)) => .inr (.inl (vp_in i n, nx, ls, r, h.1, x2 h.2.1 a i.toNatClampNeg x.toInt8.toInt32, h.2.2))
    | _ => xno (nx, ls, st, h))
  | _ => xno (nx, ls, st, h)
def xastL (nx : Nat) (ls : xL) (st : List Value) (h : xH) : xO := match st with
  | .long x :: .int i :: .ref a :: r => (match h.1[a]? with
    | some (.inl (.long, n, _)) => .inr (.inl (vp_in i n, nx, ls, r, h.1, h.2.1, x2 h.2.2.1 a i.toNatClampNeg x, h.2.2.2))
    | _ => xno (nx, ls, st, h))
  | _ => xno (nx, ls, st, h)
def xastF (nx : Nat) (ls : xL) (st : List Value) (h : xH) : xO := match st with
  | .float x :: .int i :: .ref a :: r => (match h.1[a]? with
    | some (.inl (.float, n, _)) => .inr (.inl (vp_in i n, nx, ls, r, h.1, h.2.1, h.2.2.1, x2 h.2.2.2 a i.toNatClampNeg x))
    | _ => xno (nx, ls, st, h))
  | _ => xno (nx, ls, st, h)
def xaln (nx : Nat) (ls : xL) (st : List Value) (h : xH) : xO := match st with
  | .ref a :: r => (match h.1[a]? with
    | some (.inl (_, n, _)) => .inl (nx, ls, .int (Int32.ofNat n) :: r, h)
    | _ => xno (nx, ls, st, h))
  | _ => xno (nx, ls, st, h)
def xclr (d : xD) (q : Nat) : xD := (x0 d.1 q 0, x0 d.2.1 q 0, x0 d.2.2 q 0)
def xnew (E : xE) (nx : Nat) (tg : List Nat) (ls : xL) (st : List Value) (h : xH) : xO := match tg with
  | [ci] => .inl (nx, ls, .ref h.1.length :: st, h.1 ++ [.inr (ci, (E.2.1 ci).map fun _ => none)], xclr h.2 h.1.length)
  | _ => xno (nx, ls, st, h)
def xoka : FieldType → Bool
  | .int => true | .byte => true | .long => true | .float => true
  | _ => false
def xnar (ty : FieldType) (nx : Nat) (ls : xL) (st : List Value) (h : xH) : xO := match st with
  | .int n :: r => (bif xoka ty then .inr (.inl (¬ n < 0 ∧ n.toNatClampNeg ≤ 1000000, nx, ls, .ref h.1.length :: r, h.1 ++ [.inl (ty, n.toNatClampNeg, [])], xclr h.2 h.1.length)) else xno (nx, ls, st, h))
  | _ => xno (nx, ls, st, h)
def xty : ArrayType → FieldType
  | .boolean => .boolean | .char => .char | .float => .float | .double => .double | .byte => .byte | .short => .short | .int => .int | .long => .long
/-- new T[2][n] -/
def xmul (nx : Nat) (ls : xL) (st : List Value) (h : xH) : xO := match st with
  | .int n :: .int k :: r => .inr (.inl (k = 2 ∧ ¬ n < 0 ∧ n.toNatClampNeg ≤ 1000000, nx, ls, .ref h.1.length :: r, h.1 ++ [.inl (.array .float, 2, [some (h.1.length + 1), some (h.1.length + 2)]), .inl (.float, n.toNatClampNeg, []), .inl (.float, n.toNatClampNeg, [])], xclr (xclr (xclr h.2 h.1.length) (h.1.length + 1)) (h.1.length + 2)))
  | _ => xno (nx, ls, st, h)
/-- calls: [method, parameters] static; [method, parameters, class] of an object; [] of an object: Object(); [0], [1]: length and charAt of a text; [2], [3]: max and min -/
def xcl (E : xE) (nx : Nat) (ls : xL) (st : List Value) (h : xH) (y n : Nat) : xO := match xpop n st [] with
  | some (av, r) => (bif Nat.ble (xcat r) 8 && Nat.ble (xflat av).length (E.1 y).2.2.1 then .inr (.inr (.inr (.inl (y, av, nx, ls, r, h)))) else xno (nx, ls, st, h))
  | none => xno (nx, ls, st, h)
def xis (E : xE) (ci : Nat) (av : List Value) (h : xH) : Bool := match av with
  | .ref b :: _ => (match h.1[b]? with
    | some (.inr (c2, _)) => Nat.beq c2 ci
    | _ => false)
  | _ => false
def xclv (E : xE) (nx : Nat) (ls : xL) (st : List Value) (h : xH) (y n ci : Nat) : xO := match xpop (n + 1) st [] with
  | some (av, r) => (bif Nat.ble (xcat r) 8 && Nat.ble (xflat av).length (E.1 y).2.2.1 && xis E ci av h then .inr (.inr (.inr (.inl (y, av, nx, ls, r, h)))) else xno (nx, ls, st, h))
  | none => xno (nx, ls, st, h)
def xmax (nx : Nat) (ls : xL) (st : List Value) (h : xH) : xO := match st with
  | .int y :: .int x :: r => (bif Nat.ble (xcat r) 8 then .inl (nx, ls, .int (if x < y then y else x) :: r, h) else xno (nx, ls, st, h))
  | _ => xno (nx, ls, st, h)
def xmin (nx : Nat) (ls : xL) (st : List Value) (h : xH) : xO := match st with
  | .int y :: .int x :: r => (bif Nat.ble (xcat r) 8 then .inl (nx, ls, .int (if y < x then y else x) :: r, h) else xno (nx, ls, st, h))
  | _ => xno (nx, ls, st, h)
def xivs (E : xE) (nx : Nat) (tg : List Nat) (ls : xL) (st : List Value) (h : xH) : xO := match tg with
  | [y, n] => xcl E nx ls st h y n
  | [2] => xmax nx ls st h
  | [3] => xmin nx ls st h
  | _ => xno (nx, ls, st, h)
def xtl (E : xE) (nx : Nat) (ls : xL) (st : List Value) (h : xH) : xO := match st with
  | .ref a :: r => (bif Nat.ble xt0 a && Nat.ble (xcat r) 8 && Nat.ble 1 (E.2.2.1 (a - xt0)) then .inl (nx, ls, .int (nI (E.2.2.1 (a - xt0))) :: r, h) else xno (nx, ls, st, h))
  | _ => xno (nx, ls, st, h)
def xtc (E : xE) (nx : Nat) (ls : xL) (st : List Value) (h : xH) : xO := match st with
  | .int i :: .ref a :: r => (bif Nat.ble xt0 a && Nat.ble (xcat r) 8 then .inr (.inl (vp_in i (E.2.2.1 (a - xt0)), nx, ls, .int (E.2.2.2 (a - xt0) i.toNatClampNeg) :: r, h)) else xno (nx, ls, st, h))
  | _ => xno (nx, ls, st, h)
def xivv (E : xE) (nx : Nat) (tg : List Nat) (ls : xL) (st : List Value) (h : xH) : xO := match tg with
  | [y, n, ci] => xclv E nx ls st h y n ci
  | [0] => xtl E nx ls st h
  | [1] => xtc E nx ls st h
  | _ => xno (nx, ls, st, h)
def xobj (nx : Nat) (ls : xL) (st : List Value) (h : xH) : xO := match st with
  | .ref _ :: r => (bif Nat.ble (xcat r) 8 then .inl (nx, ls, r, h) else xno (nx, ls, st, h))
  | _ => xno (nx, ls, st, h)
def xivi (E : xE) (nx : Nat) (tg : List Nat) (ls : xL) (st : List Value) (h : xH) : xO := match tg with
  | [y, n, ci] => xclv E nx ls st h y n ci
  | [] => xobj nx ls st h
  | _ => xno (nx, ls, st, h)
def xswt (lo : Int) (nx t : Nat) (ts : List Nat) (ls : xL) (st : List Value) (h : xH) : xO := match st with
  | .int x :: r => .inr (.inr (.inl (xsw ls r h x lo ts, t, ls, r, h)))
  | _ => xno (nx, ls, st, h)
/-- ends -/
def xrei (M : xM) (st : List Value) (h : xH) : xO := match M.2.2.2.1, st with
  | some .int, [.int v] => .inr (.inr (.inr (.inr (True, some (.int v), h))))
  | some .boolean, [.int v] => .inr (.inr (.inr (.inr (v &&& 1 = v, some (.int v), h))))
  | _, _ => xno (0, [], st, h)
def xrel (M : xM) (st : List Value) (h : xH) : xO := match M.2.2.2.1, st with
  | some .long, [.long v] => .inr (.inr (.inr (.inr (True, some (.long v), h))))
  | _, _ => xno (0, [], st, h)
def xref (M : xM) (st : List Value) (h : xH) : xO := match M.2.2.2.1, st with
  | some .float, [.float v] => .inr (.inr (.inr (.inr (True, some (.float v), h))))
  | _, _ => xno (0, [], st, h)
def xrea (M : xM) (st : List Value) (h : xH) : xO := match M.2.2.2.1, st with
  | some (.object _), [.ref v] => .inr (.inr (.inr (.inr (True, some (.ref v), h))))
  | some (.array _), [.ref v] => .inr (.inr (.inr (.inr (True, some (.ref v), h))))
  | some (.object _), [.null] => .inr (.inr (.inr (.inr (True, some .null, h))))
  | some (.array _), [.null] => .inr (.inr (.inr (.inr (True, some .null, h))))
  | _, _ => xno (0, [], st, h)
def xrev (M : xM) (st : List Value) (h : xH) : xO := match M.2.2.2.1, st with
  | none, [] => .inr (.inr (.inr (.inr (True, none, h))))
  | _, _ => xno (0, [], st, h)
/-- the stack -/
def xdup (nx : Nat) (ls : xL) (st : List Value) (h : xH) : xO := match st with
  | v :: r => (bif Nat.beq v.category 1 then .inl (nx, ls, v :: v :: r, h) else xno (nx, ls, st, h))
  | _ => xno (nx, ls, st, h)
def xpo (nx : Nat) (ls : xL) (st : List Value) (h : xH) : xO := match st with
  | v :: r => (bif Nat.beq v.category 1 then .inl (nx, ls, r, h) else xno (nx, ls, st, h))
  | _ => xno (nx, ls, st, h)
def xdx1 (nx : Nat) (ls : xL) (st : List Value) (h : xH) : xO := match st with
  | v :: w :: r => (bif Nat.beq v.category 1 && Nat.beq w.category 1 then .inl (nx, ls, v :: w :: v :: r, h) else xno (nx, ls, st, h))
  | _ => xno (nx, ls, st, h)
def xdx2 (nx : Nat) (ls : xL) (st : List Value) (h : xH) : xO := match st with
  | v :: w :: z :: r => (bif Nat.beq v.category 1 && Nat.beq w.category 1 && Nat.beq z.category 1 then .inl (nx, ls, v :: w :: z :: v :: r, h) else xno (nx, ls, st, h))
  | _ => xno (nx, ls, st, h)
def xd2 (nx : Nat) (ls : xL) (st : List Value) (h : xH) : xO := match st with
  | v :: w :: r => (bif Nat.beq v.category 1 && Nat.beq w.category 1 then .inl (nx, ls, v :: w :: v :: w :: r, h) else bif Nat.beq v.category 2 then .inl (nx, ls, v :: v :: w :: r, h) else xno (nx, ls, st, h))
  | [v] => (bif Nat.beq v.category 2 then .inl (nx, ls, [v, v], h) else xno (nx, ls, st, h))
  | _ => xno (nx, ls, st, h)
def xd2x1 (nx : Nat) (ls : xL) (st : List Value) (h : xH) : xO := match st with
  | v :: w :: r => (bif Nat.beq v.category 2 && Nat.beq w.category 1 then .inl (nx, ls, v :: w :: v :: r, h) else xno (nx, ls, st, h))
  | _ => xno (nx, ls, st, h)
