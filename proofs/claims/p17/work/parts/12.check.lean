/-! how the tables of the machine on paper are checked -/
def xtgtb (pc : Nat) : List Int → List Nat → Bool
  | [], [] => true
  | o :: os, t :: ts => decide ((pc : Int) + o = (t : Int)) && xtgtb pc os ts
  | _, _ => false
theorem xtgtb_ok {pc : Nat} : ∀ {os : List Int} {ts : List Nat}, xtgtb pc os ts = true → xtgt pc os ts
  | [], [], _ => trivial
  | [], _ :: _, h => by cases h
  | _ :: _, [], h => by cases h
  | o :: os, t :: ts, h => by
    unfold xtgtb at h
    rw [Bool.and_eq_true] at h
    exact ⟨of_decide_eq_true h.1, xtgtb_ok h.2⟩
def xtb1 (pc : Nat) (off : Int) (tg : List Nat) : Bool := match tg with
  | [t] => decide ((pc : Int) + off = (t : Int))
  | _ => false
theorem xtb1_ok {pc : Nat} {off : Int} {tg : List Nat} (h : xtb1 pc off tg = true) : ∃ t, tg = [t] ∧ (pc : Int) + off = (t : Int) := by
  unfold xtb1 at h
  split at h
  · exact ⟨_, rfl, of_decide_eq_true h⟩
  · cases h
/-- what is computed: the decoding, the next pc, constants, targets -/
def xcv (pc : Nat) (i : Instr) (tg : List Nat) (v : Value) : Bool := match i with
  | .iconst n => decide (v = .int (Int32.ofInt n))
  | .bipush n => decide (v = .int (Int8.ofInt n).toInt32)
  | .sipush n => decide (v = .int (Int16.ofInt n).toInt32)
  | .lconst n => decide (v = .long (Int64.ofNat (n : Nat)))
  | .fconst n => decide (v = .float (if n = 0 then FP.fconst0 else if n = 1 then FP.fconst1 else FP.fconst2))
  | .iinc _ n => decide (v = .int (Int32.ofInt n))
  | .ifCond _ off => xtb1 pc off tg
  | .if_icmp _ off => xtb1 pc off tg
  | .ifnull off => xtb1 pc off tg
  | .ifnonnull off => xtb1 pc off tg
  | .goto off => xtb1 pc off tg
  | _ => true
def xdb (cc : ByteArray) (pc : Nat) (q : xN) : Bool := match q.1 with
  | .tableswitch df lo hi offs => (match decode cc pc with
    | .ok (j, _) => decide (j = .tableswitch df lo hi offs)
    | _ => false) && decide ((offs.toList.length : Int) = hi - lo + 1) && xtgtb pc (df :: offs.toList) q.2.2.1
  | i => decide (decode cc pc = .ok (i, xlen i)) && Nat.beq q.2.1 (pc + xlen i) && xcv pc i q.2.2.1 q.2.2.2
/-- what is to be shown: what the instruction is linked to -/
def xlL (TB : List Cond) (TF : List xNF) (TM : List xNM) (TS : List xTS) (cl : List vw_C) (E : xE) (name own : String) (q : xN) : Prop := match q.1 with
  | .ldc idx => (∃ x, q.2.2.2 = .int x ∧ Cond.constant own idx x ∈ TB) ∨ (∃ x, q.2.2.2 = .float x ∧ Cond.constantFloat own idx x ∈ TB) ∨ ∃ tx j, q.2.2.2 = .ref (xt0 + j) ∧ (own, idx, tx, j) ∈ TS
  | .ldc_w idx => (∃ x, q.2.2.2 = .int x ∧ Cond.constant own idx x ∈ TB) ∨ ∃ x, q.2.2.2 = .float x ∧ Cond.constantFloat own idx x ∈ TB
  | .ldc2_w idx => ∃ x, q.2.2.2 = .long x ∧ Cond.constantLong own idx x ∈ TB
  | .getfield idx => ∃ ci k r, q.2.2.1 = [ci, k] ∧ cl[ci]? = some r ∧ k < r.2.2 ∧ xLF TB TF own idx (r.2.1 k)
  | .putfield idx => ∃ ci k r, q.2.2.1 = [ci, k] ∧ cl[ci]? = some r ∧ k < r.2.2 ∧ xLF TB TF own idx (r.2.1 k) ∧ ((r.2.1 k).2.2.2 = false ∨ (name = "<init>" ∧ (r.2.1 k).1 = own ∧ Cond.fieldLink own idx (r.2.1 k).1 (r.2.1 k).2.1 (r.2.1 k).2.2.1 ∈ TB))
  | .new idx => ∃ ci r, q.2.2.1 = [ci] ∧ cl[ci]? = some r ∧ Cond.classLink own idx r.1 ∈ TB
  | .multianewarray idx k => k = 2 ∧ Cond.classLink own idx "[[F" ∈ TB
  | .invokestatic idx => (∃ y n, q.2.2.1 = [y, n] ∧ xMok TB (E.1 y) n ∧ Cond.methodLink own idx (E.1 y).1 ∈ TB ∧ Cond.static (E.1 y).1 ∈ TB) ∨ (q.2.2.1 = [2] ∧ Cond.methodLink own idx Lib.Math.max.name ∈ TB ∧ Cond.static Lib.Math.max.name ∈ TB ∧ Cond.initialized "java/lang/Math" ∈ TB ∧ Cond.code Lib.Math.max.name Lib.Math.max.code 2 (some .int) ∈ TB) ∨ (q.2.2.1 = [3] ∧ Cond.methodLink own idx Lib.Math.min.name ∈ TB ∧ Cond.static Lib.Math.min.name ∈ TB ∧ Cond.initialized "java/lang/Math" ∈ TB ∧ Cond.code Lib.Math.min.name Lib.Math.min.code 2 (some .int) ∈ TB)
  | .invokevirtual idx => (∃ y n ci r, q.2.2.1 = [y, n, ci] ∧ cl[ci]? = some r ∧ xMok TB (E.1 y) n ∧ (E.1 y).1.cls = r.1 ∧ Cond.methodLink own idx (E.1 y).1 ∈ TB ∧ Cond.instanceMethod (E.1 y).1 ∈ TB ∧ Cond.selects r.1 (E.1 y).1 (E.1 y).1 ∈ TB) ∨ (q.2.2.1 = [0] ∧ xTx TB own idx 0) ∨ (q.2.2.1 = [1] ∧ xTx TB own idx 1)
  | .invokespecial idx => (∃ y n ci, q.2.2.1 = [y, n, ci] ∧ xMok TB (E.1 y) n ∧ (E.1 y).2.2.2.1 = none ∧ (E.1 y).1.name = "<init>" ∧ (Cond.methodLink own idx (E.1 y).1 ∈ TB ∨ ∃ host, (own, idx, (E.1 y).1, host) ∈ TM) ∧ Cond.instanceMethod (E.1 y).1 ∈ TB) ∨ (q.2.2.1 = [] ∧ Cond.methodLink own idx Lib.objectInit ∈ TB ∧ Cond.instanceMethod Lib.objectInit ∈ TB ∧ Cond.code Lib.objectInit ⟨#[0xb1]⟩ 1 none ∈ TB)
  | _ => True
theorem xlk_of {TB : List Cond} {TF : List xNF} {TM : List xNM} {TS : List xTS} {cl : List vw_C} {E : xE} {M : xM} {pc : Nat} {i : Instr} {nx : Nat} {tg : List Nat} {v : Value} (hd : xdb M.2.1 pc (i, nx, tg, v) = true) (hl : xlL TB TF TM TS cl E M.1.name M.2.2.2.2.1 (i, nx, tg, v)) : xlk TB TF TM TS cl E M pc i nx tg v := by
  cases i with
  | tableswitch df lo hi offs =>
    have hd : ((match decode M.2.1 pc with
      | .ok (j, _) => decide (j = .tableswitch df lo hi offs)
      | _ => false) && decide ((offs.toList.length : Int) = hi - lo + 1) && xtgtb pc (df :: offs.toList) tg) = true := hd
    rw [Bool.and_eq_true, Bool.and_eq_true] at hd
    obtain ⟨⟨h1, h2⟩, h3⟩ := hd
    refine ⟨?_, of_decide_eq_true h2, xtgtb_ok h3⟩
    split at h1
    · rename_i j len hj
      rw [of_decide_eq_true h1] at hj
      exact ⟨len, hj⟩
    · cases h1
  | iconst n =>
    have hd : (decide (decode M.2.1 pc = .ok (.iconst n, xlen (.iconst n))) && Nat.beq nx (pc + xlen (.iconst n)) && xcv pc (.iconst n) tg v) = true := hd
    rw [Bool.and_eq_true, Bool.and_eq_true] at hd
    obtain ⟨⟨h1, h2⟩, h3⟩ := hd
    exact ⟨⟨of_decide_eq_true h1, Nat.eq_of_beq_eq_true h2⟩, of_decide_eq_true h3⟩
  | bipush n =>
    have hd : (decide (decode M.2.1 pc = .ok (.bipush n, xlen (.bipush n))) && Nat.beq nx (pc + xlen (.bipush n)) && xcv pc (.bipush n) tg v) = true := hd
    rw [Bool.and_eq_true, Bool.and_eq_true] at hd
    obtain ⟨⟨h1, h2⟩, h3⟩ := hd
    exact ⟨⟨of_decide_eq_true h1, Nat.eq_of_beq_eq_true h2⟩, of_decide_eq_true h3⟩
  | sipush n =>
    have hd : (decide (decode M.2.1 pc = .ok (.sipush n, xlen (.sipush n))) && Nat.beq nx (pc + xlen (.sipush n)) && xcv pc (.sipush n) tg v) = true := hd
    rw [Bool.and_eq_true, Bool.and_eq_true] at hd
    obtain ⟨⟨h1, h2⟩, h3⟩ := hd
    exact ⟨⟨of_decide_eq_true h1, Nat.eq_of_beq_eq_true h2⟩, of_decide_eq_true h3⟩
  | lconst n =>
    have hd : (decide (decode M.2.1 pc = .ok (.lconst n, xlen (.lconst n))) && Nat.beq nx (pc + xlen (.lconst n)) && xcv pc (.lconst n) tg v) = true := hd
    rw [Bool.and_eq_true, Bool.and_eq_true] at hd
    obtain ⟨⟨h1, h2⟩, h3⟩ := hd
    exact ⟨⟨of_decide_eq_true h1, Nat.eq_of_beq_eq_true h2⟩, of_decide_eq_true h3⟩
  | fconst n =>
    have hd : (decide (decode M.2.1 pc = .ok (.fconst n, xlen (.fconst n))) && Nat.beq nx (pc + xlen (.fconst n)) && xcv pc (.fconst n) tg v) = true := hd
    rw [Bool.and_eq_true, Bool.and_eq_true] at hd
    obtain ⟨⟨h1, h2⟩, h3⟩ := hd
    exact ⟨⟨of_decide_eq_true h1, Nat.eq_of_beq_eq_true h2⟩, of_decide_eq_true h3⟩
  | iinc k n =>
    have hd : (decide (decode M.2.1 pc = .ok (.iinc k n, xlen (.iinc k n))) && Nat.beq nx (pc + xlen (.iinc k n)) && xcv pc (.iinc k n) tg v) = true := hd
    rw [Bool.and_eq_true, Bool.and_eq_true] at hd
    obtain ⟨⟨h1, h2⟩, h3⟩ := hd
    exact ⟨⟨of_decide_eq_true h1, Nat.eq_of_beq_eq_true h2⟩, of_decide_eq_true h3⟩
  | ifCond cnd off =>
    have hd : (decide (decode M.2.1 pc = .ok (.ifCond cnd off, xlen (.ifCond cnd off))) && Nat.beq nx (pc + xlen (.ifCond cnd off)) && xcv pc (.ifCond cnd off) tg v) = true := hd
    rw [Bool.and_eq_true, Bool.and_eq_true] at hd
    obtain ⟨⟨h1, h2⟩, h3⟩ := hd
    exact ⟨⟨of_decide_eq_true h1, Nat.eq_of_beq_eq_true h2⟩, xtb1_ok h3⟩
  | if_icmp cnd off =>
    have hd : (decide (decode M.2.1 pc = .ok (.if_icmp cnd off, xlen (.if_icmp cnd off))) && Nat.beq nx (pc + xlen (.if_icmp cnd off)) && xcv pc (.if_icmp cnd off) tg v) = true := hd
    rw [Bool.and_eq_true, Bool.and_eq_true] at hd
    obtain ⟨⟨h1, h2⟩, h3⟩ := hd
    exact ⟨⟨of_decide_eq_true h1, Nat.eq_of_beq_eq_true h2⟩, xtb1_ok h3⟩
  | ifnull off =>
    have hd : (decide (decode M.2.1 pc = .ok (.ifnull off, xlen (.ifnull off))) && Nat.beq nx (pc + xlen (.ifnull off)) && xcv pc (.ifnull off) tg v) = true := hd
    rw [Bool.and_eq_true, Bool.and_eq_true] at hd
    obtain ⟨⟨h1, h2⟩, h3⟩ := hd
    exact ⟨⟨of_decide_eq_true h1, Nat.eq_of_beq_eq_true h2⟩, xtb1_ok h3⟩
  | ifnonnull off =>
    have hd : (decide (decode M.2.1 pc = .ok (.ifnonnull off, xlen (.ifnonnull off))) && Nat.beq nx (pc + xlen (.ifnonnull off)) && xcv pc (.ifnonnull off) tg v) = true := hd
    rw [Bool.and_eq_true, Bool.and_eq_true] at hd
    obtain ⟨⟨h1, h2⟩, h3⟩ := hd
    exact ⟨⟨of_decide_eq_true h1, Nat.eq_of_beq_eq_true h2⟩, xtb1_ok h3⟩
  | goto off =>
    have hd : (decide (decode M.2.1 pc = .ok (.goto off, xlen (.goto off))) && Nat.beq nx (pc + xlen (.goto off)) && xcv pc (.goto off) tg v) = true := hd
    rw [Bool.and_eq_true, Bool.and_eq_true] at hd
    obtain ⟨⟨h1, h2⟩, h3⟩ := hd
    exact ⟨⟨of_decide_eq_true h1, Nat.eq_of_beq_eq_true h2⟩, xtb1_ok h3⟩
  | ldc idx =>
    have hd : (decide (decode M.2.1 pc = .ok (.ldc idx, xlen (.ldc idx))) && Nat.beq nx (pc + xlen (.ldc idx)) && xcv pc (.ldc idx) tg v) = true := hd
    rw [Bool.and_eq_true, Bool.and_eq_true] at hd
    obtain ⟨⟨h1, h2⟩, h3⟩ := hd
    exact ⟨⟨of_decide_eq_true h1, Nat.eq_of_beq_eq_true h2⟩, hl⟩
  | ldc_w idx =>
    have hd : (decide (decode M.2.1 pc = .ok (.ldc_w idx, xlen (.ldc_w idx))) && Nat.beq nx (pc + xlen (.ldc_w idx)) && xcv pc (.ldc_w idx) tg v) = true := hd
    rw [Bool.and_eq_true, Bool.and_eq_true] at hd
    obtain ⟨⟨h1, h2⟩, h3⟩ := hd
    exact ⟨⟨of_decide_eq_true h1, Nat.eq_of_beq_eq_true h2⟩, hl⟩
  | ldc2_w idx =>
    have hd : (decide (decode M.2.1 pc = .ok (.ldc2_w idx, xlen (.ldc2_w idx))) && Nat.beq nx (pc + xlen (.ldc2_w idx)) && xcv pc (.ldc2_w idx) tg v) = true := hd
    rw [Bool.and_eq_true, Bool.and_eq_true] at hd
    obtain ⟨⟨h1, h2⟩, h3⟩ := hd
    exact ⟨⟨of_decide_eq_true h1, Nat.eq_of_beq_eq_true h2⟩, hl⟩
  | getfield idx =>
    have hd : (decide (decode M.2.1 pc = .ok (.getfield idx, xlen (.getfield idx))) && Nat.beq nx (pc + xlen (.getfield idx)) && xcv pc (.getfield idx) tg v) = true := hd
    rw [Bool.and_eq_true, Bool.and_eq_true] at hd
    obtain ⟨⟨h1, h2⟩, h3⟩ := hd
    exact ⟨⟨of_decide_eq_true h1, Nat.eq_of_beq_eq_true h2⟩, hl⟩
  | putfield idx =>
    have hd : (decide (decode M.2.1 pc = .ok (.putfield idx, xlen (.putfield idx))) && Nat.beq nx (pc + xlen (.putfield idx)) && xcv pc (.putfield idx) tg v) = true := hd
    rw [Bool.and_eq_true, Bool.and_eq_true] at hd
    obtain ⟨⟨h1, h2⟩, h3⟩ := hd
    exact ⟨⟨of_decide_eq_true h1, Nat.eq_of_beq_eq_true h2⟩, hl⟩
  | new idx =>
    have hd : (decide (decode M.2.1 pc = .ok (.new idx, xlen (.new idx))) && Nat.beq nx (pc + xlen (.new idx)) && xcv pc (.new idx) tg v) = true := hd
    rw [Bool.and_eq_true, Bool.and_eq_true] at hd
    obtain ⟨⟨h1, h2⟩, h3⟩ := hd
    exact ⟨⟨of_decide_eq_true h1, Nat.eq_of_beq_eq_true h2⟩, hl⟩
  | multianewarray idx k =>
    have hd : (decide (decode M.2.1 pc = .ok (.multianewarray idx k, xlen (.multianewarray idx k))) && Nat.beq nx (pc + xlen (.multianewarray idx k)) && xcv pc (.multianewarray idx k) tg v) = true := hd
    rw [Bool.and_eq_true, Bool.and_eq_true] at hd
    obtain ⟨⟨h1, h2⟩, h3⟩ := hd
    exact ⟨⟨of_decide_eq_true h1, Nat.eq_of_beq_eq_true h2⟩, hl⟩
  | invokestatic idx =>
    have hd : (decide (decode M.2.1 pc = .ok (.invokestatic idx, xlen (.invokestatic idx))) && Nat.beq nx (pc + xlen (.invokestatic idx)) && xcv pc (.invokestatic idx) tg v) = true := hd
    rw [Bool.and_eq_true, Bool.and_eq_true] at hd
    obtain ⟨⟨h1, h2⟩, h3⟩ := hd
    exact ⟨⟨of_decide_eq_true h1, Nat.eq_of_beq_eq_true h2⟩, hl⟩
  | invokevirtual idx =>
    have hd : (decide (decode M.2.1 pc = .ok (.invokevirtual idx, xlen (.invokevirtual idx))) && Nat.beq nx (pc + xlen (.invokevirtual idx)) && xcv pc (.invokevirtual idx) tg v) = true := hd
    rw [Bool.and_eq_true, Bool.and_eq_true] at hd
    obtain ⟨⟨h1, h2⟩, h3⟩ := hd
    exact ⟨⟨of_decide_eq_true h1, Nat.eq_of_beq_eq_true h2⟩, hl⟩
  | invokespecial idx =>
    have hd : (decide (decode M.2.1 pc = .ok (.invokespecial idx, xlen (.invokespecial idx))) && Nat.beq nx (pc + xlen (.invokespecial idx)) && xcv pc (.invokespecial idx) tg v) = true := hd
    rw [Bool.and_eq_true, Bool.and_eq_true] at hd
    obtain ⟨⟨h1, h2⟩, h3⟩ := hd
    exact ⟨⟨of_decide_eq_true h1, Nat.eq_of_beq_eq_true h2⟩, hl⟩
  | _ =>
    have hd : (decide (decode M.2.1 pc = .ok (_, xlen _)) && Nat.beq nx (pc + xlen _) && xcv pc _ tg v) = true := hd
    rw [Bool.and_eq_true, Bool.and_eq_true] at hd
    obtain ⟨⟨h1, h2⟩, h3⟩ := hd
    exact ⟨⟨of_decide_eq_true h1, Nat.eq_of_beq_eq_true h2⟩, trivial⟩
/-! a tree of instructions -/
theorem xnode {P : Nat → xN → Prop} {k : Nat} {lo hi : Nat → Option xN} (a : ∀ pc q, lo pc = some q → P pc q) (b : ∀ pc q, hi pc = some q → P pc q) : ∀ pc q, (bif Nat.ble k pc then hi pc else lo pc) = some q → P pc q := by
  intro pc q h
  cases hb : Nat.ble k pc with
  | true => rw [hb] at h; exact b pc q h
  | false => rw [hb] at h; exact a pc q h
theorem xleaf {P : Nat → xN → Prop} {k : Nat} {e : xN} (a : P k e) : ∀ pc q, (bif Nat.beq pc k then some e else none) = some q → P pc q := by
  intro pc q h
  cases hb : Nat.beq pc k with
  | true =>
    rw [hb] at h
    have h9 := Nat.eq_of_beq_eq_true hb
    subst h9
    cases h
    exact a
  | false => rw [hb] at h; cases h
theorem xnone {P : Nat → xN → Prop} : ∀ (pc : Nat) (q : xN), (none : Option xN) = some q → P pc q := fun _ _ h => by cases h
/-- all instructions of a method are as the bytes have them -/
def xall_b (cc : ByteArray) (n : Nat) (ins : Nat → Option xN) : Bool := (List.range n).all fun pc => match ins pc with
  | none => true
  | some q => xdb cc pc q
theorem xall_ok {cc : ByteArray} {n : Nat} {ins : Nat → Option xN} (h : xall_b cc n ins = true) (hn : ∀ pc q, ins pc = some q → pc < n) : ∀ pc q, ins pc = some q → xdb cc pc q = true := by
  intro pc q hq
  have h1 := List.all_eq_true.mp h pc (List.mem_range.mpr (hn pc q hq))
  rw [hq] at h1
  exact h1
theorem xtop {n : Nat} {t : Nat → Option xN} : ∀ pc q, (bif Nat.ble n pc then none else t pc) = some q → pc < n := by
  intro pc q h
  cases hb : Nat.ble n pc with
  | true => rw [hb] at h; cases h
  | false =>
    rcases Nat.lt_or_ge pc n with z | z
    · exact z
    · rw [Nat.ble_eq_true_of_le z] at hb; cases hb
