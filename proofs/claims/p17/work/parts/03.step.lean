/-- one instruction -/
def xins (E : xE) (M : xM) (i : Instr) (nx : Nat) (tg : List Nat) (v : Value) (ls : xL) (st : List Value) (h : xH) : xO := match i with
  | .iconst _ => .inl (nx, ls, v :: st, h)
  | .bipush _ => .inl (nx, ls, v :: st, h)
  | .sipush _ => .inl (nx, ls, v :: st, h)
  | .lconst _ => .inl (nx, ls, v :: st, h)
  | .fconst _ => .inl (nx, ls, v :: st, h)
  | .ldc _ => .inl (nx, ls, v :: st, h)
  | .ldc_w _ => .inl (nx, ls, v :: st, h)
  | .ldc2_w _ => .inl (nx, ls, v :: st, h)
  | .aconst_null => .inl (nx, ls, .null :: st, h)
  | .iload k => xloi k nx ls st h
  | .iload_n k => xloi k.val nx ls st h
  | .lload k => xlol k nx ls st h
  | .lload_n k => xlol k.val nx ls st h
  | .fload k => xlof k nx ls st h
  | .fload_n k => xlof k.val nx ls st h
  | .aload k => xloa k nx ls st h
  | .aload_n k => xloa k.val nx ls st h
  | .istore k => xsti k nx ls st h
  | .istore_n k => xsti k.val nx ls st h
  | .lstore k => xstl k nx ls st h
  | .lstore_n k => xstl k.val nx ls st h
  | .fstore k => xstf k nx ls st h
  | .fstore_n k => xstf k.val nx ls st h
  | .astore k => xsta k nx ls st h
  | .astore_n k => xsta k.val nx ls st h
  | .iinc k _ => xinc k v nx ls st h
  | .iadd => xii (fun x y => x + y) nx ls st h
  | .isub => xii (fun x y => x - y) nx ls st h
  | .imul => xii (fun x y => x * y) nx ls st h
  | .iand => xii (fun x y => x &&& y) nx ls st h
  | .ior => xii (fun x y => x ||| y) nx ls st h
  | .ixor => xii (fun x y => x ^^^ y) nx ls st h
  | .idiv => xiiD (fun x y => x / y) nx ls st h
  | .irem => xiiD (fun x y => x - x / y * y) nx ls st h
  | .ineg => xi (fun x => .int (-x)) nx ls st h
  | .ishl => xii (fun x y => x <<< (y &&& 31)) nx ls st h
  | .ishr => xii (fun x y => x >>> (y &&& 31)) nx ls st h
  | .iushr => xii (fun x y => (x.toUInt32 >>> (y.toUInt32 &&& Int32.toUInt32 31)).toInt32) nx ls st h
  | .i2l => xi (fun x => .long x.toInt64) nx ls st h
  | .i2b => xi (fun x => .int x.toInt8.toInt32) nx ls st h
  | .i2c => xi (fun x => .int (x.toUInt32 % 65536).toInt32) nx ls st h
  | .i2s => xi (fun x => .int x.toInt16.toInt32) nx ls st h
  | .i2f => xi (fun x => .float (FP.i2f x)) nx ls st h
  | .ladd => xll (fun x y => .long (x + y)) nx ls st h
  | .lsub => xll (fun x y => .long (x - y)) nx ls st h
  | .lmul => xll (fun x y => .long (x * y)) nx ls st h
  | .land => xll (fun x y => .long (x &&& y)) nx ls st h
  | .lor => xll (fun x y => .long (x ||| y)) nx ls st h
  | .lxor => xll (fun x y => .long (x ^^^ y)) nx ls st h
  | .lcmp => xll (fun x y => .int (lg_cmp x y)) nx ls st h
  | .lneg => xl (fun x => .long (-x)) nx ls st h
  | .lshl => xli (fun x y => x <<< (y.toInt64 &&& 63)) nx ls st h
  | .lshr => xli (fun x y => x >>> (y.toInt64 &&& 63)) nx ls st h
  | .lushr => xli (fun x y => (x.toUInt64 >>> (y.toInt64.toUInt64 &&& Int64.toUInt64 63)).toInt64) nx ls st h
  | .l2i => xl (fun x => .int x.toInt32) nx ls st h
  | .l2f => xl (fun x => .float (FP.l2f x)) nx ls st h
  | .fadd => xff FP.fadd nx ls st h
  | .fsub => xff FP.fsub nx ls st h
  | .fmul => xff FP.fmul nx ls st h
  | .fdiv => xff FP.fdiv nx ls st h
  | .fneg => xf (fun x => .float (FP.fneg x)) nx ls st h
  | .f2i => xf (fun x => .int (FP.f2i x)) nx ls st h
  | .fcmp op => xfc op nx ls st h
  | .dup => xdup nx ls st h
  | .dup_x1 => xdx1 nx ls st h
  | .dup_x2 => xdx2 nx ls st h
  | .dup2 => xd2 nx ls st h
  | .dup2_x1 => xd2x1 nx ls st h
  | .pop => xpo nx ls st h
  | .ifCond .eq _ => xb1 (fun x => x = 0) nx tg ls st h
  | .ifCond .ne _ => xb1 (fun x => ¬ x = 0) nx tg ls st h
  | .ifCond .lt _ => xb1 (fun x => x < 0) nx tg ls st h
  | .ifCond .ge _ => xb1 (fun x => 0 ≤ x) nx tg ls st h
  | .ifCond .gt _ => xb1 (fun x => 0 < x) nx tg ls st h
  | .ifCond .le _ => xb1 (fun x => x ≤ 0) nx tg ls st h
  | .if_icmp .eq _ => xb2 (fun x y => x = y) nx tg ls st h
  | .if_icmp .ne _ => xb2 (fun x y => ¬ x = y) nx tg ls st h
  | .if_icmp .lt _ => xb2 (fun x y => x < y) nx tg ls st h
  | .if_icmp .ge _ => xb2 (fun x y => y ≤ x) nx tg ls st h
  | .if_icmp .gt _ => xb2 (fun x y => y < x) nx tg ls st h
  | .if_icmp .le _ => xb2 (fun x y => x ≤ y) nx tg ls st h
  | .ifnull _ => (match tg with
    | [t] => xnul t nx ls st h
    | _ => xno (nx, ls, st, h))
  | .ifnonnull _ => (match tg with
    | [t] => xnul nx t ls st h
    | _ => xno (nx, ls, st, h))
  | .goto _ => (match tg with
    | [t] => .inl (t, ls, st, h)
    | _ => xno (nx, ls, st, h))
  | .tableswitch _ lo _ _ => (match tg with
    | t :: ts => xswt lo nx t ts ls st h
    | _ => xno (nx, ls, st, h))
  | .getfield _ => xgf E nx tg ls st h
  | .putfield _ => xpf E nx tg ls st h
  | .iaload => xaldI nx ls st h
  | .baload => xaldB nx ls st h
  | .laload => xaldL nx ls st h
  | .faload => xaldF nx ls st h
  | .aaload => xaldA nx ls st h
  | .iastore => xastI nx ls st h
  | .bastore => xastB nx ls st h
  | .lastore => xastL nx ls st h
  | .fastore => xastF nx ls st h
  | .arraylength => xaln nx ls st h
  | .new _ => xnew E nx tg ls st h
  | .newarray a => xnar (xty a) nx ls st h
  | .multianewarray _ _ => xmul nx ls st h
  | .invokestatic _ => xivs E nx tg ls st h
  | .invokevirtual _ => xivv E nx tg ls st h
  | .invokespecial _ => xivi E nx tg ls st h
  | .ireturn => xrei M st h
  | .lreturn => xrel M st h
  | .freturn => xref M st h
  | .areturn => xrea M st h
  | .return_ => xrev M st h
  | _ => xno (nx, ls, st, h)
def xstep (E : xE) (M : xM) (f : xF) : xO := match M.2.2.2.2.2 f.1 with
  | none => xno f
  | some (i, nx, tg, v) => xins E M i nx tg v f.2.1 f.2.2.1 f.2.2.2
def xdl (rn : xF → Prop) : List (Prop × xF) → xF → Prop
  | [], f => rn f
  | (c, g) :: t, f => (c → rn g) ∧ (¬ c → xdl rn t f)
/-- what must hold ahead of an instruction: rc for a called method, rn for the next instruction -/
def xwo (E : xE) (rc : Nat → xM → xF → xP → Prop) (rn : xF → xP → Prop) (d : Nat) (Q : xP) (o : xO) : Prop := match o with
  | .inl g => rn g Q
  | .inr (.inl (C, g)) => C ∧ rn g Q
  | .inr (.inr (.inl (cs, g))) => xdl (fun g => rn g Q) cs g
  | .inr (.inr (.inr (.inl (y, av, pc, ls, st, h)))) => (match d with
    | 0 => False
    | d + 1 => rc d (E.1 y) (0, xent (E.1 y) av, [], h) (fun v h' => rn (pc, ls, v.toList ++ st, h') Q))
  | .inr (.inr (.inr (.inr (C, v, h)))) => C ∧ Q v h
def xwp (E : xE) (rc : Nat → xM → xF → xP → Prop) (rn : xF → xP → Prop) (d : Nat) (M : xM) (f : xF) (Q : xP) : Prop := xwo E rc rn d Q (xstep E M f)
def xr (E : xE) : Nat → Nat → xM → xF → xP → Prop
  | 0, _, _, _, _ => False
  | n + 1, d, M, f, Q => xwp E (xr E n) (xr E n d M) d M f Q
def XC (E : xE) (d : Nat) (M : xM) (f : xF) (Q : xP) : Prop := ∃ n, xr E n d M f Q
/-- a method, called with these values -/
def XM (E : xE) (d : Nat) (y : Nat) (av : List Value) (h : xH) (Q : xP) : Prop := XC E d (E.1 y) (0, xent (E.1 y) av, [], h) Q
def xin (n : Nat) : List Nat → Bool
  | [] => false
  | a :: t => bif Nat.beq n a then true else xin n t
/-- from here to the next cut -/
def xs (E : xE) (cuts : List Nat) : Nat → Nat → xM → xF → xP → Prop
  | 0, d, M, f, Q => XC E d M f Q
  | n + 1, d, M, f, Q => xwp E (XC E) (fun f' Q' => bif xin f'.1 cuts then XC E d M f' Q' else xs E cuts n d M f' Q') d M f Q
/-! laws -/
theorem xdl_mono {r1 r2 : xF → Prop} (h : ∀ f, r1 f → r2 f) : ∀ (cs : List (Prop × xF)) (g : xF), xdl r1 cs g → xdl r2 cs g
  | [], g, k => h g k
  | (_, _) :: t, g, k => ⟨fun c => h _ (k.1 c), fun c => xdl_mono h t g (k.2 c)⟩
theorem xwp_mono {E : xE} {rc rc' : Nat → xM → xF → xP → Prop} {rn rn' : xF → xP → Prop} {d : Nat} {M : xM} {f : xF} {Q Q' : xP}
    (hc : ∀ d M f (P P' : xP), (∀ v h, P v h → P' v h) → rc d M f P → rc' d M f P') (hn : ∀ f, rn f Q → rn' f Q') (hQ : ∀ v h, Q v h → Q' v h) (k : xwp E rc rn d M f Q) : xwp E rc' rn' d M f Q' := by
  unfold xwp xwo at k ⊢
  split at k
  · exact hn _ k
  · exact ⟨k.1, hn _ k.2⟩
  · exact xdl_mono (fun g => hn g) _ _ k
  · split at k
    · exact k.elim
    · exact hc _ _ _ _ _ (fun v h => hn _) k
  · exact ⟨k.1, hQ _ _ k.2⟩
theorem xr_Q {E : xE} : ∀ (n d : Nat) (M : xM) (f : xF) (Q Q' : xP), (∀ v h, Q v h → Q' v h) → xr E n d M f Q → xr E n d M f Q'
  | 0, _, _, _, _, _, _, k => k
  | n + 1, _, _, _, _, _, hQ, k => xwp_mono (fun d M f P P' h => xr_Q n d M f P P' h) (fun f => xr_Q n _ _ f _ _ hQ) hQ k
theorem xr_S {E : xE} : ∀ (n d : Nat) (M : xM) (f : xF) (Q : xP), xr E n d M f Q → xr E (n + 1) d M f Q
  | 0, _, _, _, _, k => k.elim
  | n + 1, d, M, f, Q, k => by
    refine xwp_mono (rc := xr E n) (rn := xr E n d M) (fun d M f P P' h k => xr_Q (n + 1) d M f P P' h (xr_S n d M f P k)) (fun f => xr_S n d M f Q) (fun _ _ h => h) k
theorem xr_le {E : xE} {n m d : Nat} {M : xM} {f : xF} {Q : xP} (hnm : n ≤ m) (k : xr E n d M f Q) : xr E m d M f Q := by
  induction hnm with
  | refl => exact k
  | step _ ih => exact xr_S _ _ _ _ _ ih
theorem XC.mono {E : xE} {d : Nat} {M : xM} {f : xF} {Q Q' : xP} (h : ∀ v h, Q v h → Q' v h) (k : XC E d M f Q) : XC E d M f Q' := by
  obtain ⟨n, k⟩ := k
  exact ⟨n, xr_Q n _ _ _ _ _ h k⟩
theorem xdl_det {rn : xF → xP → Prop} {Q : xP} (H : ∀ f, rn f Q → ∃ v h, Q v h ∧ rn f (fun v' h' => v' = v ∧ h' = h)) : ∀ (cs : List (Prop × xF)) (g : xF), xdl (fun g => rn g Q) cs g → ∃ v h, Q v h ∧ xdl (fun g => rn g (fun v' h' => v' = v ∧ h' = h)) cs g
  | [], g, k => H g k
  | (c, g1) :: t, g, k => by
    by_cases hc : c
    · obtain ⟨v, h, q, k2⟩ := H g1 (k.1 hc)
      exact ⟨v, h, q, fun _ => k2, fun z => absurd hc z⟩
    · obtain ⟨v, h, q, k2⟩ := xdl_det H t g (k.2 hc)
      exact ⟨v, h, q, fun z => absurd z hc, fun _ => k2⟩
theorem xdl_ex {E : xE} {d : Nat} {M : xM} {Q : xP} : ∀ (cs : List (Prop × xF)) (g : xF), xdl (fun g => XC E d M g Q) cs g → ∃ n, xdl (fun g => xr E n d M g Q) cs g
  | [], g, k => k
  | (c, g1) :: t, g, k => by
    by_cases hc : c
    · obtain ⟨n, k⟩ := k.1 hc
      exact ⟨n, fun _ => k, fun z => absurd hc z⟩
    · obtain ⟨n, k⟩ := xdl_ex t g (k.2 hc)
      exact ⟨n, fun z => absurd z hc, fun _ => k⟩
/-- there is one end -/
theorem xr_det {E : xE} : ∀ (n d : Nat) (M : xM) (f : xF) (Q : xP), xr E n d M f Q → ∃ v h, Q v h ∧ xr E n d M f (fun v' h' => v' = v ∧ h' = h)
  | 0, _, _, _, _, k => k.elim
  | n + 1, d, M, f, Q, k => by
    have k1 : xwp E (xr E n) (xr E n d M) d M f Q := k
    show ∃ v h, Q v h ∧ xwp E (xr E n) (xr E n d M) d M f (fun v' h' => v' = v ∧ h' = h)
    unfold xwp xwo at k1 ⊢
    split at k1
    · exact xr_det n _ _ _ _ k1
    · obtain ⟨c, k1⟩ := k1
      obtain ⟨v, h, q, k2⟩ := xr_det n _ _ _ _ k1
      exact ⟨v, h, q, c, k2⟩
    · exact xdl_det (rn := xr E n d M) (fun f k => xr_det n _ _ _ _ k) _ _ k1
    · split at k1
      · exact k1.elim
      · obtain ⟨v, h, q, k2⟩ := xr_det n _ _ _ _ k1
        obtain ⟨v2, h2, q2, k3⟩ := xr_det n _ _ _ _ q
        exact ⟨v2, h2, q2, xr_Q n _ _ _ _ _ (fun v' h' e => by obtain ⟨rfl, rfl⟩ := e; exact k3) k2⟩
    · exact ⟨_, _, k1.2, k1.1, rfl, rfl⟩
theorem XC.step {E : xE} {d : Nat} {M : xM} {f : xF} {Q : xP} (k : xwp E (XC E) (XC E d M) d M f Q) : XC E d M f Q := by
  suffices h : ∃ n, xwp E (xr E n) (xr E n d M) d M f Q by
    obtain ⟨n, h⟩ := h
    exact ⟨n + 1, h⟩
  unfold xwp xwo at k ⊢
  split at k
  · obtain ⟨n, k⟩ := k
    exact ⟨n, k⟩
  · obtain ⟨c, n, k⟩ := k
    exact ⟨n, c, k⟩
  · exact xdl_ex _ _ k
  · split at k
    · exact k.elim
    · obtain ⟨n, k⟩ := k
      obtain ⟨v, h, ⟨m, q⟩, k2⟩ := xr_det n _ _ _ _ k
      refine ⟨max n m, xr_le (Nat.le_max_left n m) (xr_Q n _ _ _ _ _ (fun v' h' e => ?_) k2)⟩
      obtain ⟨rfl, rfl⟩ := e
      exact xr_le (Nat.le_max_right n m) q
  · exact ⟨0, k⟩
theorem XC.block {E : xE} (cuts : List Nat) : ∀ (n : Nat) {d : Nat} {M : xM} {f : xF} {Q : xP}, xs E cuts n d M f Q → XC E d M f Q
  | 0, _, _, _, _, k => k
  | n + 1, d, M, f, Q, k => by
    refine XC.step (xwp_mono (rc := XC E) (rn := fun f' Q' => bif xin f'.1 cuts then XC E d M f' Q' else xs E cuts n d M f' Q') (fun d M f P P' h k => k.mono h) (fun f' k2 => ?_) (fun _ _ h => h) k)
    cases hx : xin f'.1 cuts with
    | true => rw [hx] at k2; exact k2
    | false => rw [hx] at k2; exact XC.block cuts n k2
theorem xr_d {E : xE} : ∀ (n d : Nat) (M : xM) (f : xF) (Q : xP), xr E n d M f Q → xr E n (d + 1) M f Q
  | 0, _, _, _, _, k => k
  | n + 1, d, M, f, Q, k => by
    have k1 : xwp E (xr E n) (xr E n d M) d M f Q := k
    show xwp E (xr E n) (xr E n (d + 1) M) (d + 1) M f Q
    unfold xwp xwo at k1 ⊢
    split at k1
    · exact xr_d n _ _ _ _ k1
    · exact ⟨k1.1, xr_d n _ _ _ _ k1.2⟩
    · exact xdl_mono (fun g => xr_d n _ _ _ _) _ _ k1
    · split at k1
      · exact k1.elim
      · exact xr_Q n _ _ _ _ _ (fun v h => xr_d n _ _ _ _) (xr_d n _ _ _ _ k1)
    · exact k1
theorem XC.le {E : xE} {d d' : Nat} {M : xM} {f : xF} {Q : xP} (hd : d ≤ d') (k : XC E d M f Q) : XC E d' M f Q := by
  induction hd with
  | refl => exact k
  | step _ ih =>
    obtain ⟨n, ih⟩ := ih
    exact ⟨n, xr_d n _ _ _ _ ih⟩
theorem XM.le {E : xE} {d d' : Nat} {y : Nat} {av : List Value} {h : xH} {Q : xP} (hd : d ≤ d') (k : XM E d y av h Q) : XM E d' y av h Q := XC.le hd k
theorem XM.mono {E : xE} {d : Nat} {y : Nat} {av : List Value} {h : xH} {Q Q' : xP} (hq : ∀ v h, Q v h → Q' v h) (k : XM E d y av h Q) : XM E d y av h Q' := XC.mono hq k
theorem XM.det {E : xE} {d : Nat} {y : Nat} {av : List Value} {h : xH} {Q : xP} (k : XM E d y av h Q) : ∃ v h', Q v h' ∧ XM E d y av h (fun v2 h2 => v2 = v ∧ h2 = h') := by
  obtain ⟨n, k⟩ := k
  obtain ⟨v, h2, q, k2⟩ := xr_det n _ _ _ _ k
  exact ⟨v, h2, q, n, k2⟩
