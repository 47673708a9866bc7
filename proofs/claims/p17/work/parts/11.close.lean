theorem xMet_of {l : Launch} {TB : List Cond} {TF : List xNF} {TM : List xNM} {TS : List xTS} {nS : Nat} {lenS : List Nat} {bytS : List (List Int32)} {E : xE} {ad adV : Nat → Nat} {cA : FieldType → ClassId} {D : va_G} {cl : List vw_C} (hT : xTab TB TF TM TS cl E) {n d y : Nat} {av : List Value} {h : xH} {v0 : Option Value} {h0 : xH}
    (ih : ∀ {p : Program} {e : Env} {s : State} {m : MethodId} {args : Array Value} {below : List Frame} {meth : Method} {c : Code} {mc ms : Nat} {ws0 : va_W}, xFx TB TF TM TS nS lenS bytS ad adV cA D cl (E.1 y) (va_A ws0 s.heap.size) p s m args meth c → h0.1.length ≤ xt0 → ∀ f, xr E n d (E.1 y) f (fun v' h2 => v' = v0 ∧ h2 = h0) → xG p l e (xroom d mc ms) s m args below meth c (MQ below (xQc E ad cA D cl ws0 s.heap.size v0 h0) args s mc ms (va_A ws0 s.heap.size)) E ad cA D cl (va_A ws0 s.heap.size) (xa ad ws0) (E.1 y).2.2.1 mc ms h0.1.length (xsz E h0.1) f)
    (k : xr E n d (E.1 y) (0, xent (E.1 y) av, [], h) (fun v' h2 => v' = v0 ∧ h2 = h0)) : xMet l TB TF TM TS nS lenS bytS E ad adV cA D cl d (E.1 y) av h v0 h0 := by
  intro hfl hfin ws avC sz hW hav
  have hlen := xr_len n _ _ _ _ _ k
  refine Met.ofW (cc := (E.1 y).2.1) (maxL := (E.1 y).2.2.1) (ret := (E.1 y).2.2.2.1) (hT.2.2.2.2 y).1 rfl ?_
  intro p e s m args below meth c s₁ B hml hv
  obtain ⟨rfl, hsz, hP, hK, hD0, hEv⟩ := hv
  have hts := atoms_spec (ws := xws TB (E.1 y)) B.pre
  have hown : s.vm.findClass (E.1 y).1.cls = some m.cls := findClass_of_methodNamed B.named
  subst hsz
  have hD := hD0.self (sz := s.heap.size)
  have hS : va_S (va_A ws s.heap.size) s.heap s.heap [] := va_S.rf
  rw [lg_entry_eq]
  have hF : xFx TB TF TM TS nS lenS bytS ad adV cA D cl (E.1 y) (va_A ws s.heap.size) p s m avC.toArray meth c :=
    ⟨B.exec, B.bytes, hml, B.returns, by rw [← (hT.2.2.2.2 y).2]; exact hown, fun w hw => hts w (List.mem_cons_of_mem _ hw), B.notSynchronized, fun hn => (name_of_methodNamed B.named B.method).1.trans hn, hK, hEv⟩
  have hl1 : h.1.length ≤ h0.1.length := hlen.1
  have hl2 : xsz E h.1 ≤ xsz E h0.1 := hlen.2
  have hent : xent (E.1 y) av = xpad (E.1 y).2.2.1 (xflat av) := rfl
  exact ih (p := p) (e := e) (below := below) (mc := h0.1.length - h.1.length) (ms := xsz E h0.1 - xsz E h.1) hF hfin _ k 0 0 ws s.heap [] _ [] (show 0 + h0.1.length ≤ _ + h.1.length by omega) (show 0 + xsz E h0.1 ≤ _ + xsz E h.1 by omega) ⟨⟨hW, fun _ _ z => z⟩, hP, hD, hS, by rw [hent]; exact xls_entry hav hfl, rfl⟩
/-! the walk closed -/
theorem xstepG {l : Launch} {TB : List Cond} {TF : List xNF} {TM : List xNM} {TS : List xTS} {nS : Nat} {lenS : List Nat} {bytS : List (List Int32)} {E : xE} {ad adV : Nat → Nat} {cA : FieldType → ClassId} {D : va_G} {cl : List vw_C} (hT : xTab TB TF TM TS cl E) (hX : xTxE E nS lenS bytS) : ∀ (n : Nat) {p : Program} {e : Env} {s : State} {m : MethodId} {args : Array Value} {below : List Frame} {meth : Method} {c : Code} {d y mc ms : Nat} {v0 : Option Value} {h0 : xH} {ws0 : va_W}, xFx TB TF TM TS nS lenS bytS ad adV cA D cl (E.1 y) (va_A ws0 s.heap.size) p s m args meth c → h0.1.length ≤ xt0 → ∀ f, xr E n d (E.1 y) f (fun v' h2 => v' = v0 ∧ h2 = h0) → xG p l e (xroom d mc ms) s m args below meth c (MQ below (xQc E ad cA D cl ws0 s.heap.size v0 h0) args s mc ms (va_A ws0 s.heap.size)) E ad cA D cl (va_A ws0 s.heap.size) (xa ad ws0) (E.1 y).2.2.1 mc ms h0.1.length (xsz E h0.1) f := by
  intro n
  induction n with
  | zero => intro p e s m args below meth c d y mc ms v0 h0 ws0 _ _ f k; exact k.elim
  | succ n ih =>
    intro p e s m args below meth c d y mc ms v0 h0 ws0 hF hfin f k
    replace k : xwo E (xr E n) (xr E n d (E.1 y)) d (fun v' h2 => v' = v0 ∧ h2 = h0) (xstep E (E.1 y) f) := k
    obtain ⟨pc, ls, st, h⟩ := f
    unfold xstep at k
    split at k
    · exact k.1.elim
    · rename_i i nx tg v hi
      refine xone hT hX hF hfin (fun d M f v h' k => xr_len n d M f v h' k) (fun d M f P k => xr_det n d M f P k) (fun d9 y9 av h9 v9 h' k9 => ?_) (fun f k => xr_len n d (E.1 y) f v0 h0 k) (fun f k => ih hF hfin f k) i pc nx tg v ls st h (hT.2.2.2.1 y pc i nx tg v hi) k
      exact xMet_of hT (fun hF hfin f k => ih hF hfin f k) k9
