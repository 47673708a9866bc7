/-! say of the reference on paper -/
/-- the network's state: POSITIONS so far, what is remembered (keys, values), LOGITS, what was SAID, how much -/
abbrev pNs : Type := Nat × (Nat → Nat → Nat → UInt32) × (Nat → Nat → Nat → UInt32) × (Nat → UInt32) × (Nat → Nat) × Nat
def nS (S : pNs) : Nat := S.1
def nK (S : pNs) : Nat → Nat → Nat → UInt32 := S.2.1
def nV (S : pNs) : Nat → Nat → Nat → UInt32 := S.2.2.1
def nLo (S : pNs) : Nat → UInt32 := S.2.2.2.1
def nTl (S : pNs) : Nat → Nat := S.2.2.2.2.1
def nY (S : pNs) : Nat := S.2.2.2.2.2
/-- a step -/
def pStp (M : pMd) (S : pNs) (t : Nat) : pNs := (nS S + 1, pKs M (nS S) t (nK S) (nV S), pVs M (nS S) t (nK S) (nV S), pLo M (nS S) t (nK S) (nV S), nTl S, nY S)
/-- a TOKEN is SAID -/
def pTel (S : pNs) (t : Nat) : pNs := (nS S, nK S, nV S, nLo S, fun k => if k = nY S % 32 then t else nTl S k, nY S + 1)
def pSy (M : pMd) : Nat → Nat → pNs → Nat × pNs
  | 0, i, S => (i - 1, S)
  | u + 1, i, S => if pSo (nLo S) (mFa M 6) 0 = mFa M 8 ∨ nS S = 60 then (i, pTel S (pSo (nLo S) (mFa M 6) 0)) else pSy M u (i + 1) (pStp M (pTel S (pSo (nLo S) (mFa M 6) 0)) (pSo (nLo S) (mFa M 6) 0))
/-- the reference's network -/
def rfNs (M : pMd) (S : pNs) (I : Nat → Nat → Int32) (F : Nat → Nat → UInt32) : Prop := I 0 60 = nI (nS S) ∧ nS S ≤ 60 ∧ rfKV (nK S) (nV S) F ∧ (0 < nS S → ∀ i, i < mFa M 6 → F 43 i = nLo S i ∧ fB 172 (F 43 i)) ∧ (∀ k, k < 32 → I 30 k = nI (nTl S k)) ∧ I 0 61 = nI (nY S)
theorem rfKV.ag {K V : Nat → Nat → Nat → UInt32} {F G : Nat → Nat → UInt32} (h : rfKV K V F) (a : G 41 = F 41) (b : G 42 = F 42) : rfKV K V G := by unfold rfKV; rw [a, b]; exact h
section RUJ
variable {M : pMd} {I J : Nat → Nat → Int32} {L : Nat → Nat → Int64} {F G : Nat → Nat → UInt32} {d : Nat} {Q : xP}
/-- what say may change -/
def rfSJ (I J : Nat → Nat → Int32) : Prop := ∀ b k, b ≠ 30 → b ≠ 31 → ¬ (b = 0 ∧ (k = 60 ∨ k = 61)) → J b k = I b k
def rfSG (F G : Nat → Nat → UInt32) : Prop := ∀ b k, ¬ (32 ≤ b ∧ b ≤ 43) → G b k = F b k
theorem rfMd.ag (h : rfMd M I F) (a : rfSJ I J) (g : rfSG F G) : rfMd M J G := by
  have h' : rfMd M I G := h.fl (fun b k hb => g b k (by omega))
  refine ⟨(a 0 38 (by decide) (by decide) (by omega)).trans h'.1, fun j hj => (a 17 j (by decide) (by decide) (by omega)).trans (h'.2.1 j hj), fun i hi => ⟨(a 19 i (by decide) (by decide) (by omega)).trans (h'.2.2.1 i hi).1, fun j hj => (a 18 _ (by decide) (by decide) (by omega)).trans ((h'.2.2.1 i hi).2 j hj)⟩, fun i hi => ⟨(a 20 i (by decide) (by decide) (by omega)).trans (h'.2.2.2.1 i hi).1, (a 21 i (by decide) (by decide) (by omega)).trans (h'.2.2.2.1 i hi).2.1, (a 22 i (by decide) (by decide) (by omega)).trans (h'.2.2.2.1 i hi).2.2⟩, fun q hq => (a 23 q (by decide) (by decide) (by omega)).trans (h'.2.2.2.2.1 q hq), fun i hi => ⟨(a 24 i (by decide) (by decide) (by omega)).trans (h'.2.2.2.2.2.1 i hi).1, (a 25 i (by decide) (by decide) (by omega)).trans (h'.2.2.2.2.2.1 i hi).2.1, (a 26 i (by decide) (by decide) (by omega)).trans (h'.2.2.2.2.2.1 i hi).2.2.1, (h'.2.2.2.2.2.1 i hi).2.2.2⟩, h'.2.2.2.2.2.2⟩
theorem rf_say (hM : rfMd M I F) (hm : mGd M) {S : pNs} (hS : rfNs M S I F) (hy : nY S + 17 < 2 ^ 31) {a : Int32}
    (hrf : (a < 1 ∨ ¬ a ≤ 16) → Q (some (.int (-1))) (sh2, I, L, F))
    (hno : nS S = 0 → Q (some (.int (-3))) (sh2, I, L, F))
    (hok : 0 < nS S → ∀ n, 1 ≤ n → n ≤ 16 → a = nI n → ∀ J G, rfSJ I J → rfSG F G → rfNs M (pSy M n 1 S).2 J G → Q (some (.int (nI (pSy M n 1 S).1))) (sh2, J, L, G)) : XM xE0 (d + 5) 74 [.ref 0, .int a] (sh2, I, L, F) Q := by
  have h6 := hm.1.2.2.2.2.2.2.1
  have h8 := hm.1.2.2.2.2.2.2.2.2.1
  have v8 : vp_in (8 : Int32) 12 := rf_in (j := 8) rfl (by decide) (by decide)
  have v0 : vp_in (0 : Int32) 16 := rf_in (j := 0) rfl (by decide) (by decide)
  have loop : ∀ n, n ≤ 16 → a = nI n → ∀ S0 : pNs, (∀ J G, rfSJ I J → rfSG F G → rfNs M (pSy M n 1 S0).2 J G → Q (some (.int (nI (pSy M n 1 S0).1))) (sh2, J, L, G)) → ∀ (u i : Nat), i + u = n + 1 → 1 ≤ i → ∀ S, pSy M u i S = pSy M n 1 S0 → nY S + u < 2 ^ 31 → 0 < nS S → ∀ J G, rfSJ I J → rfSG F G → rfNs M S J G → ∀ xi, xi = nI i → ∀ y3, XC xE0 (d + 5) xM_74 (31, [some (.ref 0), some (.int a), some (.int xi), y3], [], (sh2, J, L, G)) Q := by
    intro n hn ha S0 fin u
    induction u with
    | zero =>
      intro i hi i1 S hE hyy hs J G DJ DG N xi exi y3
      have c : Q (some (.int a)) (sh2, J, L, G) := by
        have f := fin J G DJ DG
        rw [← hE] at f
        have e : nI (pSy M 0 i S).1 = a := by rw [ha]; show nI (i - 1) = nI n; congr 1; omega
        rw [e] at f
        exact f N
      refine XC.block [31] 60 ?_
      exact And.intro (fun _ => ⟨trivial, c⟩) (fun z => absurd (show a < xi by rw [ha, exi]; exact nI_lt (by omega) (by omega)) z)
    | succ u ih =>
      intro i hi i1 S hE hyy hs J G DJ DG N xi exi y3
      have hlt : ¬ a < xi := by rw [ha, exi]; exact nI_nlt (by omega) (by omega)
      have GM : rfMd M J G := hM.ag DJ DG
      obtain ⟨n60, n60l, nkv, nlo, ntl, n61⟩ := N
      have eso : pSo (G 43) (mFa M 6) = pSo (nLo S) (mFa M 6) := pSo_ext _ (fun k hk => (nlo hs k hk).1)
      have tlt : pSo (nLo S) (mFa M 6) 0 < mFa M 6 := pSo_lt _ 0 (by omega)
      -- after the TOKEN is known
      have c47 : ∀ J1, (∀ b k, b ≠ 31 → J1 b k = J b k) → ∀ t, t = nI (pSo (nLo S) (mFa M 6) 0) → XC xE0 (d + 5) xM_74 (47, [some (.ref 0), some (.int a), some (.int xi), some (.int t)], [], (sh2, J1, L, G)) Q := by
        intro J1 D1 t et
        have e61 : J1 0 61 = nI (nY S) := (D1 0 61 (by decide)).trans n61
        have er : J1 0 61 - J1 0 61 / 32 * 32 = nI (nY S % 32) := by rw [e61]; exact pk_rem (d := 32) (by omega) (by decide) (by decide)
        have lt : nY S % 32 < 32 := Nat.mod_lt _ (by decide)
        have rin : vp_in (J1 0 61 - J1 0 61 / 32 * 32) 32 := rf_in er lt (by decide)
        have tr : (J1 0 61 - J1 0 61 / 32 * 32).toNatClampNeg = nY S % 32 := by rw [er, nI_clamp (by omega)]
        have c70 : ∀ J2, (∀ b k, b ≠ 30 → b ≠ 31 → ¬ (b = 0 ∧ k = 61) → J2 b k = J b k) → (∀ k, k < 32 → J2 30 k = nI (nTl (pTel S (pSo (nLo S) (mFa M 6) 0)) k)) → J2 0 61 = nI (nY S + 1) → XC xE0 (d + 5) xM_74 (70, [some (.ref 0), some (.int a), some (.int xi), some (.int t)], [], (sh2, J2, L, G)) Q := by
          intro J2 D2 t2 y2
          have DJ2 : rfSJ I J2 := fun b k h1 h2 h3 => (D2 b k h1 h2 (fun e => h3 ⟨e.1, Or.inr e.2⟩)).trans (DJ b k h1 h2 h3)
          have GM2 : rfMd M J2 G := hM.ag DJ2 DG
          have e60 : J2 0 60 = nI (nS S) := (D2 0 60 (by decide) (by decide) (by decide)).trans n60
          have e8 : J2 17 8 = nI (mFa M 8) := GM2.2.1 8 (by decide)
          have ce : t = J2 17 8 ↔ pSo (nLo S) (mFa M 6) 0 = mFa M 8 := by rw [et, e8, nI_eq (by omega) (by omega)]
          have c60 : J2 0 60 = 60 ↔ nS S = 60 := by rw [e60, show (60 : Int32) = nI 60 from rfl, nI_eq (by omega) (by decide)]
          have N2 : rfNs M (pTel S (pSo (nLo S) (mFa M 6) 0)) J2 G := ⟨e60, n60l, nkv, nlo, t2, y2⟩
          have stop : (pSo (nLo S) (mFa M 6) 0 = mFa M 8 ∨ nS S = 60) → Q (some (.int xi)) (sh2, J2, L, G) := fun z => by
            have e : pSy M n 1 S0 = (i, pTel S (pSo (nLo S) (mFa M 6) 0)) := hE.symm.trans (if_pos z)
            have f := fin J2 G DJ2 DG
            rw [e] at f
            rw [exi]
            exact f N2
          have go : ¬ (pSo (nLo S) (mFa M 6) 0 = mFa M 8 ∨ nS S = 60) → ∀ G3, (∀ b k, ¬ (32 ≤ b ∧ b ≤ 43) → G3 b k = G b k) → rfKV (pKs M (nS S) (pSo (nLo S) (mFa M 6) 0) (nK S) (nV S)) (pVs M (nS S) (pSo (nLo S) (mFa M 6) 0) (nK S) (nV S)) G3 → (∀ i, i < mFa M 6 → G3 43 i = pLo M (nS S) (pSo (nLo S) (mFa M 6) 0) (nK S) (nV S) i ∧ fB 172 (G3 43 i)) → XC xE0 (d + 5) xM_74 (31, [some (.ref 0), some (.int a), some (.int (xi + 1)), some (.int t)], [], (sh2, x2 J2 0 60 (nI (nS S + 1)), L, G3)) Q := fun z G3 D3 kv3 lo3 => by
            have e : pSy M u (i + 1) (pStp M (pTel S (pSo (nLo S) (mFa M 6) 0)) (pSo (nLo S) (mFa M 6) 0)) = pSy M n 1 S0 := (if_neg z).symm.trans hE
            have s59 : nS S < 60 := Nat.lt_of_le_of_ne n60l (fun w => z (Or.inr w))
            refine ih (i + 1) (by omega) (by omega) _ e (show nY S + 1 + u < 2 ^ 31 by omega) (show 0 < nS S + 1 by omega) _ G3 (fun b k h1 h2 h3 => ?_) (fun b k hb => (D3 b k hb).trans (DG b k hb)) ⟨?_, show nS S + 1 ≤ 60 from s59, kv3, fun _ => lo3, fun k hk => ?_, ?_⟩ _ (by rw [exi, nI_1]) _
            · rw [x2_o _ _ (fun w => h3 ⟨w.1, Or.inl w.2⟩)]; exact DJ2 b k h1 h2 h3
            · exact x2_same _ _ _ _
            · rw [x2_o _ _ (by omega)]; exact t2 k hk
            · rw [x2_o _ _ (by omega)]; exact y2
          have tw : ¬ t < 0 ∧ t ≤ nI (mFa M 6) - 1 := ⟨by rw [et]; exact nI_pos (by omega), by rw [et, nI_p1 (by omega)]; exact nI_le (by omega) (by omega)⟩
          have go' : ¬ (pSo (nLo S) (mFa M 6) 0 = mFa M 8 ∨ nS S = 60) → ∀ t', t' < mFa M 6 → t = nI t' → ∀ G3, (∀ b k, ¬ (32 ≤ b ∧ b ≤ 43) → G3 b k = G b k) → rfKV (pKs M (nS S) t' (nK S) (nV S)) (pVs M (nS S) t' (nK S) (nV S)) G3 → (∀ i, i < mFa M 6 → G3 43 i = pLo M (nS S) t' (nK S) (nV S) i ∧ fB 172 (G3 43 i)) → XC xE0 (d + 5) xM_74 (31, [some (.ref 0), some (.int a), some (.int (xi + 1)), some (.int t)], [], (sh2, x2 J2 0 60 (nI (nS S + 1)), L, G3)) Q := fun z t' ht' et' G3 D3 kv3 lo3 => by
            have e : t' = pSo (nLo S) (mFa M 6) 0 := by
              rw [et, nI_eq (by omega) (by omega)] at et'
              exact et'.symm
            subst e
            exact go z G3 D3 kv3 lo3
          have stp : ¬ (pSo (nLo S) (mFa M 6) 0 = mFa M 8 ∨ nS S = 60) → XC xE0 (d + 5) xM_74 (92, [some (.ref 0), some (.int a), some (.int xi), some (.int t)], [], (sh2, J2, L, G)) Q := fun z => by
            refine XC.block [31] 60 ?_
            refine rf_step GM2 hm n60l e60 nkv (fun w => absurd tw w) (fun w => absurd (Or.inr w) z) (fun s59 t' ht' et' G3 D3 kv3 lo3 => ?_)
            exact go' z t' ht' et' G3 D3 kv3 lo3
          refine XC.block [92] 60 ?_
          refine And.intro v8 ?_
          refine And.intro (fun z => ⟨trivial, stop (Or.inl (ce.mp z))⟩) (fun z => ?_)
          exact And.intro (fun w => stp (fun y => y.elim (fun y => z (ce.mpr y)) (fun y => w (c60.mpr y)))) (fun w => ⟨trivial, stop (Or.inr (c60.mp (Classical.not_not.mp w)))⟩)
        have d1 : ∀ b k, b ≠ 30 → b ≠ 31 → ¬ (b = 0 ∧ k = 61) → x2 (x2 J1 30 (J1 0 61 - J1 0 61 / 32 * 32).toNatClampNeg t) 0 61 (x2 J1 30 (J1 0 61 - J1 0 61 / 32 * 32).toNatClampNeg t 0 61 + 1) b k = J b k := fun b k h1 h2 h3 => by
          rw [x2_o _ _ (by omega), x2_o _ _ (by omega)]; exact D1 b k h2
        have d2 : ∀ k, k < 32 → x2 (x2 J1 30 (J1 0 61 - J1 0 61 / 32 * 32).toNatClampNeg t) 0 61 (x2 J1 30 (J1 0 61 - J1 0 61 / 32 * 32).toNatClampNeg t 0 61 + 1) 30 k = nI (nTl (pTel S (pSo (nLo S) (mFa M 6) 0)) k) := fun k hk => by
          rw [x2_o _ _ (by omega), tr]
          show _ = nI (if k = nY S % 32 then pSo (nLo S) (mFa M 6) 0 else nTl S k)
          split
          · rename_i y
            rw [y, x2_same]; exact et
          · rw [x2_o _ _ (by omega), D1 30 k (by decide)]; exact ntl k hk
        have d3 : x2 (x2 J1 30 (J1 0 61 - J1 0 61 / 32 * 32).toNatClampNeg t) 0 61 (x2 J1 30 (J1 0 61 - J1 0 61 / 32 * 32).toNatClampNeg t 0 61 + 1) 0 61 = nI (nY S + 1) := by rw [x2_same, x2_o _ _ (by omega), e61, nI_1]
        refine XC.block [70] 60 ?_
        refine And.intro (show ¬ (32 : Int32) = 0 by decide) ?_
        refine And.intro rin ?_
        exact c70 _ d1 d2 d3
      have ot : ∀ J1 : Nat → Nat → Int32, J1 31 0 = nI (pSo (G 43) (mFa M 6) 0) → J1 31 0 = nI (pSo (nLo S) (mFa M 6) 0) := fun J1 e => by rw [← eso]; exact e
      have t0 : 0 < mFa M 6 := by omega
      refine XC.block [47] 60 ?_
      refine And.intro (fun z => absurd z hlt) (fun _ => ?_)
      refine rf_sort GM hm (fun J1 D1 o1 => ?_)
      refine And.intro v0 ?_
      exact c47 J1 D1 _ (ot J1 (o1 0 t0))
  have hne : ¬ I 0 38 = 0 := by rw [hM.1]; decide
  have sz : I 0 60 = 0 ↔ nS S = 0 := by rw [hS.1, show (0 : Int32) = nI 0 from rfl, nI_eq (by have := hS.2.1; omega) (by decide)]
  have go : ¬ a < 1 → a ≤ 16 → ¬ I 0 60 = 0 → ∀ xi, xi = nI 1 → XC xE0 (d + 5) xM_74 (31, [some (.ref 0), some (.int a), some (.int xi), none], [], (sh2, I, L, F)) Q := fun z1 z2 z3 xi hxi => by
    obtain ⟨n, hn, ea⟩ := rgx (N := 16) (by decide) (fun w => z1 (Int32.lt_trans w (by decide))) z2
    have n1 : 1 ≤ n := by
      rw [ea, show (1 : Int32) = nI 1 from rfl, nI_ltI (by omega) (by decide)] at z1
      omega
    have s0 : 0 < nS S := Nat.pos_of_ne_zero (fun w => z3 (sz.mpr w))
    exact loop n hn ea S (fun J G DJ DG N => hok s0 n n1 hn ea J G DJ DG N) n 1 (by omega) (Nat.le_refl _) S rfl (by omega) s0 I F (fun _ _ _ _ _ => rfl) (fun _ _ _ => rfl) hS xi hxi none
  refine XC.block [31] 60 ?_
  refine fr_in (fun z1 z2 => ?_) (fun z => ?_)
  · refine And.intro (fun _ => ?_) (fun z => absurd (show ¬ (1 : Int32) = 0 by decide) z)
    refine And.intro (fun z => absurd z hne) (fun _ => ?_)
    exact And.intro (fun z => go z1 z2 z _ rfl) (fun z => ⟨trivial, hno (sz.mp (Classical.not_not.mp z))⟩)
  · exact And.intro (fun w => absurd (show (0 : Int32) = 0 from rfl) w) (fun _ => ⟨trivial, hrf z⟩)
end RUJ
