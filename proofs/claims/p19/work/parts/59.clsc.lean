/-! the class on paper: VALUES, INFOS -/
section CLC
variable {X : List (Option Nat)} {T : List xS} {f : Nat → Nat} {n : Nat} {I J : Nat → Nat → Int32} {L : Nat → Nat → Int64} {F : Nat → Nat → UInt32} {d : Nat} {Q : xP}
/-- what a reader of VALUES of a TYPE does -/
def clV (X : List (Option Nat)) (T : List xS) (f : Nat → Nat) (n : Nat) (L : Nat → Nat → Int64) (F : Nat → Nat → UInt32) (D dep : Nat) (t : Nat) (g : Nat → pE Nat) : Prop := ∀ (p : Nat) (I : Nat → Nat → Int32) (Q : xP) (x dd : Int32), x = nI t → dd = nI dep → p ≤ n → clS f n p I → (∀ q, g p = .inr q → ∀ I', clA I I' → clS f n q I' → Q (some (.int 1)) (shG X T, I', L, F)) → (∀ c w, g p = .inl (c, w) → ∀ I', clA I I' → clX f n c w I' → Q (some (.int 0)) (shG X T, I', L, F)) → XM xE0 D 146 [.ref 5, .int x, .int dd] (shG X T, I, L, F) Q
theorem cl_va105 {dep t m D : Nat} (ht : t < 4) (hm : m ≤ 24) {g : Nat → pE Nat} (hg : clV X T f n L F D (dep + 1) t g) (hgl : ∀ p q, g p = .inr q → p ≤ q ∧ q ≤ n) {x1 x2' x3 x4 x5 : Int32} (h2 : x2' = nI dep) (h4 : x4 = nI t) (h5 : x5 = nI m) :
    ∀ (u j : Nat), j + u = m → ∀ (p : Nat) (J : Nat → Nat → Int32), p ≤ n → clA I J → clS f n p J →
    (∀ q, sRep g u p = .inr q → ∀ I', clA I I' → clS f n q I' → Q (some (.int 1)) (shG X T, I', L, F)) →
    (∀ c w, sRep g u p = .inl (c, w) → ∀ I', clA I I' → clX f n c w I' → Q (some (.int 0)) (shG X T, I', L, F)) →
    ∀ x6, x6 = nI j → XC xE0 (D + 1) xM_146 (105, [some (.ref 5), some (.int x1), some (.int x2'), some (.int x3), some (.int x4), some (.int x5), some (.int x6)], [], (shG X T, J, L, F)) Q := by
  intro u
  induction u with
  | zero =>
    intro j hj p J hp a S ok bd x6 h6
    refine XC.block [105] 60 ?_
    refine And.intro (fun _ => ?_) (fun z => absurd (show x5 ≤ x6 by rw [h5, h6]; exact nI_le (by omega) (by omega)) z)
    exact And.intro (fun z => absurd (show x5 < 0 from z) (by rw [h5]; exact nI_pos (by omega))) (fun _ => ⟨(show (1 : Int32) &&& 1 = 1 by decide), ok p rfl J a S⟩)
  | succ u ih =>
    intro j hj p J hp a S ok bd x6 h6
    refine XC.block [105] 60 ?_
    refine And.intro (fun z => absurd (show x5 ≤ x6 from z) (by rw [h5, h6]; exact nI_ge (by omega) (by omega))) (fun _ => ?_)
    refine hg p J _ _ _ h4 (show x2' + 1 = nI (dep + 1) by rw [h2, nI_1]) hp S (fun q e I1 a1 S1 => ?_) (fun c w e I1 a1 X1 => ?_)
    · refine And.intro (fun _ => ?_) (fun z => absurd (show ¬ (1 : Int32) = 0 by decide) z)
      refine ih (j + 1) (by omega) q I1 (hgl p q e).2 (a.tr a1) S1 (fun q2 e2 => ok q2 ?_) (fun c w e2 => bd c w ?_) _ (show x6 + 1 = nI (j + 1) by rw [h6, nI_1])
      · unfold sRep; rw [e]; exact e2
      · unfold sRep; rw [e]; exact e2
    · refine And.intro (fun z => absurd (show (0 : Int32) = 0 from rfl) z) (fun _ => ⟨(show (0 : Int32) &&& 1 = 0 by decide), bd c w ?_ I1 (a.tr a1) X1⟩)
      unfold sRep; rw [e]
theorem cl_valA {dep D : Nat} (hdep : dep ≤ 3) {deep : Bool} (hd : deep = true ↔ dep = 3) {g : Nat → Nat → pE Nat} (hG : rfG f n) (hg : ∀ t, t < 4 → (deep = true → t < 3) → clV X T f n L F (D + 3) (dep + 1) t (g t)) (hgl : ∀ t p q, g t p = .inr q → p ≤ q ∧ q ≤ n) : clV X T f n L F (D + 4) dep 3 (fun p => sArr f n deep g p) := by
  intro p I Q x dd hx hdd hp S ok bd
  have h11 := S.2.1
  have c92 : ∀ (t q : Nat) (J : Nat → Nat → Int32) (x3 x4 : Int32), sSml f n 0 3 5 p = .inr (t, q) → ¬ (deep = true ∧ t = 3) → q ≤ n → t < 4 → clA I J → clS f n q J → x4 = nI t → XC xE0 (D + 4) xM_146 (92, [some (.ref 5), some (.int x), some (.int dd), some (.int x3), some (.int x4), none, none], [], (shG X T, J, L, F)) Q := by
    intro t q J x3 x4 e1 hnd hq ht a1 S1 h4
    have key : sArr f n deep g p = (match sSml f n 0 24 4 q with
      | .inl e => .inl e
      | .inr (m, r) => sRep (g t) m r) := by
      unfold sArr
      rw [e1]
      show (if _ then _ else _) = _
      rw [if_neg hnd]
      all_goals rfl
    refine XC.block [105] 60 ?_
    refine cl_readSmall (lo := 0) (hi := 24) (c := 4) hG hq S1 (by decide) (by decide) rfl rfl rfl (fun m r e2 I2 s a2 S2 hs => ?_) (fun c w e2 I2 a2 X2 => ?_)
    · have l2 := sSml_le e2
      have hr : r = q + 1 := congrArg Prod.snd l2.1
      have hm : m = f q := congrArg Prod.fst l2.1
      refine cl_va105 (I := I) (D := D + 3) ht (by omega) (hg t ht (fun z => Classical.byContradiction (fun w => hnd ⟨z, by omega⟩))) (hgl t) hdd h4 hs m 0 (by omega) r I2 (by omega) (a1.tr a2) S2 (fun q2 e3 => ok q2 ?_) (fun c w e3 => bd c w ?_) _ rfl
      · show sArr f n deep g p = _
        rw [key, e2]; exact e3
      · show sArr f n deep g p = _
        rw [key, e2]; exact e3
    · refine XC.block [] 60 ?_
      refine And.intro (fun _ => ?_) (fun z => absurd (show (-1 : Int32) ≤ 0 by decide) z)
      refine And.intro (fun _ => ⟨(show (0 : Int32) &&& 1 = 0 by decide), bd c w ?_ I2 (a1.tr a2) X2⟩) (fun z => absurd (show (-1 : Int32) < 0 by decide) z)
      show sArr f n deep g p = _
      rw [key, e2]
  refine XC.block [52] 60 ?_
  refine And.intro (fun _ => ?_) (fun z => absurd (show ¬ x = 0 by rw [hx]; decide) z)
  refine And.intro (fun _ => ?_) (fun z => absurd (show ¬ x = 1 by rw [hx]; decide) z)
  refine And.intro (fun _ => ?_) (fun z => absurd (show ¬ x = 2 by rw [hx]; decide) z)
  refine XC.block [92] 60 ?_
  refine cl_readSmall (lo := 0) (hi := 3) (c := 5) hG hp S (by decide) (by decide) rfl rfl rfl (fun t q e1 I1 s a1 S1 hs => ?_) (fun c w e1 I1 a1 X1 => ?_)
  · have l1 := sSml_le e1
    have hq : q = p + 1 := congrArg Prod.snd l1.1
    have ht : t = f p := congrArg Prod.fst l1.1
    refine And.intro (fun _ => ?_) (fun z => absurd (show 0 ≤ s by rw [hs]; exact nI_pos' (by omega)) z)
    refine And.intro (fun z => ?_) (fun z => ?_)
    · have z : ¬ s = 3 := z
      rw [hs, show (3 : Int32) = nI 3 from rfl, nI_eq (by omega) (by omega)] at z
      exact c92 t q I1 _ s e1 (fun w => z w.2) (by omega) (by omega) a1 S1 hs
    · have z : ¬ ¬ s = 3 := z
      have z := Classical.not_not.mp z
      rw [hs, show (3 : Int32) = nI 3 from rfl, nI_eq (by omega) (by omega)] at z
      refine And.intro (fun w => ?_) (fun w => ?_)
      · have w : dd < 3 := w
        rw [hdd, show (3 : Int32) = nI 3 from rfl, nI_ltI (by omega) (by omega)] at w
        exact c92 t q I1 _ s e1 (fun y => by have := hd.mp y.1; omega) (by omega) (by omega) a1 S1 hs
      · have w : ¬ dd < 3 := w
        rw [hdd, show (3 : Int32) = nI 3 from rfl, nI_ltI (by omega) (by omega)] at w
        refine cl_fail ⟨(show (0 : Int32) &&& 1 = 0 by decide), bd 6 p ?_ _ ((a1.put (by decide) (by decide)).put (by decide) (by decide)) (clX.put S1.1 clA.rf rfl h11)⟩
        show sArr f n deep g p = _
        unfold sArr
        rw [e1]
        show (if _ then _ else _) = _
        rw [if_pos ⟨hd.mpr (by omega), z⟩]
  · refine And.intro (fun z => absurd (show (0 : Int32) ≤ -1 from z) (by decide)) (fun _ => ⟨(show (0 : Int32) &&& 1 = 0 by decide), bd c w ?_ I1 a1 X1⟩)
    show sArr f n deep g p = _
    unfold sArr
    rw [e1]
theorem cl_vP (hG : rfG f n) {dep t : Nat} (ht : t < 3) : clV X T f n L F (d + 3) dep t (sPln f n t) := fun p I Q x dd hx _ hp S ok bd => cl_valP hx ht hG hp S ok bd
theorem cl_v3 (hG : rfG f n) {t : Nat} (ht : t < 4) : clV X T f n L F (d + 4) 3 t (fun q => if t < 3 then sPln f n t q else sA3 f n q) := by
  rcases Nat.lt_or_ge t 3 with h | h
  · rw [show (fun q => if t < 3 then sPln f n t q else sA3 f n q) = sPln f n t from funext (fun q => if_pos h)]
    exact cl_vP (d := d + 1) hG h
  · have : t = 3 := by omega
    subst this
    rw [show (fun q => if 3 < 3 then sPln f n 3 q else sA3 f n q) = sA3 f n from funext (fun q => if_neg (by omega))]
    exact cl_valA (D := d) (by decide) (deep := true) ⟨fun _ => rfl, fun _ => rfl⟩ hG (fun t ht h => cl_vP hG (h rfl)) (fun t p q h => by have := sPln_le h; omega)
theorem cl_v2 (hG : rfG f n) {t : Nat} (ht : t < 4) : clV X T f n L F (d + 5) 2 t (fun q => if t < 3 then sPln f n t q else sA2 f n q) := by
  rcases Nat.lt_or_ge t 3 with h | h
  · rw [show (fun q => if t < 3 then sPln f n t q else sA2 f n q) = sPln f n t from funext (fun q => if_pos h)]
    exact cl_vP (d := d + 2) hG h
  · have : t = 3 := by omega
    subst this
    rw [show (fun q => if 3 < 3 then sPln f n 3 q else sA2 f n q) = sA2 f n from funext (fun q => if_neg (by omega))]
    exact cl_valA (D := d + 1) (by decide) (deep := false) ⟨fun z => (by cases z), fun z => (by omega)⟩ hG (fun t ht _ => cl_v3 hG ht) (fun t p q h => by
      split at h
      · have := sPln_le h; omega
      · have := sA3_le h; omega)
theorem cl_v1 (hG : rfG f n) {t : Nat} (ht : t < 4) : clV X T f n L F (d + 6) 1 t (sVal f n t) := by
  rcases Nat.lt_or_ge t 3 with h | h
  · rw [show sVal f n t = sPln f n t from funext (fun q => if_pos h)]
    exact cl_vP (d := d + 3) hG h
  · have : t = 3 := by omega
    subst this
    rw [show sVal f n 3 = sA1 f n from funext (fun q => if_neg (by omega))]
    exact cl_valA (D := d + 2) (by decide) (deep := false) ⟨fun z => (by cases z), fun z => (by omega)⟩ hG (fun t ht _ => cl_v2 hG ht) (fun t p q h => by
      split at h
      · have := sPln_le h; omega
      · have := sA2_le h; omega)
/-- nothing changes but next, fault, faultPlace and what is noted of INFO i -/
def clD (i : Nat) (I I' : Nat → Nat → Int32) : Prop := ∀ b k, (b = 5 → k < 11 ∨ 13 < k) → (9 ≤ b → b ≤ 13 → k ≠ i) → I' b k = I b k
theorem clD.ag {i : Nat} {I J K : Nat → Nat → Int32} (h : clD i I J) (a : clA J K) : clD i I K := fun b k h1 h2 => (a b k h1).trans (h b k h1 h2)
theorem clD.st {i : Nat} {I J : Nat → Nat → Int32} (h : clD i I J) {b k : Nat} {x : Int32} (hb : 9 ≤ b) (hb2 : b ≤ 13) (hk : k = i) : clD i I (x2 J b k x) := fun b2 k2 h1 h2 => (x2_o _ _ (fun e => h2 (by omega) (by omega) (by omega))).trans (h b2 k2 h1 h2)
abbrev clBd (X : List (Option Nat)) (T : List xS) (f : Nat → Nat) (n i : Nat) (I : Nat → Nat → Int32) (L : Nat → Nat → Int64) (F : Nat → Nat → UInt32) (Q : xP) (c w : Nat) : Prop := ∀ I', clD i I I' → clX f n c w I' → Q (some (.int 0)) (shG X T, I', L, F)
theorem cl_sd130 (hG : rfG f n) {i h : Nat} {ii : Int32} {y2 y3 : Option Value} (hi : ii = nI i) (hi2 : i < 24) (C : clD i I J) (S : clS f n h J) (hh : h ≤ n)
    (hok : h + 2 ≤ n → ∀ I', clD i I I' → clS f n (h + 2) I' → I' 9 i = J 9 i → I' 10 i = J 10 i → I' 11 i = J 11 i → I' 12 i = J 12 i → I' 13 i = nI (sNum f h 2) → Q (some (.int 1)) (shG X T, I', L, F))
    (hbad : ¬ h + 2 ≤ n → clBd X T f n i I L F Q 1 h) : XC xE0 (d + 3) xM_148 (130, [some (.ref 5), some (.int ii), y2, y3], [], (shG X T, J, L, F)) Q := by
  have ek : ii.toNatClampNeg = i := by rw [hi, nI_clamp (by omega)]
  have hN := sNum_lt hG.1 2 h
  refine XC.block [142] 60 ?_
  refine cl_readNumber hG (k := 2) (by decide) hh S rfl (fun c I1 v a1 S1 hv => ?_) (fun c I1 a1 X1 => ?_)
  · refine And.intro (rf_in hi (by omega) (by decide)) ?_
    have go : ∀ w, w = nI (sNum f h 2) → XC xE0 (d + 3) xM_148 (142, [some (.ref 5), some (.int ii), y2, y3], [], (shG X T, x2 I1 13 ii.toNatClampNeg w, L, F)) Q := by
      intro w hw
      refine XC.block [] 60 ?_
      refine And.intro (rf_in hi (by omega) (by decide)) ?_
      refine And.intro (fun z => ?_) (fun _ => ⟨(show (1 : Int32) &&& 1 = 1 by decide), hok c _ ((C.ag a1).st (by decide) (by decide) ek) (S1.st (by decide)) ?_ ?_ ?_ ?_ ?_⟩)
      · have z : x2 I1 13 ii.toNatClampNeg w 13 ii.toNatClampNeg < 0 := z
        rw [x2_same, hw] at z
        exact absurd z (nI_pos (by omega))
      · exact a1 9 i (by omega)
      · exact a1 10 i (by omega)
      · exact a1 11 i (by omega)
      · exact a1 12 i (by omega)
      · rw [ek, x2_same]; exact hw
    exact go _ (show v.toInt32 = nI (sNum f h 2) by rw [hv, lN_i])
  · refine And.intro (rf_in hi (by omega) (by decide)) ?_
    have go : ∀ w, w = (-1 : Int32) → XC xE0 (d + 3) xM_148 (142, [some (.ref 5), some (.int ii), y2, y3], [], (shG X T, x2 I1 13 ii.toNatClampNeg w, L, F)) Q := by
      intro w hw
      refine XC.block [] 60 ?_
      refine And.intro (rf_in hi (by omega) (by decide)) ?_
      refine And.intro (fun _ => ⟨(show (0 : Int32) &&& 1 = 0 by decide), hbad c _ ((C.ag a1).st (by decide) (by decide) ek) (X1.st (by decide))⟩) (fun z => ?_)
      have z : ¬ x2 I1 13 ii.toNatClampNeg w 13 ii.toNatClampNeg < 0 := z
      rw [x2_same, hw] at z
      exact absurd (by decide) z
    exact go _ (by decide)
theorem cl_sd91 (hG : rfG f n) {i a c k h : Nat} {ii v3 : Int32} {y2 : Option Value} (hi : ii = nI i) (hi2 : i < 24) (h3 : v3 = nI a) (C : clD i I J) (S : clS f n h J) (h10 : J 10 i = nI c) (hc : c < 17) (h12 : J 12 i = nI k) (hk : k < 3)
    (hok : ¬ (0 < k ∧ c % 8 ≠ 0) → XC xE0 (d + 3) xM_148 (130, [some (.ref 5), some (.int ii), y2, some (.int v3)], [], (shG X T, J, L, F)) Q)
    (hbad : 0 < k ∧ c % 8 ≠ 0 → clBd X T f n i I L F Q 4 a) : XC xE0 (d + 3) xM_148 (91, [some (.ref 5), some (.int ii), y2, some (.int v3)], [], (shG X T, J, L, F)) Q := by
  have ek : ii.toNatClampNeg = i := by rw [hi, nI_clamp (by omega)]
  have e12 : J 12 ii.toNatClampNeg = nI k := by rw [ek]; exact h12
  have e10 : J 10 ii.toNatClampNeg = nI c := by rw [ek]; exact h10
  refine XC.block [130] 60 ?_
  refine And.intro (rf_in hi (by omega) (by decide)) ?_
  refine And.intro (fun _ => ?_) (fun z => absurd (show 0 ≤ J 12 ii.toNatClampNeg by rw [e12]; exact nI_pos' (by omega)) z)
  refine And.intro (rf_in hi (by omega) (by decide)) ?_
  refine And.intro (fun z => hok (fun w => ?_)) (fun z => ?_)
  · have z : J 12 ii.toNatClampNeg = 0 := z
    rw [e12, show (0 : Int32) = nI 0 from rfl, nI_eq (by omega) (by omega)] at z
    omega
  · have z : ¬ J 12 ii.toNatClampNeg = 0 := z
    rw [e12, show (0 : Int32) = nI 0 from rfl, nI_eq (by omega) (by omega)] at z
    refine And.intro (rf_in hi (by omega) (by decide)) ?_
    refine And.intro (show ¬ (8 : Int32) = 0 by decide) ?_
    refine And.intro (fun y => hok (fun w => ?_)) (fun y => ?_)
    · have y : J 10 ii.toNatClampNeg - J 10 ii.toNatClampNeg / 8 * 8 = 0 := y
      rw [e10, rf_rem8 c hc] at y
      exact w.2 y
    · have y : ¬ J 10 ii.toNatClampNeg - J 10 ii.toNatClampNeg / 8 * 8 = 0 := y
      rw [e10, rf_rem8 c hc] at y
      exact cl_fail ⟨(show (0 : Int32) &&& 1 = 0 by decide), hbad ⟨by omega, y⟩ _ (C.ag ((clA.rf.put (by decide) (by decide)).put (by decide) (by decide))) (clX.put S.1 clA.rf rfl h3)⟩
theorem cl_sd78 (hG : rfG f n) {i g : Nat} {ii : Int32} {y2 y3 : Option Value} (hi : ii = nI i) (hi2 : i < 24) (C : clD i I J) (S : clS f n g J) (hg : g ≤ n)
    (hok : ∀ k q, sSml f n 0 2 5 g = .inr (k, q) → ∀ J', clD i I J' → clS f n q J' → J' 9 i = J 9 i → J' 10 i = J 10 i → J' 11 i = J 11 i → J' 12 i = nI k → XC xE0 (d + 3) xM_148 (91, [some (.ref 5), some (.int ii), y2, y3], [], (shG X T, J', L, F)) Q)
    (hbad : ∀ c w, sSml f n 0 2 5 g = .inl (c, w) → clBd X T f n i I L F Q c w) : XC xE0 (d + 3) xM_148 (78, [some (.ref 5), some (.int ii), y2, y3], [], (shG X T, J, L, F)) Q := by
  have ek : ii.toNatClampNeg = i := by rw [hi, nI_clamp (by omega)]
  refine XC.block [91] 60 ?_
  refine cl_readSmall (lo := 0) (hi := 2) (c := 5) hG hg S (by decide) (by decide) rfl rfl rfl (fun k q e I1 s a1 S1 hs => ?_) (fun c w e I1 a1 X1 => ?_)
  · refine And.intro (rf_in hi (by omega) (by decide)) (hok k q e _ ((C.ag a1).st (by decide) (by decide) ek) (S1.st (by decide)) ?_ ?_ ?_ ?_)
    · exact a1 9 i (by omega)
    · exact a1 10 i (by omega)
    · exact a1 11 i (by omega)
    · rw [ek, x2_same]; exact hs
  · refine And.intro (rf_in hi (by omega) (by decide)) ?_
    have X2 : clX f n c w (x2 I1 12 ii.toNatClampNeg (-1)) := X1.st (by decide)
    refine XC.block [] 60 ?_
    refine And.intro (rf_in hi (by omega) (by decide)) ?_
    refine And.intro (fun z => ?_) (fun _ => ⟨(show (0 : Int32) &&& 1 = 0 by decide), hbad c w e _ ((C.ag a1).st (by decide) (by decide) ek) X2⟩)
    have z : 0 ≤ x2 I1 12 ii.toNatClampNeg (-1) 12 ii.toNatClampNeg := z
    rw [x2_same] at z
    exact absurd z (by decide)
theorem cl_sd44 (hG : rfG f n) {i b s : Nat} {ii v2 : Int32} {y3 : Option Value} (hi : ii = nI i) (hi2 : i < 24) (h2 : v2 = nI s) (hs3 : s < 3) (C : clD i I J) (S : clS f n b J) (hb : b ≤ n)
    (hok : ∀ r q, (if s = 2 then sSml f n 1 16 4 b else .inr (1, b)) = .inr (r, q) → ∀ J', clD i I J' → clS f n q J' → J' 9 i = J 9 i → J' 10 i = J 10 i → J' 11 i = nI r → XC xE0 (d + 3) xM_148 (78, [some (.ref 5), some (.int ii), some (.int v2), y3], [], (shG X T, J', L, F)) Q)
    (hbad : ∀ c w, (if s = 2 then sSml f n 1 16 4 b else .inr (1, b)) = .inl (c, w) → clBd X T f n i I L F Q c w) : XC xE0 (d + 3) xM_148 (44, [some (.ref 5), some (.int ii), some (.int v2), y3], [], (shG X T, J, L, F)) Q := by
  have ek : ii.toNatClampNeg = i := by rw [hi, nI_clamp (by omega)]
  have c67 : ∀ (r q : Nat) (J' : Nat → Nat → Int32) (w : Int32), (if s = 2 then sSml f n 1 16 4 b else .inr (1, b)) = .inr (r, q) → r < 17 → w = nI r → clA J J' → clS f n q J' → XC xE0 (d + 3) xM_148 (67, [some (.ref 5), some (.int ii), some (.int v2), y3], [], (shG X T, x2 J' 11 ii.toNatClampNeg w, L, F)) Q := by
    intro r q J' w e hr hw a S'
    refine XC.block [78] 60 ?_
    refine And.intro (rf_in hi (by omega) (by decide)) ?_
    refine And.intro (fun _ => hok r q e _ ((C.ag a).st (by decide) (by decide) ek) (S'.st (by decide)) ?_ ?_ ?_) (fun z => ?_)
    · exact a 9 i (by omega)
    · exact a 10 i (by omega)
    · rw [ek, x2_same]; exact hw
    · have z : ¬ 0 ≤ x2 J' 11 ii.toNatClampNeg w 11 ii.toNatClampNeg := z
      rw [x2_same, hw] at z
      exact absurd (nI_pos' (by omega)) z
  refine XC.block [67] 60 ?_
  refine And.intro (fun z => ?_) (fun z => ?_)
  · have z : ¬ v2 = 2 := z
    rw [h2, show (2 : Int32) = nI 2 from rfl, nI_eq (by omega) (by omega)] at z
    refine And.intro (rf_in hi (by omega) (by decide)) (c67 1 b J 1 (if_neg z) (by decide) rfl clA.rf S)
  · have z : ¬ ¬ v2 = 2 := z
    have z := Classical.not_not.mp z
    rw [h2, show (2 : Int32) = nI 2 from rfl, nI_eq (by omega) (by omega)] at z
    refine cl_readSmall (lo := 1) (hi := 16) (c := 4) hG hb S (by decide) (by decide) rfl rfl rfl (fun k q e I1 s1 a1 S1 hs => ?_) (fun c w e I1 a1 X1 => ?_)
    · have l := sSml_le e
      have hk : k = f b := congrArg Prod.fst l.1
      exact And.intro (rf_in hi (by omega) (by decide)) (c67 k q I1 s1 (by rw [if_pos z]; exact e) (by omega) hs a1 S1)
    · refine And.intro (rf_in hi (by omega) (by decide)) ?_
      have X2 : clX f n c w (x2 I1 11 ii.toNatClampNeg (-1)) := X1.st (by decide)
      refine XC.block [] 60 ?_
      refine And.intro (rf_in hi (by omega) (by decide)) ?_
      refine And.intro (fun y => ?_) (fun _ => ⟨(show (0 : Int32) &&& 1 = 0 by decide), hbad c w (by rw [if_pos z]; exact e) _ ((C.ag a1).st (by decide) (by decide) ek) X2⟩)
      have y : 0 ≤ x2 I1 11 ii.toNatClampNeg (-1) 11 ii.toNatClampNeg := y
      rw [x2_same] at y
      exact absurd y (by decide)
theorem cl_sd14 (hG : rfG f n) {i a : Nat} {ii v2 : Int32} {y3 : Option Value} (hi : ii = nI i) (hi2 : i < 24) (C : clD i I J) (S : clS f n a J) (ha : a ≤ n)
    (hok : ∀ c q, sSml f n 1 16 4 a = .inr (c, q) → ∀ J' v3, v3 = nI a → clD i I J' → clS f n q J' → J' 9 i = J 9 i → J' 10 i = nI c → XC xE0 (d + 3) xM_148 (44, [some (.ref 5), some (.int ii), some (.int v2), some (.int v3)], [], (shG X T, J', L, F)) Q)
    (hbad : ∀ c w, sSml f n 1 16 4 a = .inl (c, w) → clBd X T f n i I L F Q c w) : XC xE0 (d + 3) xM_148 (14, [some (.ref 5), some (.int ii), some (.int v2), y3], [], (shG X T, J, L, F)) Q := by
  have ek : ii.toNatClampNeg = i := by rw [hi, nI_clamp (by omega)]
  refine XC.block [33] 60 ?_
  refine cl_readSmall (lo := 1) (hi := 16) (c := 4) hG ha S (by decide) (by decide) rfl rfl rfl (fun k q e I1 s1 a1 S1 hs => ?_) (fun c w e I1 a1 X1 => ?_)
  · have l := sSml_le e
    have hk : k = f a := congrArg Prod.fst l.1
    refine And.intro (rf_in hi (by omega) (by decide)) ?_
    refine XC.block [44] 60 ?_
    refine And.intro (rf_in hi (by omega) (by decide)) ?_
    refine And.intro (fun _ => hok k q e _ _ S.2.1 ((C.ag a1).st (by decide) (by decide) ek) (S1.st (by decide)) ?_ ?_) (fun z => ?_)
    · exact a1 9 i (by omega)
    · rw [ek, x2_same]; exact hs
    · have z : ¬ 0 ≤ x2 I1 10 ii.toNatClampNeg s1 10 ii.toNatClampNeg := z
      rw [x2_same, hs] at z
      exact absurd (nI_pos' (by omega)) z
  · refine And.intro (rf_in hi (by omega) (by decide)) ?_
    have X2 : clX f n c w (x2 I1 10 ii.toNatClampNeg (-1)) := X1.st (by decide)
    refine XC.block [] 60 ?_
    refine And.intro (rf_in hi (by omega) (by decide)) ?_
    refine And.intro (fun y => ?_) (fun _ => ⟨(show (0 : Int32) &&& 1 = 0 by decide), hbad c w e _ ((C.ag a1).st (by decide) (by decide) ek) X2⟩)
    have y : 0 ≤ x2 I1 10 ii.toNatClampNeg (-1) 10 ii.toNatClampNeg := y
    rw [x2_same] at y
    exact absurd y (by decide)
theorem cl_readSides (hG : rfG f n) {i p : Nat} {ii : Int32} (hi : ii = nI i) (hi2 : i < 24) (S : clS f n p I) (hp : p ≤ n)
    (hok : ∀ v q, sInf f n p = .inr (v, q) → ∀ I', clD i I I' → clS f n q I' → I' 9 i = I 9 i → I' 10 i = nI v.1 → I' 11 i = nI v.2.1 → I' 12 i = nI v.2.2.1 → I' 13 i = nI v.2.2.2 → Q (some (.int 1)) (shG X T, I', L, F))
    (hbad : ∀ c w, sInf f n p = .inl (c, w) → clBd X T f n i I L F Q c w) : XM xE0 (d + 3) 148 [.ref 5, .int ii] (shG X T, I, L, F) Q := by
  have C0 : clD i I I := fun _ _ _ _ => rfl
  refine XC.block [14] 60 ?_
  refine cl_readSmall (lo := 1) (hi := 2) (c := 4) hG hp S (by decide) (by decide) rfl rfl rfl (fun s a e1 J1 v2 a1 S1 hs => ?_) (fun c w e1 J1 a1 X1 => ?_)
  · have l1 := sSml_le e1
    have k1 : a = p + 1 := congrArg Prod.snd l1.1
    have m1 : s = f p := congrArg Prod.fst l1.1
    refine And.intro (fun _ => ?_) (fun z => absurd (show 0 ≤ v2 by rw [hs]; exact nI_pos' (by omega)) z)
    refine cl_sd14 hG hi hi2 (C0.ag a1) S1 (by omega) (fun c b e2 J2 v3 h3 C2 T2 g92 g102 => ?_) (fun c w e2 => hbad c w (by simp only [sInf, e1, e2]))
    have l2 := sSml_le e2
    have k2 : b = a + 1 := congrArg Prod.snd l2.1
    have m2 : c = f a := congrArg Prod.fst l2.1
    refine cl_sd44 hG hi hi2 hs (by omega) C2 T2 (by omega) (fun r g e3 J3 C3 T3 g93 g103 g113 => ?_) (fun cc w e3 => hbad cc w (by simp only [sInf, e1, e2, e3]))
    have l3 : g ≤ n ∧ r ≤ 16 := by
      split at e3
      · have l3 := sSml_le e3
        have k3 : g = b + 1 := congrArg Prod.snd l3.1
        have m3 : r = f b := congrArg Prod.fst l3.1
        omega
      · injection e3 with e3
        injection e3 with e3 e4
        omega
    refine cl_sd78 hG hi hi2 C3 T3 l3.1 (fun k h e4 J4 C4 T4 g94 g104 g114 g124 => ?_) (fun cc w e4 => hbad cc w (by simp only [sInf, e1, e2, e3, e4]))
    have l4 := sSml_le e4
    have k4 : h = g + 1 := congrArg Prod.snd l4.1
    have m4 : k = f g := congrArg Prod.fst l4.1
    have key : sInf f n p = if 0 < k ∧ c % 8 ≠ 0 then .inl (4, a) else if h + 2 ≤ n then .inr ((c, r, k, sNum f h 2), h + 2) else .inl (1, h) := by simp only [sInf, e1, e2, e3, e4]
    refine cl_sd91 hG hi hi2 h3 C4 T4 (by rw [g104, g103]; exact g102) (by omega) g124 (by omega) (fun z => ?_) (fun z => hbad 4 a (by rw [key, if_pos z]))
    refine cl_sd130 hG hi hi2 C4 T4 (by omega) (fun w I' CC TT t9 t10 t11 t12 t13 => ?_) (fun w => hbad 1 h (by rw [key, if_neg z, if_neg w]))
    refine hok (c, r, k, sNum f h 2) (h + 2) (by rw [key, if_neg z, if_pos w]) I' CC TT ?_ ?_ ?_ ?_ t13
    · rw [t9, g94, g93, g92]; exact a1 9 i (by omega)
    · rw [t10, g104, g103]; exact g102
    · rw [t11, g114]; exact g113
    · rw [t12]; exact g124
  · exact And.intro (fun z => absurd (show (0 : Int32) ≤ -1 from z) (by decide)) (fun _ => ⟨(show (0 : Int32) &&& 1 = 0 by decide), hbad c w (by simp only [sInf, e1]) J1 (C0.ag a1) X1⟩)
end CLC
