/-! ORDER, draw and say: as functions; of the reference on paper -/
def pPos (lo : Nat → UInt32) (o : Nat → Nat) (i : Nat) : Nat → Nat
  | 0 => 0
  | j + 1 => if Op.cmpValue (FP.fcmp (lo (o j)) (lo i)) .g < 0 then pPos lo o i j else j + 1
def pIns (lo : Nat → UInt32) (o : Nat → Nat) (i k : Nat) : Nat := if k < pPos lo o i i then o k else if k = pPos lo o i i then i else if k ≤ i then o (k - 1) else o k
/-- the ORDER of the first TOKENS -/
def pSo (lo : Nat → UInt32) : Nat → Nat → Nat
  | 0 => fun _ => 0
  | i + 1 => pIns lo (pSo lo i) i
theorem pPos_le {lo : Nat → UInt32} {o : Nat → Nat} {i : Nat} : ∀ j, pPos lo o i j ≤ j
  | 0 => Nat.le_refl _
  | j + 1 => by
    show (if Op.cmpValue (FP.fcmp (lo (o j)) (lo i)) .g < 0 then pPos lo o i j else j + 1) ≤ j + 1
    split
    · exact Nat.le_succ_of_le (pPos_le j)
    · exact Nat.le_refl _
theorem pSo_lt {lo : Nat → UInt32} : ∀ i k, k < i → pSo lo i k < i
  | 0, k, h => absurd h (Nat.not_lt_zero _)
  | i + 1, k, h => by
    have ih := fun k => pSo_lt (lo := lo) i k
    have p := pPos_le (lo := lo) (o := pSo lo i) (i := i) i
    show pIns lo (pSo lo i) i k < i + 1
    unfold pIns
    split
    · exact Nat.lt_succ_of_lt (ih k (by omega))
    · split
      · omega
      · split
        · exact Nat.lt_succ_of_lt (ih (k - 1) (by omega))
        · omega
theorem pPos_ext {lo lo' : Nat → UInt32} {o : Nat → Nat} {i : Nat} (h : ∀ k, k ≤ i → lo k = lo' k) (ho : ∀ k, k < i → o k < i) : ∀ j, j ≤ i → pPos lo o i j = pPos lo' o i j
  | 0, _ => rfl
  | j + 1, hj => by
    show (if Op.cmpValue (FP.fcmp (lo (o j)) (lo i)) .g < 0 then pPos lo o i j else j + 1) = (if Op.cmpValue (FP.fcmp (lo' (o j)) (lo' i)) .g < 0 then pPos lo' o i j else j + 1)
    rw [h (o j) (Nat.le_of_lt (ho j (by omega))), h i (Nat.le_refl _), pPos_ext h ho j (by omega)]
theorem pSo_ext {lo lo' : Nat → UInt32} : ∀ i, (∀ k, k < i → lo k = lo' k) → pSo lo i = pSo lo' i
  | 0, _ => rfl
  | i + 1, h => by
    have e := pSo_ext (lo := lo) (lo' := lo') i (fun k hk => h k (by omega))
    have p := pPos_ext (lo := lo) (lo' := lo') (o := pSo lo' i) (i := i) (fun k hk => h k (by omega)) (fun k hk => pSo_lt i k hk) i (Nat.le_refl _)
    show pIns lo (pSo lo i) i = pIns lo' (pSo lo' i) i
    rw [e]
    funext k
    unfold pIns
    rw [p]
section RUI
variable {M : pMd} {I J : Nat → Nat → Int32} {L : Nat → Nat → Int64} {F G : Nat → Nat → UInt32} {d : Nat} {Q : xP}
theorem rf_sort (hM : rfMd M I F) (hm : mGd M)
    (hQ : ∀ J, (∀ b k, b ≠ 31 → J b k = I b k) → (∀ k, k < mFa M 6 → J 31 k = nI (pSo (F 43) (mFa M 6) k)) → Q none (sh2, J, L, F)) : XM xE0 d 72 [.ref 0] (sh2, I, L, F) Q := by
  have h6 := hm.1.2.2.2.2.2.2.1
  have e6 : I 17 6 = nI (mFa M 6) := hM.2.1 6 (by decide)
  have v6 : vp_in (6 : Int32) 12 := rf_in (j := 6) rfl (by decide) (by decide)
  have c62 : ∀ i, i < mFa M 6 → (∀ J, (∀ b k, b ≠ 31 → J b k = I b k) → (∀ k, k < i + 1 → J 31 k = nI (pSo (F 43) (i + 1) k)) → ∀ xi, xi = nI (i + 1) → ∀ y2, XC xE0 d xM_72 (2, [some (.ref 0), some (.int xi), y2], [], (sh2, J, L, F)) Q) → ∀ j, j ≤ i → pPos (F 43) (pSo (F 43) i) i i = j → ∀ J, (∀ b k, b ≠ 31 → J b k = I b k) → (∀ k, k < j → J 31 k = nI (pSo (F 43) i k)) → (∀ k, j < k → k ≤ i → J 31 k = nI (pSo (F 43) i (k - 1))) → ∀ xi xj, xi = nI i → xj = nI j → XC xE0 d xM_72 (62, [some (.ref 0), some (.int xi), some (.int xj)], [], (sh2, J, L, F)) Q := by
    intro i hi next j hj hp J D h1 h2 xi xj exi exj
    have jin : vp_in xj 16 := rf_in exj (by omega) (by decide)
    have tj : xj.toNatClampNeg = j := by rw [exj, nI_clamp (by omega)]
    have xi1 : xi + 1 = nI (i + 1) := by rw [exi, nI_1]
    have D2 : ∀ b k, b ≠ 31 → x2 J 31 xj.toNatClampNeg xi b k = I b k := fun b k hb => by rw [x2_o _ _ (fun e => hb e.1)]; exact D b k hb
    have V2 : ∀ k, k < i + 1 → x2 J 31 xj.toNatClampNeg xi 31 k = nI (pSo (F 43) (i + 1) k) := by
      intro k hk
      show _ = nI (pIns (F 43) (pSo (F 43) i) i k)
      unfold pIns
      rw [hp, tj]
      rcases Nat.lt_trichotomy k j with y | y | y
      · rw [x2_o _ _ (by omega), if_pos y]; exact h1 k y
      · subst y
        rw [x2_same, if_neg (by omega), if_pos rfl]; exact exi
      · rw [x2_o _ _ (by omega), if_neg (by omega), if_neg (by omega), if_pos (by omega)]; exact h2 k y (by omega)
    refine XC.block [2] 60 ?_
    refine And.intro jin ?_
    exact next _ D2 V2 _ xi1 _
  have c15 : ∀ i, i < mFa M 6 → (∀ J, (∀ b k, b ≠ 31 → J b k = I b k) → (∀ k, k < i + 1 → J 31 k = nI (pSo (F 43) (i + 1) k)) → ∀ xi, xi = nI (i + 1) → ∀ y2, XC xE0 d xM_72 (2, [some (.ref 0), some (.int xi), y2], [], (sh2, J, L, F)) Q) → ∀ j, j ≤ i → pPos (F 43) (pSo (F 43) i) i i = pPos (F 43) (pSo (F 43) i) i j → ∀ J, (∀ b k, b ≠ 31 → J b k = I b k) → (∀ k, k < j → J 31 k = nI (pSo (F 43) i k)) → (∀ k, j < k → k ≤ i → J 31 k = nI (pSo (F 43) i (k - 1))) → ∀ xi xj, xi = nI i → xj = nI j → XC xE0 d xM_72 (15, [some (.ref 0), some (.int xi), some (.int xj)], [], (sh2, J, L, F)) Q := by
    intro i hi next j
    induction j with
    | zero =>
      intro hj hp J D h1 h2 xi xj exi exj
      have c := c62 i hi next 0 hj hp J D h1 h2 xi xj exi exj
      refine XC.block [15, 62] 60 ?_
      exact And.intro (fun _ => c) (fun z => absurd (show xj ≤ 0 by rw [exj]; decide) z)
    | succ j ih =>
      intro hj hp J D h1 h2 xi xj exi exj
      have hlt : ¬ xj ≤ 0 := by rw [exj]; exact nI_nle (by omega) (by omega)
      have ej : xj - 1 = nI j := by rw [exj, nI_pred]
      have ej2 : xj + (-1) = nI j := by rw [exj]; exact pk_m1 j
      have tj1 : (xj - 1).toNatClampNeg = j := by rw [ej, nI_clamp (by omega)]
      have tj : xj.toNatClampNeg = j + 1 := by rw [exj, nI_clamp (by omega)]
      have ti : xi.toNatClampNeg = i := by rw [exi, nI_clamp (by omega)]
      have j1 : vp_in (xj - 1) 16 := rf_in ej (by omega) (by decide)
      have jin : vp_in xj 16 := rf_in exj (by omega) (by decide)
      have iin : vp_in xi 16 := rf_in exi (by omega) (by decide)
      have eo : J 31 (xj - 1).toNatClampNeg = nI (pSo (F 43) i j) := by rw [tj1]; exact h1 j (by omega)
      have ol := pSo_lt (lo := F 43) i j (by omega)
      have oin : vp_in (J 31 (xj - 1).toNatClampNeg) 16 := rf_in eo (by omega) (by decide)
      have ec : Op.cmpValue (FP.fcmp (F 43 (J 31 (xj - 1).toNatClampNeg).toNatClampNeg) (F 43 xi.toNatClampNeg)) .g = Op.cmpValue (FP.fcmp (F 43 (pSo (F 43) i j)) (F 43 i)) .g := by rw [eo, nI_clamp (by omega), ti]
      have stop : ¬ Op.cmpValue (FP.fcmp (F 43 (J 31 (xj - 1).toNatClampNeg).toNatClampNeg) (F 43 xi.toNatClampNeg)) .g < 0 → XC xE0 d xM_72 (62, [some (.ref 0), some (.int xi), some (.int xj)], [], (sh2, J, L, F)) Q := fun z => by
        rw [ec] at z
        exact c62 i hi next (j + 1) hj (hp.trans (if_neg z)) J D h1 h2 xi xj exi exj
      have D2 : ∀ b k, b ≠ 31 → x2 J 31 xj.toNatClampNeg (J 31 (xj - 1).toNatClampNeg) b k = I b k := fun b k hb => by rw [x2_o _ _ (fun e => hb e.1)]; exact D b k hb
      have go : Op.cmpValue (FP.fcmp (F 43 (J 31 (xj - 1).toNatClampNeg).toNatClampNeg) (F 43 xi.toNatClampNeg)) .g < 0 → XC xE0 d xM_72 (15, [some (.ref 0), some (.int xi), some (.int (xj + (-1)))], [], (sh2, x2 J 31 xj.toNatClampNeg (J 31 (xj - 1).toNatClampNeg), L, F)) Q := fun z => by
        rw [ec] at z
        refine ih (by omega) (hp.trans (if_pos z)) _ D2 (fun k hk => ?_) (fun k k1 k2 => ?_) xi _ exi ej2
        · rw [x2_o _ _ (by omega)]; exact h1 k (by omega)
        · rcases Nat.lt_or_ge (j + 1) k with y | y
          · rw [x2_o _ _ (by omega)]; exact h2 k y k2
          · have : k = j + 1 := by omega
            subst this
            rw [tj, x2_same]; exact eo
      refine XC.block [15, 62] 60 ?_
      refine And.intro (fun z => absurd z hlt) (fun _ => ?_)
      refine And.intro j1 ?_
      refine And.intro oin ?_
      refine And.intro iin ?_
      refine And.intro (fun z => stop (Int32.not_lt.mpr z)) (fun z => ?_)
      refine And.intro j1 ?_
      refine And.intro jin ?_
      exact go (Int32.not_le.mp z)
  have c2 : ∀ (u i : Nat), i + u = mFa M 6 → ∀ J, (∀ b k, b ≠ 31 → J b k = I b k) → (∀ k, k < i → J 31 k = nI (pSo (F 43) i k)) → ∀ xi, xi = nI i → ∀ y2, XC xE0 d xM_72 (2, [some (.ref 0), some (.int xi), y2], [], (sh2, J, L, F)) Q := by
    intro u
    induction u with
    | zero =>
      intro i hi J D hv xi exi y2
      have : i = mFa M 6 := by omega
      subst this
      have e : J 17 6 = nI (mFa M 6) := (D 17 6 (by decide)).trans e6
      have fin := hQ J D hv
      refine XC.block [2, 15] 60 ?_
      refine And.intro v6 ?_
      exact And.intro (fun _ => ⟨trivial, fin⟩) (fun z => absurd (show J 17 6 ≤ xi by rw [e, exi]; exact nI_le (by omega) (by omega)) z)
    | succ u ih =>
      intro i hi J D hv xi exi y2
      have e : J 17 6 = nI (mFa M 6) := (D 17 6 (by decide)).trans e6
      have hlt : ¬ J 17 6 ≤ xi := by rw [e, exi]; exact nI_ge (by omega) (by omega)
      have i1 : i + 1 + u = mFa M 6 := by omega
      have c := c15 i (by omega) (fun J' D' V' xi' e' y2' => ih (i + 1) i1 J' D' V' xi' e' y2') i (Nat.le_refl _) rfl J D hv (fun k k1 k2 => absurd k1 (by omega)) xi xi exi exi
      refine XC.block [2, 15] 60 ?_
      refine And.intro v6 ?_
      exact And.intro (fun z => absurd z hlt) (fun _ => c)
  refine XC.block [2] 60 ?_
  exact c2 (mFa M 6) 0 (Nat.zero_add _) I (fun _ _ _ => rfl) (fun k hk => absurd hk (Nat.not_lt_zero _)) _ rfl _
end RUI
