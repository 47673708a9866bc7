/-! the class on paper: findKeys -/
/-- the KEY align, if it is there, is a NUMBER -/
def sAok (f : Nat → Nat) (n k : Nat) : Prop := ∀ i, sKf f n (sWd sWa) 5 k 0 = some i → sTy f n i = 0
def sAva (f : Nat → Nat) (n k : Nat) : Int32 := match sKf f n (sWd sWa) 5 k 0 with
  | none => -1
  | some i => nI (sVa f n i)
section CLG
variable {X : List (Option Nat)} {T : List xS} {f : Nat → Nat} {n k : Nat} {I J : Nat → Nat → Int32} {L : Nat → Nat → Int64} {F : Nat → Nat → UInt32} {d : Nat} {Q : xP}
theorem cl_isArr (hF : clF f n I) (hG : rfG f n) {p t : Nat} (hp : p + 1 < n) (ht : t < 256) {a b : Int32} (ha : a = nI p) (hb : b = nI t) (h1 : f (p + 1) = 0 ∨ f p = t → Q (some (.int 1)) (shG X T, I, L, F)) (h0 : ¬ (f (p + 1) = 0 ∨ f p = t) → Q (some (.int 0)) (shG X T, I, L, F)) : XM xE0 (d + 1) 91 [.ref 14, .int a, .int b] (shG X T, I, L, F) Q := by
  have hn := hG.2
  have g1 := hG.1 (p + 1)
  have g2 := hG.1 p
  refine XC.block [] 60 ?_
  refine cl_at hF hG (p := p + 1) (by omega) (show a + 1 = nI (p + 1) by rw [ha, nI_1]) (fun _ v hv => ?_) (fun z => absurd z (by omega))
  refine And.intro (fun z => ⟨(show (1 : Int32) &&& 1 = 1 by decide), h1 (Or.inl ?_)⟩) (fun z => ?_)
  · have z : v = 0 := z
    rw [hv, show (0 : Int32) = nI 0 from rfl, nI_eq (by omega) (by omega)] at z
    exact z
  · have z : ¬ v = 0 := z
    rw [hv, show (0 : Int32) = nI 0 from rfl, nI_eq (by omega) (by omega)] at z
    refine cl_at hF hG (p := p) (by omega) ha (fun _ w hw => ?_) (fun z => absurd z (by omega))
    refine And.intro (fun y => ⟨(show (0 : Int32) &&& 1 = 0 by decide), h0 (fun q => ?_)⟩) (fun y => ⟨(show (1 : Int32) &&& 1 = 1 by decide), h1 (Or.inr ?_)⟩)
    · have y : ¬ w = b := y
      rw [hw, hb, nI_eq (by omega) (by omega)] at y
      exact q.elim z y
    · have y : ¬ ¬ w = b := y
      have y := Classical.not_not.mp y
      rw [hw, hb, nI_eq (by omega) (by omega)] at y
      exact y
theorem cl_anL (hF : clF f n I) (hG : rfG f n) {e m : Nat} (hm : m < 256) {a mm : Int32} (hmm : mm = nI m) : ∀ (u j : Nat), j + u = m → ∀ (h : Nat), (0 < u → sRep (sA2 f n) u h = .inr e) → h ≤ n →
    (Q (some (.int (if sTf f u h = true then 1 else 0))) (shG X T, I, L, F)) → ∀ x y : Int32, x = nI h → y = nI j → XC xE0 (d + 2) xM_92 (29, [some (.ref 14), some (.int a), some (.int mm), some (.int x), some (.int y)], [], (shG X T, I, L, F)) Q := by
  have hn := hG.2
  intro u
  induction u with
  | zero =>
    intro j hj h hr hh hQ x y hx hy
    refine XC.block [29] 60 ?_
    exact And.intro (fun z => ⟨(show (1 : Int32) &&& 1 = 1 by decide), hQ⟩) (fun z => absurd (show mm ≤ y by rw [hmm, hy]; exact nI_le (by omega) (by omega)) z)
  | succ u ih =>
    intro j hj h hr hh hQ x y hx hy
    have hr := hr (by omega)
    unfold sRep at hr
    split at hr
    · cases hr
    · rename_i r hs
      have hle := sA2_in hs
      have b1 := hG.1 (h + 1)
      have b2 := hG.1 h
      have hT : sTf f (u + 1) h = (if 0 < f (h + 1) ∧ f h ≠ 0 then false else sTf f u (h + 2 + 4 * f (h + 1))) := rfl
      refine XC.block [29] 60 ?_
      refine And.intro (fun z => absurd (show mm ≤ y from z) (by rw [hmm, hy]; exact nI_ge (by omega) (by omega))) (fun z => ?_)
      refine cl_isArr hF hG (p := h) (t := 0) (by omega) (by decide) hx rfl (fun w => ?_) (fun w => ?_)
      · refine And.intro (fun _ => ?_) (fun z => absurd (show ¬ (1 : Int32) = 0 by decide) z)
        have hnx := sA2_num hs w
        refine cl_at hF hG (p := h + 1) (by omega) (show x + 1 = nI (h + 1) by rw [hx, nI_1]) (fun _ v hv => ?_) (fun z => absurd z (by omega))
        refine ih (j + 1) (by omega) r (fun _ => hr) (by omega) ?_ _ _ ?_ (show y + 1 = nI (j + 1) by rw [hy, nI_1])
        · have eT : sTf f (u + 1) h = sTf f u r := by rw [hT, if_neg (by omega), ← hnx]
          rw [eT] at hQ
          exact hQ
        · show x + (2 + 4 * v) = nI r
          rw [hv, show (4 : Int32) = nI 4 from rfl, show (2 : Int32) = nI 2 from rfl, nI_mul, nI_add, hx, nI_add]
          congr 1
          omega
      · refine And.intro (fun z => absurd (show (0 : Int32) = 0 from rfl) z) (fun _ => ⟨(show (0 : Int32) &&& 1 = 0 by decide), ?_⟩)
        have eT : sTf f (u + 1) h = false := by rw [hT, if_pos (by omega)]
        rw [eT] at hQ
        exact hQ
theorem cl_arrNum (hF : clF f n I) (hG : rfG f n) {p e : Nat} (hA : sA1 f n p = .inr e) {a : Int32} (ha : a = nI p) (h1 : (f (p + 1) = 0 ∨ f p = 3) → sTf f (f (p + 1)) (p + 2) = true → Q (some (.int 1)) (shG X T, I, L, F)) (h0 : ¬ ((f (p + 1) = 0 ∨ f p = 3) ∧ sTf f (f (p + 1)) (p + 2) = true) → Q (some (.int 0)) (shG X T, I, L, F)) : XM xE0 (d + 2) 92 [.ref 14, .int a] (shG X T, I, L, F) Q := by
  obtain ⟨u1, u2, u3, u4⟩ := sArr_un hA
  have hn := hG.2
  refine XC.block [11] 60 ?_
  refine cl_isArr hF hG (p := p) (t := 3) (by omega) (by decide) ha rfl (fun w => ?_) (fun w => ?_)
  · refine And.intro (fun _ => ?_) (fun z => absurd (show ¬ (1 : Int32) = 0 by decide) z)
    refine XC.block [29] 60 ?_
    refine cl_at hF hG (p := p + 1) (by omega) (show a + 1 = nI (p + 1) by rw [ha, nI_1]) (fun _ v hv => ?_) (fun z => absurd z (by omega))
    refine cl_anL hF hG (e := e) (m := f (p + 1)) (hG.1 _) hv (f (p + 1)) 0 (by omega) (p + 2) (fun h => ?_) (by omega) ?_ _ _ (show a + 2 = nI (p + 2) by rw [ha, show (2 : Int32) = nI 2 from rfl, nI_add]) rfl
    · have h3 : f p = 3 := w.resolve_left (by omega)
      have u4 : sRep (fun x => if f p < 3 then sPln f n (f p) x else sA2 f n x) (f (p + 1)) (p + 2) = .inr e := u4
      rw [show (fun x => if f p < 3 then sPln f n (f p) x else sA2 f n x) = sA2 f n from funext (fun x => if_neg (by omega))] at u4
      exact u4
    · by_cases ht : sTf f (f (p + 1)) (p + 2) = true
      · rw [if_pos ht]; exact h1 w ht
      · rw [if_neg ht]; exact h0 (fun q => ht q.2)
  · exact And.intro (fun z => absurd (show (0 : Int32) = 0 from rfl) z) (fun _ => ⟨(show (0 : Int32) &&& 1 = 0 by decide), h0 (fun q => w q.1)⟩)
/-- what the Maker knows of PAIRS -/
def clV2 (f : Nat → Nat) (n k : Nat) (J : Nat → Nat → Int32) : Prop := J 5 9 = nI k ∧ k ≤ 24 ∧ (∀ j, j < k → clP1 f n J j) ∧ ∀ j, j < k → sTy f n j ≤ 3 ∧ sVal f n (sTy f n j) (sVa f n j) = .inr (sKey f n (j + 1))
def clW (I I' : Nat → Nat → Int32) : Prop := ∀ b k, b ≠ 15 → I' b k = I b k
theorem clW.st {I J : Nat → Nat → Int32} (h : clW I J) {k : Nat} {x : Int32} : clW I (x2 J 15 k x) := fun b k' hb => (x2_o _ _ (fun e => hb e.1)).trans (h b k' hb)
theorem clF.agW (h : clF f n I) (a : clW I J) : clF f n J := ⟨fun k hk => by rw [a 2 k (by decide)]; exact h.1 k hk, (a 1 1 (by decide)).trans h.2⟩
theorem clV2.ag (h : clV2 f n k I) (a : clW I J) : clV2 f n k J := by
  refine ⟨(a 5 9 (by decide)).trans h.1, h.2.1, fun j hj => ?_, h.2.2.2⟩
  obtain ⟨g1, g2, g3, g4⟩ := h.2.2.1 j hj
  exact ⟨(a 6 j (by decide)).trans g1, (a 7 j (by decide)).trans g2, (a 8 j (by decide)).trans g3, g4⟩
theorem cl_fs0 (hG : rfG f n) (hF : clF f n J) (hV : clV2 f n k J) (hgo : ∀ i, sO f n k 0 = some i → XC xE0 (d + 4) xM_89 (11, [some (.ref 14)], [], (shG X T, x2 J 15 0 (nI (sVk f n k 0)), L, F)) Q) (hb : sO f n k 0 = none → ∀ J', clW J J' → Q (some (.int 0)) (shG X T, J', L, F)) : XC xE0 (d + 4) xM_89 (0, [some (.ref 14)], [], (shG X T, J, L, F)) Q := by
  have eo : ∀ o, sKf f n (sWd [100, 105, 109]) 3 k 0 = o → sO f n k 0 = (match o with | none => none | some i => if sTy f n i = 0 then some i else none) := by
    intro o ho
    subst ho
    rfl
  refine XC.block [11] 60 ?_
  refine cl_fk0 hF hG (q := 0) (t := 0) hV.2.1 hV.1 hV.2.2.1 (by decide) (by decide) rfl rfl (fun i e y => ?_) (fun i e y => ?_) (fun e => ?_)
  · have e2 : sO f n k 0 = some i := by rw [eo _ e]; exact if_pos y
    refine And.intro (fun z => absurd (show (1 : Int32) = 0 from z) (by decide)) (fun _ => ?_)
    have := hgo i e2
    rw [show sVk f n k 0 = sVa f n i by unfold sVk; rw [e2]] at this
    exact this
  · have e2 : sO f n k 0 = none := by rw [eo _ e]; exact if_neg y
    exact And.intro (fun _ => ⟨(show (0 : Int32) &&& 1 = 0 by decide), hb e2 _ (fun b k' h => x2_o _ _ (fun z => h z.1))⟩) (fun z => absurd (show (0 : Int32) = 0 from rfl) z)
  · have e2 : sO f n k 0 = none := by rw [eo _ e]
    exact And.intro (fun _ => ⟨(show (0 : Int32) &&& 1 = 0 by decide), hb e2 _ (fun b k' h => x2_o _ _ (fun z => h z.1))⟩) (fun z => absurd (show (0 : Int32) = 0 from rfl) z)
theorem cl_fs1 (hG : rfG f n) (hF : clF f n J) (hV : clV2 f n k J) (hgo : ∀ i, sO f n k 1 = some i → XC xE0 (d + 4) xM_89 (22, [some (.ref 14)], [], (shG X T, x2 J 15 1 (nI (sVk f n k 1)), L, F)) Q) (hb : sO f n k 1 = none → ∀ J', clW J J' → Q (some (.int 0)) (shG X T, J', L, F)) : XC xE0 (d + 4) xM_89 (11, [some (.ref 14)], [], (shG X T, J, L, F)) Q := by
  have eo : ∀ o, sKf f n (sWd [104, 101, 97, 100, 115]) 5 k 0 = o → sO f n k 1 = (match o with | none => none | some i => if sTy f n i = 0 then some i else none) := by
    intro o ho
    subst ho
    rfl
  refine XC.block [22] 60 ?_
  refine cl_fk1 hF hG (q := 1) (t := 0) hV.2.1 hV.1 hV.2.2.1 (by decide) (by decide) rfl rfl (fun i e y => ?_) (fun i e y => ?_) (fun e => ?_)
  · have e2 : sO f n k 1 = some i := by rw [eo _ e]; exact if_pos y
    refine And.intro (fun z => absurd (show (1 : Int32) = 0 from z) (by decide)) (fun _ => ?_)
    have := hgo i e2
    rw [show sVk f n k 1 = sVa f n i by unfold sVk; rw [e2]] at this
    exact this
  · have e2 : sO f n k 1 = none := by rw [eo _ e]; exact if_neg y
    exact And.intro (fun _ => ⟨(show (0 : Int32) &&& 1 = 0 by decide), hb e2 _ (fun b k' h => x2_o _ _ (fun z => h z.1))⟩) (fun z => absurd (show (0 : Int32) = 0 from rfl) z)
  · have e2 : sO f n k 1 = none := by rw [eo _ e]
    exact And.intro (fun _ => ⟨(show (0 : Int32) &&& 1 = 0 by decide), hb e2 _ (fun b k' h => x2_o _ _ (fun z => h z.1))⟩) (fun z => absurd (show (0 : Int32) = 0 from rfl) z)
theorem cl_fs2 (hG : rfG f n) (hF : clF f n J) (hV : clV2 f n k J) (hgo : ∀ i, sO f n k 2 = some i → XC xE0 (d + 4) xM_89 (33, [some (.ref 14)], [], (shG X T, x2 J 15 2 (nI (sVk f n k 2)), L, F)) Q) (hb : sO f n k 2 = none → ∀ J', clW J J' → Q (some (.int 0)) (shG X T, J', L, F)) : XC xE0 (d + 4) xM_89 (22, [some (.ref 14)], [], (shG X T, J, L, F)) Q := by
  have eo : ∀ o, sKf f n (sWd [107, 118]) 2 k 0 = o → sO f n k 2 = (match o with | none => none | some i => if sTy f n i = 0 then some i else none) := by
    intro o ho
    subst ho
    rfl
  refine XC.block [33] 60 ?_
  refine cl_fk2 hF hG (q := 2) (t := 0) hV.2.1 hV.1 hV.2.2.1 (by decide) (by decide) rfl rfl (fun i e y => ?_) (fun i e y => ?_) (fun e => ?_)
  · have e2 : sO f n k 2 = some i := by rw [eo _ e]; exact if_pos y
    refine And.intro (fun z => absurd (show (1 : Int32) = 0 from z) (by decide)) (fun _ => ?_)
    have := hgo i e2
    rw [show sVk f n k 2 = sVa f n i by unfold sVk; rw [e2]] at this
    exact this
  · have e2 : sO f n k 2 = none := by rw [eo _ e]; exact if_neg y
    exact And.intro (fun _ => ⟨(show (0 : Int32) &&& 1 = 0 by decide), hb e2 _ (fun b k' h => x2_o _ _ (fun z => h z.1))⟩) (fun z => absurd (show (0 : Int32) = 0 from rfl) z)
  · have e2 : sO f n k 2 = none := by rw [eo _ e]
    exact And.intro (fun _ => ⟨(show (0 : Int32) &&& 1 = 0 by decide), hb e2 _ (fun b k' h => x2_o _ _ (fun z => h z.1))⟩) (fun z => absurd (show (0 : Int32) = 0 from rfl) z)
theorem cl_fs3 (hG : rfG f n) (hF : clF f n J) (hV : clV2 f n k J) (hgo : ∀ i, sO f n k 3 = some i → XC xE0 (d + 4) xM_89 (44, [some (.ref 14)], [], (shG X T, x2 J 15 3 (nI (sVk f n k 3)), L, F)) Q) (hb : sO f n k 3 = none → ∀ J', clW J J' → Q (some (.int 0)) (shG X T, J', L, F)) : XC xE0 (d + 4) xM_89 (33, [some (.ref 14)], [], (shG X T, J, L, F)) Q := by
  have eo : ∀ o, sKf f n (sWd [108, 97, 121, 101, 114, 115]) 6 k 0 = o → sO f n k 3 = (match o with | none => none | some i => if sTy f n i = 0 then some i else none) := by
    intro o ho
    subst ho
    rfl
  refine XC.block [44] 60 ?_
  refine cl_fk3 hF hG (q := 3) (t := 0) hV.2.1 hV.1 hV.2.2.1 (by decide) (by decide) rfl rfl (fun i e y => ?_) (fun i e y => ?_) (fun e => ?_)
  · have e2 : sO f n k 3 = some i := by rw [eo _ e]; exact if_pos y
    refine And.intro (fun z => absurd (show (1 : Int32) = 0 from z) (by decide)) (fun _ => ?_)
    have := hgo i e2
    rw [show sVk f n k 3 = sVa f n i by unfold sVk; rw [e2]] at this
    exact this
  · have e2 : sO f n k 3 = none := by rw [eo _ e]; exact if_neg y
    exact And.intro (fun _ => ⟨(show (0 : Int32) &&& 1 = 0 by decide), hb e2 _ (fun b k' h => x2_o _ _ (fun z => h z.1))⟩) (fun z => absurd (show (0 : Int32) = 0 from rfl) z)
  · have e2 : sO f n k 3 = none := by rw [eo _ e]
    exact And.intro (fun _ => ⟨(show (0 : Int32) &&& 1 = 0 by decide), hb e2 _ (fun b k' h => x2_o _ _ (fun z => h z.1))⟩) (fun z => absurd (show (0 : Int32) = 0 from rfl) z)
theorem cl_fs4 (hG : rfG f n) (hF : clF f n J) (hV : clV2 f n k J) (hgo : ∀ i, sO f n k 4 = some i → XC xE0 (d + 4) xM_89 (55, [some (.ref 14)], [], (shG X T, x2 J 15 4 (nI (sVk f n k 4)), L, F)) Q) (hb : sO f n k 4 = none → ∀ J', clW J J' → Q (some (.int 0)) (shG X T, J', L, F)) : XC xE0 (d + 4) xM_89 (44, [some (.ref 14)], [], (shG X T, J, L, F)) Q := by
  have eo : ∀ o, sKf f n (sWd [102, 102, 110]) 3 k 0 = o → sO f n k 4 = (match o with | none => none | some i => if sTy f n i = 0 then some i else none) := by
    intro o ho
    subst ho
    rfl
  refine XC.block [55] 60 ?_
  refine cl_fk4 hF hG (q := 4) (t := 0) hV.2.1 hV.1 hV.2.2.1 (by decide) (by decide) rfl rfl (fun i e y => ?_) (fun i e y => ?_) (fun e => ?_)
  · have e2 : sO f n k 4 = some i := by rw [eo _ e]; exact if_pos y
    refine And.intro (fun z => absurd (show (1 : Int32) = 0 from z) (by decide)) (fun _ => ?_)
    have := hgo i e2
    rw [show sVk f n k 4 = sVa f n i by unfold sVk; rw [e2]] at this
    exact this
  · have e2 : sO f n k 4 = none := by rw [eo _ e]; exact if_neg y
    exact And.intro (fun _ => ⟨(show (0 : Int32) &&& 1 = 0 by decide), hb e2 _ (fun b k' h => x2_o _ _ (fun z => h z.1))⟩) (fun z => absurd (show (0 : Int32) = 0 from rfl) z)
  · have e2 : sO f n k 4 = none := by rw [eo _ e]
    exact And.intro (fun _ => ⟨(show (0 : Int32) &&& 1 = 0 by decide), hb e2 _ (fun b k' h => x2_o _ _ (fun z => h z.1))⟩) (fun z => absurd (show (0 : Int32) = 0 from rfl) z)
theorem cl_fs5 (hG : rfG f n) (hF : clF f n J) (hV : clV2 f n k J) (hgo : ∀ i, sO f n k 5 = some i → XC xE0 (d + 4) xM_89 (66, [some (.ref 14)], [], (shG X T, x2 J 15 5 (nI (sVk f n k 5)), L, F)) Q) (hb : sO f n k 5 = none → ∀ J', clW J J' → Q (some (.int 0)) (shG X T, J', L, F)) : XC xE0 (d + 4) xM_89 (55, [some (.ref 14)], [], (shG X T, J, L, F)) Q := by
  have eo : ∀ o, sKf f n (sWd [99, 116, 120]) 3 k 0 = o → sO f n k 5 = (match o with | none => none | some i => if sTy f n i = 0 then some i else none) := by
    intro o ho
    subst ho
    rfl
  refine XC.block [66] 60 ?_
  refine cl_fk5 hF hG (q := 5) (t := 0) hV.2.1 hV.1 hV.2.2.1 (by decide) (by decide) rfl rfl (fun i e y => ?_) (fun i e y => ?_) (fun e => ?_)
  · have e2 : sO f n k 5 = some i := by rw [eo _ e]; exact if_pos y
    refine And.intro (fun z => absurd (show (1 : Int32) = 0 from z) (by decide)) (fun _ => ?_)
    have := hgo i e2
    rw [show sVk f n k 5 = sVa f n i by unfold sVk; rw [e2]] at this
    exact this
  · have e2 : sO f n k 5 = none := by rw [eo _ e]; exact if_neg y
    exact And.intro (fun _ => ⟨(show (0 : Int32) &&& 1 = 0 by decide), hb e2 _ (fun b k' h => x2_o _ _ (fun z => h z.1))⟩) (fun z => absurd (show (0 : Int32) = 0 from rfl) z)
  · have e2 : sO f n k 5 = none := by rw [eo _ e]
    exact And.intro (fun _ => ⟨(show (0 : Int32) &&& 1 = 0 by decide), hb e2 _ (fun b k' h => x2_o _ _ (fun z => h z.1))⟩) (fun z => absurd (show (0 : Int32) = 0 from rfl) z)
theorem cl_fs6 (hG : rfG f n) (hF : clF f n J) (hV : clV2 f n k J) (hgo : ∀ i, sO f n k 6 = some i → XC xE0 (d + 4) xM_89 (78, [some (.ref 14)], [], (shG X T, x2 J 15 12 (nI (sVk f n k 6)), L, F)) Q) (hb : sO f n k 6 = none → ∀ J', clW J J' → Q (some (.int 0)) (shG X T, J', L, F)) : XC xE0 (d + 4) xM_89 (66, [some (.ref 14)], [], (shG X T, J, L, F)) Q := by
  have eo : ∀ o, sKf f n (sWd [101, 112, 115]) 3 k 0 = o → sO f n k 6 = (match o with | none => none | some i => if sTy f n i = 1 then some i else none) := by
    intro o ho
    subst ho
    rfl
  refine XC.block [78] 60 ?_
  refine cl_fk6 hF hG (q := 12) (t := 1) hV.2.1 hV.1 hV.2.2.1 (by decide) (by decide) rfl rfl (fun i e y => ?_) (fun i e y => ?_) (fun e => ?_)
  · have e2 : sO f n k 6 = some i := by rw [eo _ e]; exact if_pos y
    refine And.intro (fun z => absurd (show (1 : Int32) = 0 from z) (by decide)) (fun _ => ?_)
    have := hgo i e2
    rw [show sVk f n k 6 = sVa f n i by unfold sVk; rw [e2]] at this
    exact this
  · have e2 : sO f n k 6 = none := by rw [eo _ e]; exact if_neg y
    exact And.intro (fun _ => ⟨(show (0 : Int32) &&& 1 = 0 by decide), hb e2 _ (fun b k' h => x2_o _ _ (fun z => h z.1))⟩) (fun z => absurd (show (0 : Int32) = 0 from rfl) z)
  · have e2 : sO f n k 6 = none := by rw [eo _ e]
    exact And.intro (fun _ => ⟨(show (0 : Int32) &&& 1 = 0 by decide), hb e2 _ (fun b k' h => x2_o _ _ (fun z => h z.1))⟩) (fun z => absurd (show (0 : Int32) = 0 from rfl) z)
theorem cl_fs7 (hG : rfG f n) (hF : clF f n J) (hV : clV2 f n k J) (hgo : ∀ i, sO f n k 7 = some i → XC xE0 (d + 4) xM_89 (90, [some (.ref 14)], [], (shG X T, x2 J 15 13 (nI (sVk f n k 7)), L, F)) Q) (hb : sO f n k 7 = none → ∀ J', clW J J' → Q (some (.int 0)) (shG X T, J', L, F)) : XC xE0 (d + 4) xM_89 (78, [some (.ref 14)], [], (shG X T, J, L, F)) Q := by
  have eo : ∀ o, sKf f n (sWd [98, 97, 115, 101]) 4 k 0 = o → sO f n k 7 = (match o with | none => none | some i => if sTy f n i = 1 then some i else none) := by
    intro o ho
    subst ho
    rfl
  refine XC.block [90] 60 ?_
  refine cl_fk7 hF hG (q := 13) (t := 1) hV.2.1 hV.1 hV.2.2.1 (by decide) (by decide) rfl rfl (fun i e y => ?_) (fun i e y => ?_) (fun e => ?_)
  · have e2 : sO f n k 7 = some i := by rw [eo _ e]; exact if_pos y
    refine And.intro (fun z => absurd (show (1 : Int32) = 0 from z) (by decide)) (fun _ => ?_)
    have := hgo i e2
    rw [show sVk f n k 7 = sVa f n i by unfold sVk; rw [e2]] at this
    exact this
  · have e2 : sO f n k 7 = none := by rw [eo _ e]; exact if_neg y
    exact And.intro (fun _ => ⟨(show (0 : Int32) &&& 1 = 0 by decide), hb e2 _ (fun b k' h => x2_o _ _ (fun z => h z.1))⟩) (fun z => absurd (show (0 : Int32) = 0 from rfl) z)
  · have e2 : sO f n k 7 = none := by rw [eo _ e]
    exact And.intro (fun _ => ⟨(show (0 : Int32) &&& 1 = 0 by decide), hb e2 _ (fun b k' h => x2_o _ _ (fun z => h z.1))⟩) (fun z => absurd (show (0 : Int32) = 0 from rfl) z)
theorem cl_fs8 (hG : rfG f n) (hF : clF f n J) (hV : clV2 f n k J) (hgo : ∀ i, sO f n k 8 = some i → XC xE0 (d + 4) xM_89 (102, [some (.ref 14)], [], (shG X T, x2 J 15 6 (nI (sVk f n k 8)), L, F)) Q) (hb : sO f n k 8 = none → ∀ J', clW J J' → Q (some (.int 0)) (shG X T, J', L, F)) : XC xE0 (d + 4) xM_89 (90, [some (.ref 14)], [], (shG X T, J, L, F)) Q := by
  have eo : ∀ o, sKf f n (sWd [116, 111, 107, 101, 110, 115]) 6 k 0 = o → sO f n k 8 = (match o with | none => none | some i => if sTy f n i = 3 then some i else none) := by
    intro o ho
    subst ho
    rfl
  refine XC.block [102] 60 ?_
  refine cl_fk8 hF hG (q := 6) (t := 3) hV.2.1 hV.1 hV.2.2.1 (by decide) (by decide) rfl rfl (fun i e y => ?_) (fun i e y => ?_) (fun e => ?_)
  · have e2 : sO f n k 8 = some i := by rw [eo _ e]; exact if_pos y
    refine And.intro (fun z => absurd (show (1 : Int32) = 0 from z) (by decide)) (fun _ => ?_)
    have := hgo i e2
    rw [show sVk f n k 8 = sVa f n i by unfold sVk; rw [e2]] at this
    exact this
  · have e2 : sO f n k 8 = none := by rw [eo _ e]; exact if_neg y
    exact And.intro (fun _ => ⟨(show (0 : Int32) &&& 1 = 0 by decide), hb e2 _ (fun b k' h => x2_o _ _ (fun z => h z.1))⟩) (fun z => absurd (show (0 : Int32) = 0 from rfl) z)
  · have e2 : sO f n k 8 = none := by rw [eo _ e]
    exact And.intro (fun _ => ⟨(show (0 : Int32) &&& 1 = 0 by decide), hb e2 _ (fun b k' h => x2_o _ _ (fun z => h z.1))⟩) (fun z => absurd (show (0 : Int32) = 0 from rfl) z)
theorem cl_fs9 (hG : rfG f n) (hF : clF f n J) (hV : clV2 f n k J) (hgo : ∀ i, sO f n k 9 = some i → XC xE0 (d + 4) xM_89 (129, [some (.ref 14)], [], (shG X T, x2 J 15 7 (nI (sVk f n k 9)), L, F)) Q) (hb : sO f n k 9 = none → ∀ J', clW J J' → Q (some (.int 0)) (shG X T, J', L, F)) : XC xE0 (d + 4) xM_89 (117, [some (.ref 14)], [], (shG X T, J, L, F)) Q := by
  have eo : ∀ o, sKf f n (sWd [109, 101, 114, 103, 101, 115]) 6 k 0 = o → sO f n k 9 = (match o with | none => none | some i => if sTy f n i = 3 then some i else none) := by
    intro o ho
    subst ho
    rfl
  refine XC.block [129] 60 ?_
  refine cl_fk9 hF hG (q := 7) (t := 3) hV.2.1 hV.1 hV.2.2.1 (by decide) (by decide) rfl rfl (fun i e y => ?_) (fun i e y => ?_) (fun e => ?_)
  · have e2 : sO f n k 9 = some i := by rw [eo _ e]; exact if_pos y
    refine And.intro (fun z => absurd (show (1 : Int32) = 0 from z) (by decide)) (fun _ => ?_)
    have := hgo i e2
    rw [show sVk f n k 9 = sVa f n i by unfold sVk; rw [e2]] at this
    exact this
  · have e2 : sO f n k 9 = none := by rw [eo _ e]; exact if_neg y
    exact And.intro (fun _ => ⟨(show (0 : Int32) &&& 1 = 0 by decide), hb e2 _ (fun b k' h => x2_o _ _ (fun z => h z.1))⟩) (fun z => absurd (show (0 : Int32) = 0 from rfl) z)
  · have e2 : sO f n k 9 = none := by rw [eo _ e]
    exact And.intro (fun _ => ⟨(show (0 : Int32) &&& 1 = 0 by decide), hb e2 _ (fun b k' h => x2_o _ _ (fun z => h z.1))⟩) (fun z => absurd (show (0 : Int32) = 0 from rfl) z)
theorem cl_fs10 (hG : rfG f n) (hF : clF f n J) (hV : clV2 f n k J) (hgo : ∀ i, sO f n k 10 = some i → XC xE0 (d + 4) xM_89 (155, [some (.ref 14)], [], (shG X T, x2 J 15 8 (nI (sVk f n k 10)), L, F)) Q) (hb : sO f n k 10 = none → ∀ J', clW J J' → Q (some (.int 0)) (shG X T, J', L, F)) : XC xE0 (d + 4) xM_89 (143, [some (.ref 14)], [], (shG X T, J, L, F)) Q := by
  have eo : ∀ o, sKf f n (sWd [115, 116, 111, 112]) 4 k 0 = o → sO f n k 10 = (match o with | none => none | some i => if sTy f n i = 0 then some i else none) := by
    intro o ho
    subst ho
    rfl
  refine XC.block [155] 60 ?_
  refine cl_fk10 hF hG (q := 8) (t := 0) hV.2.1 hV.1 hV.2.2.1 (by decide) (by decide) rfl rfl (fun i e y => ?_) (fun i e y => ?_) (fun e => ?_)
  · have e2 : sO f n k 10 = some i := by rw [eo _ e]; exact if_pos y
    refine And.intro (fun z => absurd (show (1 : Int32) = 0 from z) (by decide)) (fun _ => ?_)
    have := hgo i e2
    rw [show sVk f n k 10 = sVa f n i by unfold sVk; rw [e2]] at this
    exact this
  · have e2 : sO f n k 10 = none := by rw [eo _ e]; exact if_neg y
    exact And.intro (fun _ => ⟨(show (0 : Int32) &&& 1 = 0 by decide), hb e2 _ (fun b k' h => x2_o _ _ (fun z => h z.1))⟩) (fun z => absurd (show (0 : Int32) = 0 from rfl) z)
  · have e2 : sO f n k 10 = none := by rw [eo _ e]
    exact And.intro (fun _ => ⟨(show (0 : Int32) &&& 1 = 0 by decide), hb e2 _ (fun b k' h => x2_o _ _ (fun z => h z.1))⟩) (fun z => absurd (show (0 : Int32) = 0 from rfl) z)
theorem cl_findKeys (hG : rfG f n) (hF : clF f n I) (hV : clV2 f n k I)
    (hok : sFnd f n k → sAok f n k → ∀ J', clW I J' → (∀ j, j < 11 → J' 15 ([0, 1, 2, 3, 4, 5, 12, 13, 6, 7, 8].getD j 0) = nI (sVk f n k j)) → J' 15 11 = sAva f n k → Q (some (.int 1)) (shG X T, J', L, F))
    (hbad : ¬ (sFnd f n k ∧ sAok f n k) → ∀ J', clW I J' → Q (some (.int 0)) (shG X T, J', L, F)) : XM xE0 (d + 4) 89 [.ref 14] (shG X T, I, L, F) Q := by
  have hn := hG.2
  show XC xE0 (d + 4) xM_89 (0, [some (.ref 14)], [], (shG X T, I, L, F)) Q
  have W0 : clW I I := fun _ _ _ => rfl
  have val : ∀ j i, sO f n k j = some i → ∃ e, sVal f n (sTs.getD j 0) (sVk f n k j) = .inr e := by
    intro j i e
    have hl := sKt_lt e
    refine ⟨sKey f n (i + 1), ?_⟩
    rw [show sVk f n k j = sVa f n i by unfold sVk; rw [e], ← hl.2]
    exact (hV.2.2.2 i hl.1).2
  refine cl_fs0 hG (hF.agW W0) (hV.ag W0) (fun i0 o0 => ?_) (fun e J' W' => hbad (fun z => z.1.1 0 (by decide) e) J' (fun b k' h => (W' b k' h).trans (W0 b k' h)))
  have W1 : clW I (x2 I 15 0 (nI (sVk f n k 0))) := W0.st
  refine cl_fs1 hG (hF.agW W1) (hV.ag W1) (fun i1 o1 => ?_) (fun e J' W' => hbad (fun z => z.1.1 1 (by decide) e) J' (fun b k' h => (W' b k' h).trans (W1 b k' h)))
  have W2 : clW I (x2 (x2 I 15 0 (nI (sVk f n k 0))) 15 1 (nI (sVk f n k 1))) := W1.st
  refine cl_fs2 hG (hF.agW W2) (hV.ag W2) (fun i2 o2 => ?_) (fun e J' W' => hbad (fun z => z.1.1 2 (by decide) e) J' (fun b k' h => (W' b k' h).trans (W2 b k' h)))
  have W3 : clW I (x2 (x2 (x2 I 15 0 (nI (sVk f n k 0))) 15 1 (nI (sVk f n k 1))) 15 2 (nI (sVk f n k 2))) := W2.st
  refine cl_fs3 hG (hF.agW W3) (hV.ag W3) (fun i3 o3 => ?_) (fun e J' W' => hbad (fun z => z.1.1 3 (by decide) e) J' (fun b k' h => (W' b k' h).trans (W3 b k' h)))
  have W4 : clW I (x2 (x2 (x2 (x2 I 15 0 (nI (sVk f n k 0))) 15 1 (nI (sVk f n k 1))) 15 2 (nI (sVk f n k 2))) 15 3 (nI (sVk f n k 3))) := W3.st
  refine cl_fs4 hG (hF.agW W4) (hV.ag W4) (fun i4 o4 => ?_) (fun e J' W' => hbad (fun z => z.1.1 4 (by decide) e) J' (fun b k' h => (W' b k' h).trans (W4 b k' h)))
  have W5 : clW I (x2 (x2 (x2 (x2 (x2 I 15 0 (nI (sVk f n k 0))) 15 1 (nI (sVk f n k 1))) 15 2 (nI (sVk f n k 2))) 15 3 (nI (sVk f n k 3))) 15 4 (nI (sVk f n k 4))) := W4.st
  refine cl_fs5 hG (hF.agW W5) (hV.ag W5) (fun i5 o5 => ?_) (fun e J' W' => hbad (fun z => z.1.1 5 (by decide) e) J' (fun b k' h => (W' b k' h).trans (W5 b k' h)))
  have W6 : clW I (x2 (x2 (x2 (x2 (x2 (x2 I 15 0 (nI (sVk f n k 0))) 15 1 (nI (sVk f n k 1))) 15 2 (nI (sVk f n k 2))) 15 3 (nI (sVk f n k 3))) 15 4 (nI (sVk f n k 4))) 15 5 (nI (sVk f n k 5))) := W5.st
  refine cl_fs6 hG (hF.agW W6) (hV.ag W6) (fun i6 o6 => ?_) (fun e J' W' => hbad (fun z => z.1.1 6 (by decide) e) J' (fun b k' h => (W' b k' h).trans (W6 b k' h)))
  have W7 : clW I (x2 (x2 (x2 (x2 (x2 (x2 (x2 I 15 0 (nI (sVk f n k 0))) 15 1 (nI (sVk f n k 1))) 15 2 (nI (sVk f n k 2))) 15 3 (nI (sVk f n k 3))) 15 4 (nI (sVk f n k 4))) 15 5 (nI (sVk f n k 5))) 15 12 (nI (sVk f n k 6))) := W6.st
  refine cl_fs7 hG (hF.agW W7) (hV.ag W7) (fun i7 o7 => ?_) (fun e J' W' => hbad (fun z => z.1.1 7 (by decide) e) J' (fun b k' h => (W' b k' h).trans (W7 b k' h)))
  have W8 : clW I (x2 (x2 (x2 (x2 (x2 (x2 (x2 (x2 I 15 0 (nI (sVk f n k 0))) 15 1 (nI (sVk f n k 1))) 15 2 (nI (sVk f n k 2))) 15 3 (nI (sVk f n k 3))) 15 4 (nI (sVk f n k 4))) 15 5 (nI (sVk f n k 5))) 15 12 (nI (sVk f n k 6))) 15 13 (nI (sVk f n k 7))) := W7.st
  refine cl_fs8 hG (hF.agW W8) (hV.ag W8) (fun i8 o8 => ?_) (fun e J' W' => hbad (fun z => z.1.1 8 (by decide) e) J' (fun b k' h => (W' b k' h).trans (W8 b k' h)))
  have W9 : clW I (x2 (x2 (x2 (x2 (x2 (x2 (x2 (x2 (x2 I 15 0 (nI (sVk f n k 0))) 15 1 (nI (sVk f n k 1))) 15 2 (nI (sVk f n k 2))) 15 3 (nI (sVk f n k 3))) 15 4 (nI (sVk f n k 4))) 15 5 (nI (sVk f n k 5))) 15 12 (nI (sVk f n k 6))) 15 13 (nI (sVk f n k 7))) 15 6 (nI (sVk f n k 8))) := W8.st
  obtain ⟨v8, q8⟩ := val 8 i8 o8
  have q8 : sA1 f n (sVk f n k 8) = .inr v8 := q8
  have l8 := sA1_le q8
  refine XC.block [117] 60 ?_
  refine And.intro (rf_in (j := 6) rfl (by decide) (by decide)) ?_
  refine cl_isArr (hF.agW W9) hG (p := sVk f n k 8) (t := 2) (by omega) (by decide) rfl rfl (fun a8 => ?_) (fun a8 => ?_)
  · refine And.intro (fun z => absurd (show (1 : Int32) = 0 from z) (by decide)) (fun _ => ?_)
    refine cl_fs9 hG (hF.agW W9) (hV.ag W9) (fun i9 o9 => ?_) (fun e J' W' => hbad (fun z => z.1.1 9 (by decide) e) J' (fun b k' h => (W' b k' h).trans (W9 b k' h)))
    have W10 : clW I (x2 (x2 (x2 (x2 (x2 (x2 (x2 (x2 (x2 (x2 I 15 0 (nI (sVk f n k 0))) 15 1 (nI (sVk f n k 1))) 15 2 (nI (sVk f n k 2))) 15 3 (nI (sVk f n k 3))) 15 4 (nI (sVk f n k 4))) 15 5 (nI (sVk f n k 5))) 15 12 (nI (sVk f n k 6))) 15 13 (nI (sVk f n k 7))) 15 6 (nI (sVk f n k 8))) 15 7 (nI (sVk f n k 9))) := W9.st
    obtain ⟨v9, q9⟩ := val 9 i9 o9
    have q9 : sA1 f n (sVk f n k 9) = .inr v9 := q9
    refine XC.block [143] 60 ?_
    refine And.intro (rf_in (j := 7) rfl (by decide) (by decide)) ?_
    refine cl_arrNum (hF.agW W10) hG (p := sVk f n k 9) q9 rfl (fun a9 t9 => ?_) (fun a9 => ?_)
    · refine And.intro (fun z => absurd (show (1 : Int32) = 0 from z) (by decide)) (fun _ => ?_)
      have hTF : sTF f (sVk f n k 8) (sVk f n k 9) = true := by
        unfold sTF
        rw [if_neg (by omega)]
        exact t9
      refine cl_fs10 hG (hF.agW W10) (hV.ag W10) (fun i10 o10 => ?_) (fun e J' W' => hbad (fun z => z.1.1 10 (by decide) e) J' (fun b k' h => (W' b k' h).trans (W10 b k' h)))
      have W11 : clW I (x2 (x2 (x2 (x2 (x2 (x2 (x2 (x2 (x2 (x2 (x2 I 15 0 (nI (sVk f n k 0))) 15 1 (nI (sVk f n k 1))) 15 2 (nI (sVk f n k 2))) 15 3 (nI (sVk f n k 3))) 15 4 (nI (sVk f n k 4))) 15 5 (nI (sVk f n k 5))) 15 12 (nI (sVk f n k 6))) 15 13 (nI (sVk f n k 7))) 15 6 (nI (sVk f n k 8))) 15 7 (nI (sVk f n k 9))) 15 8 (nI (sVk f n k 10))) := W10.st
      have hf : sFnd f n k := by
        refine ⟨fun j hj => ?_, hTF⟩
        match j, hj with
        | 0, _ => rw [o0]; exact fun z => by cases z
        | 1, _ => rw [o1]; exact fun z => by cases z
        | 2, _ => rw [o2]; exact fun z => by cases z
        | 3, _ => rw [o3]; exact fun z => by cases z
        | 4, _ => rw [o4]; exact fun z => by cases z
        | 5, _ => rw [o5]; exact fun z => by cases z
        | 6, _ => rw [o6]; exact fun z => by cases z
        | 7, _ => rw [o7]; exact fun z => by cases z
        | 8, _ => rw [o8]; exact fun z => by cases z
        | 9, _ => rw [o9]; exact fun z => by cases z
        | 10, _ => rw [o10]; exact fun z => by cases z
        | j + 11, h => exact absurd h (by omega)
      have fin : ∀ J', J' = x2 (x2 (x2 (x2 (x2 (x2 (x2 (x2 (x2 (x2 (x2 (x2 I 15 0 (nI (sVk f n k 0))) 15 1 (nI (sVk f n k 1))) 15 2 (nI (sVk f n k 2))) 15 3 (nI (sVk f n k 3))) 15 4 (nI (sVk f n k 4))) 15 5 (nI (sVk f n k 5))) 15 12 (nI (sVk f n k 6))) 15 13 (nI (sVk f n k 7))) 15 6 (nI (sVk f n k 8))) 15 7 (nI (sVk f n k 9))) 15 8 (nI (sVk f n k 10))) 15 11 (sAva f n k) → sAok f n k → Q (some (.int 1)) (shG X T, J', L, F) := by
        intro J' hJ ha
        subst hJ
        refine hok hf ha _ W11.st (fun j hj => ?_) rfl
        match j, hj with
        | 0, _ => rfl
        | 1, _ => rfl
        | 2, _ => rfl
        | 3, _ => rfl
        | 4, _ => rfl
        | 5, _ => rfl
        | 6, _ => rfl
        | 7, _ => rfl
        | 8, _ => rfl
        | 9, _ => rfl
        | 10, _ => rfl
        | j + 11, h => exact absurd h (by omega)
      have V11 := hV.ag W11
      refine XC.block [] 60 ?_
      refine cl_fk11 (hF.agW W11) hG (q := 11) (t := 0) V11.2.1 V11.1 V11.2.2.1 (by decide) (by decide) rfl rfl (fun i e y => ?_) (fun i e y => ?_) (fun e => ?_)
      · refine And.intro (fun _ => ⟨(show (1 : Int32) &&& 1 = 1 by decide), fin _ ?_ ?_⟩) (fun z => absurd (show ¬ (1 : Int32) = 0 by decide) z)
        · rw [show sAva f n k = nI (sVa f n i) by unfold sAva; rw [show sKf f n (sWd sWa) 5 k 0 = some i from e]]
        · intro i2 e2
          have e2 : some i = some i2 := e.symm.trans e2
          injection e2 with e2
          subst e2
          exact y
      · refine And.intro (fun z => absurd (show (0 : Int32) = 0 from rfl) z) (fun _ => ?_)
        have hl := sKf_lt _ _ _ e
        have p4 := (hV.2.2.1 i (by omega)).2.2.2
        have hVi : sVa f n i < 2 ^ 31 := by
          have : sVa f n i = sKey f n i + 2 + f (sKey f n i) := rfl
          omega
        refine And.intro (rf_in (j := 11) rfl (by decide) (by decide)) ?_
        refine And.intro (fun z => ⟨(show (0 : Int32) &&& 1 = 0 by decide), hbad (fun w => y (w.2 i e)) _ W11.st⟩) (fun z => absurd (show 0 ≤ nI (sVa f n i) from nI_pos' hVi) z)
      · refine And.intro (fun z => absurd (show (0 : Int32) = 0 from rfl) z) (fun _ => ?_)
        refine And.intro (rf_in (j := 11) rfl (by decide) (by decide)) ?_
        refine And.intro (fun z => absurd (show (0 : Int32) ≤ -1 from z) (by decide)) (fun _ => ⟨(show (1 : Int32) &&& 1 = 1 by decide), fin _ ?_ ?_⟩)
        · rw [show sAva f n k = -1 by unfold sAva; rw [show sKf f n (sWd sWa) 5 k 0 = none from e]]
        · intro i2 e2
          have e2 : none = some i2 := e.symm.trans e2
          cases e2
    · refine And.intro (fun _ => ⟨(show (0 : Int32) &&& 1 = 0 by decide), hbad (fun w => a9 ?_) _ W10⟩) (fun z => absurd (show (0 : Int32) = 0 from rfl) z)
      have ht := w.1.2
      unfold sTF at ht
      split at ht
      · cases ht
      · rename_i hc
        exact ⟨by omega, ht⟩
  · refine And.intro (fun _ => ⟨(show (0 : Int32) &&& 1 = 0 by decide), hbad (fun w => a8 ?_) _ W9⟩) (fun z => absurd (show (0 : Int32) = 0 from rfl) z)
    have ht := w.1.2
    unfold sTF at ht
    split at ht
    · cases ht
    · rename_i hc
      omega
end CLG
