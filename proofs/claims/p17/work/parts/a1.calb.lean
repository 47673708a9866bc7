theorem pk_andI (x : Nat) : nI x &&& 255 = nI (x % 256) := by
  rw [pk_and (nI x) (m := 255) 8 (by decide)]
  congr 1
  show x % 2 ^ 32 % 256 = x % 256
  omega
/-! the calls of the class on paper: those that need a MODEL -/
theorem sNum_dig {c : Nat → Nat} : ∀ (m p i : Nat), i < m → (∀ j, c j < 256) → sNum c p m / 256 ^ i % 256 = c (p + i)
  | 0, _, _, h, _ => absurd h (Nat.not_lt_zero _)
  | m + 1, p, 0, _, hc => by
    show (c p + 256 * sNum c (p + 1) m) / 1 % 256 = c p
    have := hc p
    omega
  | m + 1, p, i + 1, h, hc => by
    have ih := sNum_dig m (p + 1) i (by omega) hc
    show (c p + 256 * sNum c (p + 1) m) / 256 ^ (i + 1) % 256 = c (p + (i + 1))
    rw [Nat.pow_succ, Nat.mul_comm (256 ^ i) 256, ← Nat.div_div_eq_div_mul, show (c p + 256 * sNum c (p + 1) m) / 256 = sNum c (p + 1) m by have := hc p; omega, ih, show p + 1 + i = p + (i + 1) by omega]
theorem sNum_extB {c c' : Nat → Nat} : ∀ (m p : Nat), (∀ j, j < p + m → c j = c' j) → sNum c p m = sNum c' p m
  | 0, _, _ => rfl
  | m + 1, p, h => by
    show c p + 256 * sNum c (p + 1) m = c' p + 256 * sNum c' (p + 1) m
    rw [h p (by omega), sNum_extB m (p + 1) (fun j hj => h j (by omega))]
theorem mTw_dig {M : pMd} (hm : mGd M) {t i : Nat} (ht : t < mFa M 6) (hi : i < mTl M t) : mTw M t / 256 ^ i % 256 = mTc M t i := by
  have w := hm.2.2.2.2.1 t ht
  have e : sNum (mTc M t) 0 (mTl M t) = sNum (fun j => if j < mTl M t then mTc M t j else 0) 0 (mTl M t) := sNum_extB _ _ (fun j hj => (if_pos (show j < mTl M t by omega)).symm)
  have dg := sNum_dig (c := fun j => if j < mTl M t then mTc M t j else 0) (mTl M t) 0 i hi (fun j => by
    show (if j < mTl M t then mTc M t j else 0) < 256
    split
    · rename_i y; exact w.2 j y
    · decide)
  rw [← e, Nat.zero_add] at dg
  have dg : sNum (mTc M t) 0 (mTl M t) / 256 ^ i % 256 = (if i < mTl M t then mTc M t i else 0) := dg
  rw [if_pos hi] at dg
  rw [← dg]
  unfold mTw
  have i4 : i < 4 := by omega
  have : i = 0 ∨ i = 1 ∨ i = 2 ∨ i = 3 := by omega
  rcases this with rfl | rfl | rfl | rfl
  · show (mTl M t * 2 ^ 32 + sNum (mTc M t) 0 (mTl M t)) / 1 % 256 = sNum (mTc M t) 0 (mTl M t) / 1 % 256
    omega
  · show (mTl M t * 2 ^ 32 + sNum (mTc M t) 0 (mTl M t)) / 256 % 256 = sNum (mTc M t) 0 (mTl M t) / 256 % 256
    omega
  · show (mTl M t * 2 ^ 32 + sNum (mTc M t) 0 (mTl M t)) / 65536 % 256 = sNum (mTc M t) 0 (mTl M t) / 65536 % 256
    omega
  · show (mTl M t * 2 ^ 32 + sNum (mTc M t) 0 (mTl M t)) / 16777216 % 256 = sNum (mTc M t) 0 (mTl M t) / 16777216 % 256
    omega
theorem cl_shrB {x i : Nat} (hx : x < 2 ^ 63) (hi : i < 4) : ((lN x).toUInt64 >>> ((8 * nI i).toInt64.toUInt64 &&& Int64.toUInt64 63)).toInt64.toInt32 &&& 255 = nI (x / 256 ^ i % 256) := by
  have h2 : (lN x).toUInt64.toNat = x := by
    show x % 2 ^ 64 = x
    omega
  have e : ((8 * nI i).toInt64.toUInt64 &&& Int64.toUInt64 63).toNat % 64 = 8 * i := by
    have : i = 0 ∨ i = 1 ∨ i = 2 ∨ i = 3 := by omega
    rcases this with rfl | rfl | rfl | rfl <;> decide
  have e2 : ((lN x).toUInt64 >>> ((8 * nI i).toInt64.toUInt64 &&& Int64.toUInt64 63)).toInt64 = lN (x / 256 ^ i) := by
    apply Int64.toBitVec_inj.mp
    apply BitVec.eq_of_toNat_eq
    show ((lN x).toUInt64 >>> ((8 * nI i).toInt64.toUInt64 &&& Int64.toUInt64 63)).toNat = (x / 256 ^ i) % 2 ^ 64
    rw [UInt64.toNat_shiftRight, h2, e, Nat.shiftRight_eq_div_pow, Nat.pow_mul]
    have : x / 256 ^ i ≤ x := Nat.div_le_self _ _
    rw [show (2 ^ 8 : Nat) = 256 from rfl]
    exact (Nat.mod_eq_of_lt (Nat.lt_of_le_of_lt this (Nat.lt_of_lt_of_le hx (by decide)))).symm
  rw [e2, lN_i]
  exact pk_andI (x / 256 ^ i)
section CAB_a
variable {X : List (Option Nat)} {T : List xS} {M : pMd} {I J : Nat → Nat → Int32} {L : Nat → Nat → Int64} {F G : Nat → Nat → UInt32} {d : Nat} {Q : xP} {s0 : Option Nat}
theorem cl_fact_a (hM : clMd_a M I L F) {a : Int32} (h1 : ∀ k, k < 12 → a = nI k → Q (some (.int (nI (mFa M k)))) (shG (clXX (some 38) s0) (md1 T), I, L, F)) (h2 : ¬ rgI a 12 → Q (some (.int (-1))) (shG (clXX (some 38) s0) (md1 T), I, L, F)) : XM xE0 d 8 [.ref 0, .int a] (shG (clXX (some 38) s0) (md1 T), I, L, F) Q := by
  by_cases hr : a < 0 ∨ ¬ a < 12
  · have q := h2 (rgNo (N := 12) (by decide) hr)
    refine XC.block [] 60 ?_
    refine And.intro (fun z => ⟨trivial, q⟩) (fun z1 => ?_)
    exact And.intro (fun z2 => absurd hr (fun w => w.elim z1 (fun v => v z2))) (fun z => ⟨trivial, q⟩)
  · have r1 : ¬ a < 0 := fun z => hr (Or.inl z)
    have r2 : a < 12 := Decidable.byContradiction (fun z => hr (Or.inr z))
    obtain ⟨k, hk, ea⟩ := rgL (N := 12) (by decide) r1 r2
    have vin : vp_in a 12 := rf_in ea hk (by decide)
    have q : Q (some (.int (I 39 a.toNatClampNeg))) (shG (clXX (some 38) s0) (md1 T), I, L, F) := by
      rw [show a.toNatClampNeg = k by rw [ea, nI_clamp (by omega)], hM.1 k hk]
      exact h1 k hk ea
    refine XC.block [] 60 ?_
    refine And.intro (fun z => absurd z r1) (fun z1 => ?_)
    refine And.intro (fun z2 => ?_) (fun z => absurd r2 z)
    exact And.intro vin ⟨trivial, q⟩
theorem cl_has_a (hM : clMd_a M I L F) (hm : mGd M) {a b c : Int32} (h1 : ∀ t r k, t < mFa M 10 → r < mRo M t → k < mCo M t → a = nI t → b = nI r → c = nI k → Q (some (.int 1)) (shG X (md1 T), I, L, F)) (h2 : ¬ (rgI a (mFa M 10) ∧ ∀ t, a = nI t → t < mFa M 10 → rgI b (mRo M t) ∧ rgI c (mCo M t)) → Q (some (.int 0)) (shG X (md1 T), I, L, F)) : XM xE0 d 156 [.ref 45, .int a, .int b, .int c] (shG X (md1 T), I, L, F) Q := by
  have h10 := hm.1.2.2.2.2.2.2.2.2.2
  have e10 : I 45 5 = nI (mFa M 10) := hM.2.2.1
  by_cases hr : a < 0 ∨ I 45 5 ≤ a
  · have q := h2 (fun w => rgNo (N := mFa M 10) (by omega) (hr.elim Or.inl (fun z => Or.inr (by rw [← e10]; exact Int32.not_lt.mpr z))) w.1)
    refine XC.block [] 60 ?_
    refine And.intro (fun z => ⟨by decide, q⟩) (fun z1 => ?_)
    exact And.intro (fun z => ⟨by decide, q⟩) (fun z2 => absurd hr (fun w => w.elim z1 z2))
  · have r1 : ¬ a < 0 := fun z => hr (Or.inl z)
    have r2 : ¬ I 45 5 ≤ a := fun z => hr (Or.inr z)
    obtain ⟨t, ht, ea⟩ := rgL (N := mFa M 10) (by omega) r1 (by rw [← e10]; exact Int32.not_le.mp r2)
    obtain ⟨t1, t2, t3, t4⟩ := hm.2.1 t ht
    have ta : a.toNatClampNeg = t := by rw [ea, nI_clamp (by omega)]
    have vin : vp_in a 24 := rf_in ea (by omega) (by decide)
    have e48 : I 48 a.toNatClampNeg = nI (mRo M t) := by rw [ta]; exact (hM.2.2.2.2.2.2.2.1 t ht).2.1
    have e47 : I 47 a.toNatClampNeg = nI (mCo M t) := by rw [ta]; exact (hM.2.2.2.2.2.2.2.1 t ht).1
    by_cases hb : b < 0 ∨ I 48 a.toNatClampNeg ≤ b
    · have q := h2 (fun w => rgNo (N := mRo M t) (by omega) (hb.elim Or.inl (fun z => Or.inr (by rw [← e48]; exact Int32.not_lt.mpr z))) (w.2 t ea ht).1)
      refine XC.block [] 60 ?_
      refine And.intro (fun z => absurd z r1) (fun z1 => ?_)
      refine And.intro (fun z => absurd z r2) (fun z2 => ?_)
      refine And.intro (fun z => ⟨by decide, q⟩) (fun z3 => ?_)
      refine And.intro vin ?_
      exact And.intro (fun z => ⟨by decide, q⟩) (fun z4 => absurd hb (fun w => w.elim z3 z4))
    · have r3 : ¬ b < 0 := fun z => hb (Or.inl z)
      have r4 : ¬ I 48 a.toNatClampNeg ≤ b := fun z => hb (Or.inr z)
      obtain ⟨r, hrr, eb⟩ := rgL (N := mRo M t) (by omega) r3 (by rw [← e48]; exact Int32.not_le.mp r4)
      by_cases hc : c < 0 ∨ I 47 a.toNatClampNeg ≤ c
      · have q := h2 (fun w => rgNo (N := mCo M t) (by omega) (hc.elim Or.inl (fun z => Or.inr (by rw [← e47]; exact Int32.not_lt.mpr z))) (w.2 t ea ht).2)
        refine XC.block [] 60 ?_
        refine And.intro (fun z => absurd z r1) (fun z1 => ?_)
        refine And.intro (fun z => absurd z r2) (fun z2 => ?_)
        refine And.intro (fun z => absurd z r3) (fun z3 => ?_)
        refine And.intro vin ?_
        refine And.intro (fun z => absurd z r4) (fun z4 => ?_)
        refine And.intro (fun z => ⟨by decide, q⟩) (fun z5 => ?_)
        refine And.intro vin ?_
        exact And.intro (fun z => ⟨by decide, q⟩) (fun z6 => absurd hc (fun w => w.elim z5 z6))
      · have r5 : ¬ c < 0 := fun z => hc (Or.inl z)
        have r6 : ¬ I 47 a.toNatClampNeg ≤ c := fun z => hc (Or.inr z)
        obtain ⟨k, hk, ec⟩ := rgL (N := mCo M t) (by omega) r5 (by rw [← e47]; exact Int32.not_le.mp r6)
        have q := h1 t r k ht hrr hk ea eb ec
        refine XC.block [] 60 ?_
        refine And.intro (fun z => absurd z r1) (fun z1 => ?_)
        refine And.intro (fun z => absurd z r2) (fun z2 => ?_)
        refine And.intro (fun z => absurd z r3) (fun z3 => ?_)
        refine And.intro vin ?_
        refine And.intro (fun z => absurd z r4) (fun z4 => ?_)
        refine And.intro (fun z => absurd z r5) (fun z5 => ?_)
        refine And.intro vin ?_
        exact And.intro (fun z => absurd z r6) (fun z6 => ⟨by decide, q⟩)
theorem cl_weight_a (hM : clMd_a M I L F) (hm : mGd M) {a b c : Int32} (h1 : ∀ t r k, t < mFa M 10 → r < mRo M t → k < mCo M t → a = nI t → b = nI r → c = nI k → Q (some (.int (mWa M t r k))) (shG (clXX (some 38) s0) (md1 T), I, L, F)) (h2 : ¬ (rgI a (mFa M 10) ∧ ∀ t, a = nI t → t < mFa M 10 → rgI b (mRo M t) ∧ rgI c (mCo M t)) → Q (some (.int (-1))) (shG (clXX (some 38) s0) (md1 T), I, L, F)) : XM xE0 (d + 1) 9 [.ref 0, .int a, .int b, .int c] (shG (clXX (some 38) s0) (md1 T), I, L, F) Q := by
  have go : ∀ t r k, t < mFa M 10 → r < mRo M t → k < mCo M t → vf_n32 (FP.fmul (mWt M t (r * mCo M t + k)) 1199570944) := fun t r k ht hr hk => by
    obtain ⟨t1, t2, t3, t4⟩ := hm.2.1 t ht
    have lt : r * mCo M t + k < mCo M t * mRo M t := by
      refine Nat.lt_of_lt_of_le (Nat.add_lt_add_left hk _) ?_
      rw [← Nat.succ_mul, Nat.mul_comm]
      exact Nat.mul_le_mul_left _ hr
    exact (fWa (t4 _ lt)).n32
  refine XC.block [] 60 ?_
  refine cl_has_a hM hm (fun t r k ht hr hk ea eb ec => ?_) (fun z => ?_)
  · refine And.intro (fun _ => ?_) (fun z => absurd (show ¬ (1 : Int32) = 0 by decide) z)
    refine cl_att_a hM hm ht hr hk ea eb ec ?_
    exact And.intro (go t r k ht hr hk) ⟨trivial, h1 t r k ht hr hk ea eb ec⟩
  · exact And.intro (fun w => absurd (show (0 : Int32) = 0 from rfl) w) (fun _ => ⟨trivial, h2 z⟩)
theorem cl_isTok_a {N : Nat} (hN : N ≤ 16) (e6 : I 39 6 = nI N) {a : Int32} (h1 : ∀ k, k < N → a = nI k → Q (some (.int 1)) (shG X (md1 T), I, L, F)) (h2 : ¬ rgI a N → Q (some (.int 0)) (shG X (md1 T), I, L, F)) : XM xE0 d 116 [.ref 38, .int a] (shG X (md1 T), I, L, F) Q := by
  have v6 : vp_in (6 : Int32) 12 := rf_in (j := 6) rfl (by decide) (by decide)
  by_cases hr : a < 0 ∨ I 39 6 ≤ a
  · have q := h2 (rgNo (N := N) (by omega) (hr.elim Or.inl (fun z => Or.inr (by rw [← e6]; exact Int32.not_lt.mpr z))))
    refine XC.block [] 60 ?_
    refine And.intro (fun z => ⟨by decide, q⟩) (fun z1 => ?_)
    refine And.intro v6 ?_
    exact And.intro (fun z => ⟨by decide, q⟩) (fun z2 => absurd hr (fun w => w.elim z1 z2))
  · have r1 : ¬ a < 0 := fun z => hr (Or.inl z)
    have r2 : ¬ I 39 6 ≤ a := fun z => hr (Or.inr z)
    obtain ⟨k, hk, ea⟩ := rgL (N := N) (by omega) r1 (by rw [← e6]; exact Int32.not_le.mp r2)
    have q := h1 k hk ea
    refine XC.block [] 60 ?_
    refine And.intro (fun z => absurd z r1) (fun z1 => ?_)
    refine And.intro v6 ?_
    exact And.intro (fun z => absurd z r2) (fun z2 => ⟨by decide, q⟩)
theorem cl_octetOf_a (hM : clMd_a M I L F) (hm : mGd M) {a b : Int32} {t : Nat} (ht : t < mFa M 6) (ea : a = nI t) (h1 : ∀ j, j < mTl M t → b = nI j → Q (some (.int (nI (mTc M t j)))) (shG X (md1 T), I, L, F)) (h2 : ¬ rgI b (mTl M t) → Q (some (.int (-1))) (shG X (md1 T), I, L, F)) : XM xE0 (d + 1) 169 [.ref 40, .int a, .int b] (shG X (md1 T), I, L, F) Q := by
  have h6 := hm.1.2.2.2.2.2.2.1
  have w := hm.2.2.2.2.1 t ht
  have lt := mTw_lt hm ht
  have lt63 : mTw M t < 2 ^ 63 := Nat.lt_trans lt.2 (by decide)
  have eL : L 41 t = lN (mTw M t) := hM.2.2.2.2.1 t ht
  have el : mTw M t / 2 ^ 32 = mTl M t := by
    have := lt.1
    unfold mTw
    omega
  have ta : a.toNatClampNeg = t := by rw [ea, nI_clamp (by omega)]
  have ain : vp_in a 16 := rf_in ea (by omega) (by decide)
  by_cases hr : b < 0
  · have q := h2 (fun w => w.1 hr)
    refine XC.block [] 60 ?_
    exact And.intro (fun z => ⟨trivial, q⟩) (fun z1 => absurd hr z1)
  · have go : ∀ v, v = nI (mTw M t / 2 ^ 32) → b < v → vp_in a 16 ∧ Q (some (.int (((L 41 a.toNatClampNeg).toUInt64 >>> ((8 * b).toInt64.toUInt64 &&& Int64.toUInt64 63)).toInt64.toInt32 &&& 255))) (shG X (md1 T), I, L, F) := by
      intro v ev hv
      rw [ev, el] at hv
      obtain ⟨j, hj, eb⟩ := rgL (N := mTl M t) (by omega) hr hv
      refine ⟨ain, ?_⟩
      rw [ta, eL, eb, cl_shrB lt63 (by omega), mTw_dig hm ht hj]
      exact h1 j hj eb
    have no : ∀ v, v = nI (mTw M t / 2 ^ 32) → ¬ b < v → Q (some (.int (-1))) (shG X (md1 T), I, L, F) := by
      intro v ev hv
      rw [ev, el] at hv
      exact h2 (rgNo (by omega) (Or.inr hv))
    refine XC.block [] 60 ?_
    refine And.intro (fun z => absurd z hr) (fun z1 => ?_)
    refine cl_len_a (w := mTw M) (i := t) (by omega) eL lt63 ea (fun v ev => ?_)
    refine And.intro (fun z => ?_) (fun z => ⟨trivial, no v ev z⟩)
    have g := go v ev z
    exact And.intro g.1 ⟨trivial, g.2⟩
theorem cl_letter_a (hM : clMd_a M I L F) (hm : mGd M) {a b : Int32} (h1 : ∀ t j, t < mFa M 6 → j < mTl M t → a = nI t → b = nI j → Q (some (.int (nI (mTc M t j)))) (shG (clXX (some 38) s0) (md1 T), I, L, F)) (h2 : ¬ (rgI a (mFa M 6) ∧ ∀ t, a = nI t → t < mFa M 6 → rgI b (mTl M t)) → Q (some (.int (-1))) (shG (clXX (some 38) s0) (md1 T), I, L, F)) : XM xE0 (d + 2) 13 [.ref 0, .int a, .int b] (shG (clXX (some 38) s0) (md1 T), I, L, F) Q := by
  have h6 := hm.1.2.2.2.2.2.2.1
  refine XC.block [] 60 ?_
  refine cl_isTok_a h6.2 (hM.1 6 (by decide)) (fun t ht ea => ?_) (fun z => ?_)
  · refine And.intro (fun _ => ?_) (fun z => absurd (show ¬ (1 : Int32) = 0 by decide) z)
    exact cl_octetOf_a hM hm ht ea (fun j hj eb => ⟨trivial, h1 t j ht hj ea eb⟩) (fun z => ⟨trivial, h2 (fun w => z (w.2 t ea ht))⟩)
  · exact And.intro (fun w => absurd (show (0 : Int32) = 0 from rfl) w) (fun _ => ⟨trivial, h2 (fun w => z w.1)⟩)
theorem cl_encode_a (hM : clMd_a M I L F) (hm : mGd M) {x : Nat → Nat} {n : Nat} (hx : ∀ k, x k < 256) (hn : n ≤ 24) (hT : clTx x n I)
    (hQ : ∀ J, clEJ I J → clEn (mFa M 6) (pEc M x n).1 (pEc M x n).2 J → Q (some (.int (nI (pEc M x n).2))) (shG (clXX (some 38) s0) (md1 T), x2 J 3 1 0, L, F)) : XM xE0 (d + 3) 11 [.ref 0] (shG (clXX (some 38) s0) (md1 T), I, L, F) Q := by
  have fin : ∀ J, clEJ I J → clEn (mFa M 6) (pEc M x n).1 (pEc M x n).2 J → Q (some (.int (x2 J 3 1 0 16 1))) (shG (clXX (some 38) s0) (md1 T), x2 J 3 1 0, L, F) := fun J D E => by
    rw [x2_o _ _ (by omega), E.2.2.1]
    exact hQ J D E
  refine XC.block [] 60 ?_
  refine cl_tit_a hM hm hx hn hT (fun J D E => ?_)
  exact ⟨trivial, fin J D E⟩
theorem cl_step_a (hM : clMd_a M I L F) (hm : mGd M) {s : Nat} {K V : Nat → Nat → Nat → UInt32} (hs : s ≤ 60) (h60 : I 18 10 = nI s) (hKV : clKV K V F) {aa : Int32}
    (hrf : ¬ rgI aa (mFa M 6) → Q (some (.int (-1))) (shG (clXX (some 38) s0) (md1 T), I, L, F))
    (hfl : s = 60 → rgI aa (mFa M 6) → Q (some (.int (-2))) (shG (clXX (some 38) s0) (md1 T), I, L, F))
    (hgo : s < 60 → ∀ t, t < mFa M 6 → aa = nI t → ∀ G, (∀ b k, ¬ (19 ≤ b ∧ b ≤ 32) → G b k = F b k) → clKV (pKs M s t K V) (pVs M s t K V) G → (∀ i, i < mFa M 6 → G 26 i = pLo M s t K V i ∧ fB 172 (G 26 i)) → Q (some (.int (nI s))) (shG (clXX (some 38) s0) (md1 T), x2 I 18 10 (nI (s + 1)), L, G)) : XM xE0 (d + 5) 14 [.ref 0, .int aa] (shG (clXX (some 38) s0) (md1 T), I, L, F) Q := by
  have h6 := hm.1.2.2.2.2.2.2.1
  have c60 : I 18 10 < 60 ↔ s < 60 := by rw [h60, show (60 : Int32) = nI 60 from rfl, nI_ltI (by omega) (by decide)]
  have full : ∀ t, t < mFa M 6 → aa = nI t → ¬ I 18 10 < 60 → Q (some (.int (-2))) (shG (clXX (some 38) s0) (md1 T), I, L, F) := fun t ht ea z => hfl (by have : ¬ s < 60 := fun w => z (c60.mpr w); omega) ⟨by rw [ea]; exact nI_pos (by omega), by rw [ea, nI_p1 (by omega)]; exact nI_le (by omega) (by omega)⟩
  refine XC.block [] 60 ?_
  refine cl_isTok_a h6.2 (hM.1 6 (by decide)) (fun t ht ea => ?_) (fun z => ?_)
  · refine And.intro (fun _ => ?_) (fun z => absurd (show ¬ (1 : Int32) = 0 by decide) z)
    refine And.intro (fun z => ?_) (fun z => ⟨trivial, full t ht ea z⟩)
    exact cl_advance_a hM hm (c60.mp z) h60 hKV ht ea (fun G D kv lo => ⟨trivial, hgo (c60.mp z) t ht ea G D kv lo⟩)
  · exact And.intro (fun w => absurd (show (0 : Int32) = 0 from rfl) w) (fun _ => ⟨trivial, hrf z⟩)
theorem cl_noLog_a {s : Nat} (hs : s ≤ 60) (h60 : I 18 10 = nI s) (h0 : s = 0 → Q (some (.int 1)) (shG (clXX (some 38) s0) (md1 T), I, L, F)) (h1 : 0 < s → Q (some (.int 0)) (shG (clXX (some 38) s0) (md1 T), I, L, F)) : XM xE0 d 16 [.ref 0] (shG (clXX (some 38) s0) (md1 T), I, L, F) Q := by
  have sz : I 18 10 = 0 ↔ s = 0 := by rw [h60, show (0 : Int32) = nI 0 from rfl, nI_eq (by omega) (by decide)]
  rcases Nat.eq_zero_or_pos s with y | y
  · have q := h0 y
    have e := sz.mpr y
    refine XC.block [] 60 ?_
    exact And.intro (fun z => absurd e z) (fun _ => ⟨by decide, q⟩)
  · have q := h1 y
    have e : ¬ I 18 10 = 0 := fun z => by have := sz.mp z; omega
    refine XC.block [] 60 ?_
    exact And.intro (fun _ => ⟨by decide, q⟩) (fun z => absurd e z)
theorem cl_logit_a (hM : clMd_a M I L F) (hm : mGd M) {s : Nat} (hs : s ≤ 60) (h60 : I 18 10 = nI s) (hB : 0 < s → ∀ i, i < mFa M 6 → fB 172 (F 26 i)) {a : Int32} (h0 : s = 0 → Q (some (.int (-3))) (shG (clXX (some 38) s0) (md1 T), I, L, F)) (h1 : 0 < s → ∀ k, k < mFa M 6 → a = nI k → Q (some (.int (pLg (F 26 k)))) (shG (clXX (some 38) s0) (md1 T), I, L, F)) (h2 : 0 < s → ¬ rgI a (mFa M 6) → Q (some (.int (-1))) (shG (clXX (some 38) s0) (md1 T), I, L, F)) : XM xE0 (d + 1) 15 [.ref 0, .int a] (shG (clXX (some 38) s0) (md1 T), I, L, F) Q := by
  have h6 := hm.1.2.2.2.2.2.2.1
  have go : 0 < s → ∀ k, k < mFa M 6 → a = nI k → vp_in a 16 ∧ vf_n32 (FP.fmul (F 26 a.toNatClampNeg) 1149239296) ∧ Q (some (.int (pLg (F 26 a.toNatClampNeg)))) (shG (clXX (some 38) s0) (md1 T), I, L, F) := fun s1 k hk ea => by
    rw [show a.toNatClampNeg = k by rw [ea, nI_clamp (by omega)]]
    exact ⟨rf_in ea (by omega) (by decide), (fLg (hB s1 k hk)).n32, h1 s1 k hk ea⟩
  refine XC.block [] 60 ?_
  refine cl_noLog_a hs h60 (fun z => ?_) (fun s1 => ?_)
  · exact And.intro (fun w => absurd (show (1 : Int32) = 0 from w) (by decide)) (fun _ => ⟨trivial, h0 z⟩)
  · refine And.intro (fun _ => ?_) (fun w => absurd (show (0 : Int32) = 0 from rfl) w)
    refine cl_isTok_a h6.2 (hM.1 6 (by decide)) (fun k hk ea => ?_) (fun z => ?_)
    · have g := go s1 k hk ea
      exact And.intro (fun w => absurd (show (1 : Int32) = 0 from w) (by decide)) (fun _ => And.intro g.1 (And.intro g.2.1 ⟨trivial, g.2.2⟩))
    · exact And.intro (fun _ => ⟨trivial, h2 s1 z⟩) (fun w => absurd (show (0 : Int32) = 0 from rfl) w)
end CAB_a
section CAB_b
variable {X : List (Option Nat)} {T : List xS} {M : pMd} {I J : Nat → Nat → Int32} {L : Nat → Nat → Int64} {F G : Nat → Nat → UInt32} {d : Nat} {Q : xP} {s0 : Option Nat}
theorem cl_fact_b (hM : clMd_b M I L F) {a : Int32} (h1 : ∀ k, k < 12 → a = nI k → Q (some (.int (nI (mFa M k)))) (shG (clXX (some 51) s0) (md2 T), I, L, F)) (h2 : ¬ rgI a 12 → Q (some (.int (-1))) (shG (clXX (some 51) s0) (md2 T), I, L, F)) : XM xE0 d 8 [.ref 0, .int a] (shG (clXX (some 51) s0) (md2 T), I, L, F) Q := by
  by_cases hr : a < 0 ∨ ¬ a < 12
  · have q := h2 (rgNo (N := 12) (by decide) hr)
    refine XC.block [] 60 ?_
    refine And.intro (fun z => ⟨trivial, q⟩) (fun z1 => ?_)
    exact And.intro (fun z2 => absurd hr (fun w => w.elim z1 (fun v => v z2))) (fun z => ⟨trivial, q⟩)
  · have r1 : ¬ a < 0 := fun z => hr (Or.inl z)
    have r2 : a < 12 := Decidable.byContradiction (fun z => hr (Or.inr z))
    obtain ⟨k, hk, ea⟩ := rgL (N := 12) (by decide) r1 r2
    have vin : vp_in a 12 := rf_in ea hk (by decide)
    have q : Q (some (.int (I 52 a.toNatClampNeg))) (shG (clXX (some 51) s0) (md2 T), I, L, F) := by
      rw [show a.toNatClampNeg = k by rw [ea, nI_clamp (by omega)], hM.1 k hk]
      exact h1 k hk ea
    refine XC.block [] 60 ?_
    refine And.intro (fun z => absurd z r1) (fun z1 => ?_)
    refine And.intro (fun z2 => ?_) (fun z => absurd r2 z)
    exact And.intro vin ⟨trivial, q⟩
theorem cl_has_b (hM : clMd_b M I L F) (hm : mGd M) {a b c : Int32} (h1 : ∀ t r k, t < mFa M 10 → r < mRo M t → k < mCo M t → a = nI t → b = nI r → c = nI k → Q (some (.int 1)) (shG X (md2 T), I, L, F)) (h2 : ¬ (rgI a (mFa M 10) ∧ ∀ t, a = nI t → t < mFa M 10 → rgI b (mRo M t) ∧ rgI c (mCo M t)) → Q (some (.int 0)) (shG X (md2 T), I, L, F)) : XM xE0 d 156 [.ref 58, .int a, .int b, .int c] (shG X (md2 T), I, L, F) Q := by
  have h10 := hm.1.2.2.2.2.2.2.2.2.2
  have e10 : I 58 5 = nI (mFa M 10) := hM.2.2.1
  by_cases hr : a < 0 ∨ I 58 5 ≤ a
  · have q := h2 (fun w => rgNo (N := mFa M 10) (by omega) (hr.elim Or.inl (fun z => Or.inr (by rw [← e10]; exact Int32.not_lt.mpr z))) w.1)
    refine XC.block [] 60 ?_
    refine And.intro (fun z => ⟨by decide, q⟩) (fun z1 => ?_)
    exact And.intro (fun z => ⟨by decide, q⟩) (fun z2 => absurd hr (fun w => w.elim z1 z2))
  · have r1 : ¬ a < 0 := fun z => hr (Or.inl z)
    have r2 : ¬ I 58 5 ≤ a := fun z => hr (Or.inr z)
    obtain ⟨t, ht, ea⟩ := rgL (N := mFa M 10) (by omega) r1 (by rw [← e10]; exact Int32.not_le.mp r2)
    obtain ⟨t1, t2, t3, t4⟩ := hm.2.1 t ht
    have ta : a.toNatClampNeg = t := by rw [ea, nI_clamp (by omega)]
    have vin : vp_in a 24 := rf_in ea (by omega) (by decide)
    have e48 : I 61 a.toNatClampNeg = nI (mRo M t) := by rw [ta]; exact (hM.2.2.2.2.2.2.2.1 t ht).2.1
    have e47 : I 60 a.toNatClampNeg = nI (mCo M t) := by rw [ta]; exact (hM.2.2.2.2.2.2.2.1 t ht).1
    by_cases hb : b < 0 ∨ I 61 a.toNatClampNeg ≤ b
    · have q := h2 (fun w => rgNo (N := mRo M t) (by omega) (hb.elim Or.inl (fun z => Or.inr (by rw [← e48]; exact Int32.not_lt.mpr z))) (w.2 t ea ht).1)
      refine XC.block [] 60 ?_
      refine And.intro (fun z => absurd z r1) (fun z1 => ?_)
      refine And.intro (fun z => absurd z r2) (fun z2 => ?_)
      refine And.intro (fun z => ⟨by decide, q⟩) (fun z3 => ?_)
      refine And.intro vin ?_
      exact And.intro (fun z => ⟨by decide, q⟩) (fun z4 => absurd hb (fun w => w.elim z3 z4))
    · have r3 : ¬ b < 0 := fun z => hb (Or.inl z)
      have r4 : ¬ I 61 a.toNatClampNeg ≤ b := fun z => hb (Or.inr z)
      obtain ⟨r, hrr, eb⟩ := rgL (N := mRo M t) (by omega) r3 (by rw [← e48]; exact Int32.not_le.mp r4)
      by_cases hc : c < 0 ∨ I 60 a.toNatClampNeg ≤ c
      · have q := h2 (fun w => rgNo (N := mCo M t) (by omega) (hc.elim Or.inl (fun z => Or.inr (by rw [← e47]; exact Int32.not_lt.mpr z))) (w.2 t ea ht).2)
        refine XC.block [] 60 ?_
        refine And.intro (fun z => absurd z r1) (fun z1 => ?_)
        refine And.intro (fun z => absurd z r2) (fun z2 => ?_)
        refine And.intro (fun z => absurd z r3) (fun z3 => ?_)
        refine And.intro vin ?_
        refine And.intro (fun z => absurd z r4) (fun z4 => ?_)
        refine And.intro (fun z => ⟨by decide, q⟩) (fun z5 => ?_)
        refine And.intro vin ?_
        exact And.intro (fun z => ⟨by decide, q⟩) (fun z6 => absurd hc (fun w => w.elim z5 z6))
      · have r5 : ¬ c < 0 := fun z => hc (Or.inl z)
        have r6 : ¬ I 60 a.toNatClampNeg ≤ c := fun z => hc (Or.inr z)
        obtain ⟨k, hk, ec⟩ := rgL (N := mCo M t) (by omega) r5 (by rw [← e47]; exact Int32.not_le.mp r6)
        have q := h1 t r k ht hrr hk ea eb ec
        refine XC.block [] 60 ?_
        refine And.intro (fun z => absurd z r1) (fun z1 => ?_)
        refine And.intro (fun z => absurd z r2) (fun z2 => ?_)
        refine And.intro (fun z => absurd z r3) (fun z3 => ?_)
        refine And.intro vin ?_
        refine And.intro (fun z => absurd z r4) (fun z4 => ?_)
        refine And.intro (fun z => absurd z r5) (fun z5 => ?_)
        refine And.intro vin ?_
        exact And.intro (fun z => absurd z r6) (fun z6 => ⟨by decide, q⟩)
theorem cl_weight_b (hM : clMd_b M I L F) (hm : mGd M) {a b c : Int32} (h1 : ∀ t r k, t < mFa M 10 → r < mRo M t → k < mCo M t → a = nI t → b = nI r → c = nI k → Q (some (.int (mWa M t r k))) (shG (clXX (some 51) s0) (md2 T), I, L, F)) (h2 : ¬ (rgI a (mFa M 10) ∧ ∀ t, a = nI t → t < mFa M 10 → rgI b (mRo M t) ∧ rgI c (mCo M t)) → Q (some (.int (-1))) (shG (clXX (some 51) s0) (md2 T), I, L, F)) : XM xE0 (d + 1) 9 [.ref 0, .int a, .int b, .int c] (shG (clXX (some 51) s0) (md2 T), I, L, F) Q := by
  have go : ∀ t r k, t < mFa M 10 → r < mRo M t → k < mCo M t → vf_n32 (FP.fmul (mWt M t (r * mCo M t + k)) 1199570944) := fun t r k ht hr hk => by
    obtain ⟨t1, t2, t3, t4⟩ := hm.2.1 t ht
    have lt : r * mCo M t + k < mCo M t * mRo M t := by
      refine Nat.lt_of_lt_of_le (Nat.add_lt_add_left hk _) ?_
      rw [← Nat.succ_mul, Nat.mul_comm]
      exact Nat.mul_le_mul_left _ hr
    exact (fWa (t4 _ lt)).n32
  refine XC.block [] 60 ?_
  refine cl_has_b hM hm (fun t r k ht hr hk ea eb ec => ?_) (fun z => ?_)
  · refine And.intro (fun _ => ?_) (fun z => absurd (show ¬ (1 : Int32) = 0 by decide) z)
    refine cl_att_b hM hm ht hr hk ea eb ec ?_
    exact And.intro (go t r k ht hr hk) ⟨trivial, h1 t r k ht hr hk ea eb ec⟩
  · exact And.intro (fun w => absurd (show (0 : Int32) = 0 from rfl) w) (fun _ => ⟨trivial, h2 z⟩)
theorem cl_isTok_b {N : Nat} (hN : N ≤ 16) (e6 : I 52 6 = nI N) {a : Int32} (h1 : ∀ k, k < N → a = nI k → Q (some (.int 1)) (shG X (md2 T), I, L, F)) (h2 : ¬ rgI a N → Q (some (.int 0)) (shG X (md2 T), I, L, F)) : XM xE0 d 116 [.ref 51, .int a] (shG X (md2 T), I, L, F) Q := by
  have v6 : vp_in (6 : Int32) 12 := rf_in (j := 6) rfl (by decide) (by decide)
  by_cases hr : a < 0 ∨ I 52 6 ≤ a
  · have q := h2 (rgNo (N := N) (by omega) (hr.elim Or.inl (fun z => Or.inr (by rw [← e6]; exact Int32.not_lt.mpr z))))
    refine XC.block [] 60 ?_
    refine And.intro (fun z => ⟨by decide, q⟩) (fun z1 => ?_)
    refine And.intro v6 ?_
    exact And.intro (fun z => ⟨by decide, q⟩) (fun z2 => absurd hr (fun w => w.elim z1 z2))
  · have r1 : ¬ a < 0 := fun z => hr (Or.inl z)
    have r2 : ¬ I 52 6 ≤ a := fun z => hr (Or.inr z)
    obtain ⟨k, hk, ea⟩ := rgL (N := N) (by omega) r1 (by rw [← e6]; exact Int32.not_le.mp r2)
    have q := h1 k hk ea
    refine XC.block [] 60 ?_
    refine And.intro (fun z => absurd z r1) (fun z1 => ?_)
    refine And.intro v6 ?_
    exact And.intro (fun z => absurd z r2) (fun z2 => ⟨by decide, q⟩)
theorem cl_octetOf_b (hM : clMd_b M I L F) (hm : mGd M) {a b : Int32} {t : Nat} (ht : t < mFa M 6) (ea : a = nI t) (h1 : ∀ j, j < mTl M t → b = nI j → Q (some (.int (nI (mTc M t j)))) (shG X (md2 T), I, L, F)) (h2 : ¬ rgI b (mTl M t) → Q (some (.int (-1))) (shG X (md2 T), I, L, F)) : XM xE0 (d + 1) 169 [.ref 53, .int a, .int b] (shG X (md2 T), I, L, F) Q := by
  have h6 := hm.1.2.2.2.2.2.2.1
  have w := hm.2.2.2.2.1 t ht
  have lt := mTw_lt hm ht
  have lt63 : mTw M t < 2 ^ 63 := Nat.lt_trans lt.2 (by decide)
  have eL : L 54 t = lN (mTw M t) := hM.2.2.2.2.1 t ht
  have el : mTw M t / 2 ^ 32 = mTl M t := by
    have := lt.1
    unfold mTw
    omega
  have ta : a.toNatClampNeg = t := by rw [ea, nI_clamp (by omega)]
  have ain : vp_in a 16 := rf_in ea (by omega) (by decide)
  by_cases hr : b < 0
  · have q := h2 (fun w => w.1 hr)
    refine XC.block [] 60 ?_
    exact And.intro (fun z => ⟨trivial, q⟩) (fun z1 => absurd hr z1)
  · have go : ∀ v, v = nI (mTw M t / 2 ^ 32) → b < v → vp_in a 16 ∧ Q (some (.int (((L 54 a.toNatClampNeg).toUInt64 >>> ((8 * b).toInt64.toUInt64 &&& Int64.toUInt64 63)).toInt64.toInt32 &&& 255))) (shG X (md2 T), I, L, F) := by
      intro v ev hv
      rw [ev, el] at hv
      obtain ⟨j, hj, eb⟩ := rgL (N := mTl M t) (by omega) hr hv
      refine ⟨ain, ?_⟩
      rw [ta, eL, eb, cl_shrB lt63 (by omega), mTw_dig hm ht hj]
      exact h1 j hj eb
    have no : ∀ v, v = nI (mTw M t / 2 ^ 32) → ¬ b < v → Q (some (.int (-1))) (shG X (md2 T), I, L, F) := by
      intro v ev hv
      rw [ev, el] at hv
      exact h2 (rgNo (by omega) (Or.inr hv))
    refine XC.block [] 60 ?_
    refine And.intro (fun z => absurd z hr) (fun z1 => ?_)
    refine cl_len_b (w := mTw M) (i := t) (by omega) eL lt63 ea (fun v ev => ?_)
    refine And.intro (fun z => ?_) (fun z => ⟨trivial, no v ev z⟩)
    have g := go v ev z
    exact And.intro g.1 ⟨trivial, g.2⟩
theorem cl_letter_b (hM : clMd_b M I L F) (hm : mGd M) {a b : Int32} (h1 : ∀ t j, t < mFa M 6 → j < mTl M t → a = nI t → b = nI j → Q (some (.int (nI (mTc M t j)))) (shG (clXX (some 51) s0) (md2 T), I, L, F)) (h2 : ¬ (rgI a (mFa M 6) ∧ ∀ t, a = nI t → t < mFa M 6 → rgI b (mTl M t)) → Q (some (.int (-1))) (shG (clXX (some 51) s0) (md2 T), I, L, F)) : XM xE0 (d + 2) 13 [.ref 0, .int a, .int b] (shG (clXX (some 51) s0) (md2 T), I, L, F) Q := by
  have h6 := hm.1.2.2.2.2.2.2.1
  refine XC.block [] 60 ?_
  refine cl_isTok_b h6.2 (hM.1 6 (by decide)) (fun t ht ea => ?_) (fun z => ?_)
  · refine And.intro (fun _ => ?_) (fun z => absurd (show ¬ (1 : Int32) = 0 by decide) z)
    exact cl_octetOf_b hM hm ht ea (fun j hj eb => ⟨trivial, h1 t j ht hj ea eb⟩) (fun z => ⟨trivial, h2 (fun w => z (w.2 t ea ht))⟩)
  · exact And.intro (fun w => absurd (show (0 : Int32) = 0 from rfl) w) (fun _ => ⟨trivial, h2 (fun w => z w.1)⟩)
theorem cl_encode_b (hM : clMd_b M I L F) (hm : mGd M) {x : Nat → Nat} {n : Nat} (hx : ∀ k, x k < 256) (hn : n ≤ 24) (hT : clTx x n I)
    (hQ : ∀ J, clEJ I J → clEn (mFa M 6) (pEc M x n).1 (pEc M x n).2 J → Q (some (.int (nI (pEc M x n).2))) (shG (clXX (some 51) s0) (md2 T), x2 J 3 1 0, L, F)) : XM xE0 (d + 3) 11 [.ref 0] (shG (clXX (some 51) s0) (md2 T), I, L, F) Q := by
  have fin : ∀ J, clEJ I J → clEn (mFa M 6) (pEc M x n).1 (pEc M x n).2 J → Q (some (.int (x2 J 3 1 0 16 1))) (shG (clXX (some 51) s0) (md2 T), x2 J 3 1 0, L, F) := fun J D E => by
    rw [x2_o _ _ (by omega), E.2.2.1]
    exact hQ J D E
  refine XC.block [] 60 ?_
  refine cl_tit_b hM hm hx hn hT (fun J D E => ?_)
  exact ⟨trivial, fin J D E⟩
theorem cl_step_b (hM : clMd_b M I L F) (hm : mGd M) {s : Nat} {K V : Nat → Nat → Nat → UInt32} (hs : s ≤ 60) (h60 : I 18 10 = nI s) (hKV : clKV K V F) {aa : Int32}
    (hrf : ¬ rgI aa (mFa M 6) → Q (some (.int (-1))) (shG (clXX (some 51) s0) (md2 T), I, L, F))
    (hfl : s = 60 → rgI aa (mFa M 6) → Q (some (.int (-2))) (shG (clXX (some 51) s0) (md2 T), I, L, F))
    (hgo : s < 60 → ∀ t, t < mFa M 6 → aa = nI t → ∀ G, (∀ b k, ¬ (19 ≤ b ∧ b ≤ 32) → G b k = F b k) → clKV (pKs M s t K V) (pVs M s t K V) G → (∀ i, i < mFa M 6 → G 26 i = pLo M s t K V i ∧ fB 172 (G 26 i)) → Q (some (.int (nI s))) (shG (clXX (some 51) s0) (md2 T), x2 I 18 10 (nI (s + 1)), L, G)) : XM xE0 (d + 5) 14 [.ref 0, .int aa] (shG (clXX (some 51) s0) (md2 T), I, L, F) Q := by
  have h6 := hm.1.2.2.2.2.2.2.1
  have c60 : I 18 10 < 60 ↔ s < 60 := by rw [h60, show (60 : Int32) = nI 60 from rfl, nI_ltI (by omega) (by decide)]
  have full : ∀ t, t < mFa M 6 → aa = nI t → ¬ I 18 10 < 60 → Q (some (.int (-2))) (shG (clXX (some 51) s0) (md2 T), I, L, F) := fun t ht ea z => hfl (by have : ¬ s < 60 := fun w => z (c60.mpr w); omega) ⟨by rw [ea]; exact nI_pos (by omega), by rw [ea, nI_p1 (by omega)]; exact nI_le (by omega) (by omega)⟩
  refine XC.block [] 60 ?_
  refine cl_isTok_b h6.2 (hM.1 6 (by decide)) (fun t ht ea => ?_) (fun z => ?_)
  · refine And.intro (fun _ => ?_) (fun z => absurd (show ¬ (1 : Int32) = 0 by decide) z)
    refine And.intro (fun z => ?_) (fun z => ⟨trivial, full t ht ea z⟩)
    exact cl_advance_b hM hm (c60.mp z) h60 hKV ht ea (fun G D kv lo => ⟨trivial, hgo (c60.mp z) t ht ea G D kv lo⟩)
  · exact And.intro (fun w => absurd (show (0 : Int32) = 0 from rfl) w) (fun _ => ⟨trivial, hrf z⟩)
theorem cl_noLog_b {s : Nat} (hs : s ≤ 60) (h60 : I 18 10 = nI s) (h0 : s = 0 → Q (some (.int 1)) (shG (clXX (some 51) s0) (md2 T), I, L, F)) (h1 : 0 < s → Q (some (.int 0)) (shG (clXX (some 51) s0) (md2 T), I, L, F)) : XM xE0 d 16 [.ref 0] (shG (clXX (some 51) s0) (md2 T), I, L, F) Q := by
  have sz : I 18 10 = 0 ↔ s = 0 := by rw [h60, show (0 : Int32) = nI 0 from rfl, nI_eq (by omega) (by decide)]
  rcases Nat.eq_zero_or_pos s with y | y
  · have q := h0 y
    have e := sz.mpr y
    refine XC.block [] 60 ?_
    exact And.intro (fun z => absurd e z) (fun _ => ⟨by decide, q⟩)
  · have q := h1 y
    have e : ¬ I 18 10 = 0 := fun z => by have := sz.mp z; omega
    refine XC.block [] 60 ?_
    exact And.intro (fun _ => ⟨by decide, q⟩) (fun z => absurd e z)
theorem cl_logit_b (hM : clMd_b M I L F) (hm : mGd M) {s : Nat} (hs : s ≤ 60) (h60 : I 18 10 = nI s) (hB : 0 < s → ∀ i, i < mFa M 6 → fB 172 (F 26 i)) {a : Int32} (h0 : s = 0 → Q (some (.int (-3))) (shG (clXX (some 51) s0) (md2 T), I, L, F)) (h1 : 0 < s → ∀ k, k < mFa M 6 → a = nI k → Q (some (.int (pLg (F 26 k)))) (shG (clXX (some 51) s0) (md2 T), I, L, F)) (h2 : 0 < s → ¬ rgI a (mFa M 6) → Q (some (.int (-1))) (shG (clXX (some 51) s0) (md2 T), I, L, F)) : XM xE0 (d + 1) 15 [.ref 0, .int a] (shG (clXX (some 51) s0) (md2 T), I, L, F) Q := by
  have h6 := hm.1.2.2.2.2.2.2.1
  have go : 0 < s → ∀ k, k < mFa M 6 → a = nI k → vp_in a 16 ∧ vf_n32 (FP.fmul (F 26 a.toNatClampNeg) 1149239296) ∧ Q (some (.int (pLg (F 26 a.toNatClampNeg)))) (shG (clXX (some 51) s0) (md2 T), I, L, F) := fun s1 k hk ea => by
    rw [show a.toNatClampNeg = k by rw [ea, nI_clamp (by omega)]]
    exact ⟨rf_in ea (by omega) (by decide), (fLg (hB s1 k hk)).n32, h1 s1 k hk ea⟩
  refine XC.block [] 60 ?_
  refine cl_noLog_b hs h60 (fun z => ?_) (fun s1 => ?_)
  · exact And.intro (fun w => absurd (show (1 : Int32) = 0 from w) (by decide)) (fun _ => ⟨trivial, h0 z⟩)
  · refine And.intro (fun _ => ?_) (fun w => absurd (show (0 : Int32) = 0 from rfl) w)
    refine cl_isTok_b h6.2 (hM.1 6 (by decide)) (fun k hk ea => ?_) (fun z => ?_)
    · have g := go s1 k hk ea
      exact And.intro (fun w => absurd (show (1 : Int32) = 0 from w) (by decide)) (fun _ => And.intro g.1 (And.intro g.2.1 ⟨trivial, g.2.2⟩))
    · exact And.intro (fun _ => ⟨trivial, h2 s1 z⟩) (fun w => absurd (show (0 : Int32) = 0 from rfl) w)
end CAB_b
