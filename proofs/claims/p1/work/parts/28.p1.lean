/-! p1: one call on new objects -/
def p1R (t : Nat) (h1 h2 : xH) : Prop := (h1.1 = sh1 ∧ h2.1 = sh2) ∧ (t = 0 → fr1 h1.2.1 h1.2.2.1 h1.2.2.2 ∧ fr2 h2.2.1 h2.2.2.1 h2.2.2.2)
theorem p1_len : sh1.length + sh2.length ≤ 600000 ∧ xsz xE0 sh1 + xsz xE0 sh2 ≤ 7302250 := by decide +kernel
theorem p1_P {yx ym : Nat} {av : List Value} {vd : Bool} {h1 h2 : xH} (h : lwPair yx ym av vd h1 h2 (fun a b => a.1 = sh1 ∧ b.1 = sh2)) : lwPair yx ym av vd h1 h2 (p1R (0 + 1)) := by
  obtain ⟨z, g1, g2, r1, r2, hz, p⟩ := h
  exact ⟨z, g1, g2, r1, r2, hz, p, fun q => absurd q (by decide)⟩
theorem p1_spec : lwSpec 1 p1R := by
  refine ⟨fun t h1 h2 h => ?_, fun t h1 h2 h => ⟨h.1, fun q => absurd q (Nat.succ_ne_zero t)⟩, fun t h1 h2 h ht a1 a2 a3 => ?_⟩
  · rw [h.1.1, h.1.2]
    exact ⟨⟨_, rfl⟩, ⟨_, rfl⟩, p1_len.1, p1_len.2⟩
  · have t0 : t = 0 := by omega
    subst t0
    obtain ⟨s1, I, L, F⟩ := h1
    obtain ⟨s2, I2, L2, F2⟩ := h2
    obtain ⟨⟨e1, e2⟩, hf⟩ := h
    have e1 : s1 = sh1 := e1
    have e2 : s2 = sh2 := e2
    subst e1
    subst e2
    obtain ⟨hf1, hf2⟩ := hf rfl
    obtain ⟨i1_I_1_1, i1_I_3_1, i1_I_5_9, i1_I_5_10, i1_I_5_11, i1_I_5_12, i1_I_5_13, i1_I_16_1, i1_I_18_10, i1_L_33_2, i1_I_36_1, i1_F_38_3, i1_F_38_4, i1_I_38_5, i1_I_38_6, i1_I_40_4, i1_I_40_5, i1_I_45_5⟩ := hf1
    obtain ⟨i2_I_0_1, i2_I_0_2, i2_I_0_3, i2_I_0_4, i2_I_0_13, i2_I_0_14, i2_I_0_22, i2_I_0_23, i2_I_0_24, i2_F_0_25, i2_F_0_26, i2_I_0_38, i2_F_0_39, i2_F_0_40, i2_I_0_58, i2_I_0_59, i2_I_0_60, i2_I_0_61, i2_L_0_62⟩ := hf2
    have hfl : ∀ a : Int32, ∃ f : Int32, (a < 1 ∨ ¬ a ≤ 8 → f = -1) ∧ (¬ a < 1 → a ≤ 8 → f = a) := by
      intro a
      by_cases c : a < 1 ∨ ¬ a ≤ 8
      · exact ⟨-1, fun _ => rfl, fun p q => absurd c (fun z => z.elim p (fun w => w q))⟩
      · exact ⟨a, fun z => absurd z c, fun _ _ => rfl⟩
    have hch : ∀ P : Prop, ∃ f : Int32, (P → f = -3) ∧ (¬ P → f = -1) := by
      intro P
      by_cases c : P
      · exact ⟨-3, fun _ => rfl, fun q => absurd c q⟩
      · exact ⟨-1, fun q => absurd q c, fun _ => rfl⟩
    obtain ⟨f3, f3a, f3b⟩ := hfl a3
    obtain ⟨fd, fda, fdb⟩ := hch (fr_dr a1 a2 a3)
    obtain ⟨fs, fsa, fsb⟩ := hch (fr_sy a1)
    exact ⟨p1_P (lw_pair (fr1_file _ i1_I_1_1 f3a f3b) (fr2_file _ i2_I_0_1 f3a f3b)),
      p1_P (lw_pair (fr1_flip i1_I_1_1) (fr2_flip i2_I_0_1)),
      p1_P (lw_pair (fr1_clear i1_I_1_1) (fr2_clear i2_I_0_1)),
      p1_P (lw_pair (fr1_load i1_I_1_1) (fr2_load i2_I_0_1)),
      p1_P (lw_pair (fr1_place i1_I_5_13) (fr2_place i2_I_0_3)),
      p1_P (lw_pair fr1_fact (fr2_fact i2_I_0_38)),
      p1_P (lw_pair fr1_weight (fr2_weight i2_I_0_38)),
      p1_P (lw_pair (fr1_text _ i1_I_3_1 f3a f3b) (fr2_text _ i2_I_0_58 f3a f3b)),
      p1_P (lw_pair fr1_encode (fr2_encode i2_I_0_38)),
      p1_P (lw_pair (fr1_token i1_I_16_1) (fr2_token i2_I_0_59)),
      p1_P (lw_pair fr1_letter (fr2_letter i2_I_0_38)),
      p1_P (lw_pair fr1_step (fr2_step i2_I_0_38)),
      p1_P (lw_pair fr1_logit (fr2_logit i2_I_0_38)),
      p1_P (lw_pairv (fr1_seed _) (fr2_seed _)),
      p1_P (lw_pair (fr1_draw fda fdb) (fr2_draw i2_I_0_38 fda fdb)),
      p1_P (lw_pair (fr1_say fsa fsb) (fr2_say i2_I_0_38 fsa fsb)),
      p1_P (lw_pair (fr1_said i1_I_36_1) (fr2_said i2_I_0_61)),
      p1_P (lw_pair (fr1_reset i1_I_18_10) (fr2_reset i2_I_0_60))⟩
/-- the law on scripts of at most 4 ints -/
theorem p1_start {p : Program} {e : Env} {s : State} {m : MethodId} {below : List Frame} {meth : Method} {c : Code} (l : Launch) {b L : Nat} {xs : Nat → Int32} (hL : L ≤ 4) (C0 : lw_At p s m meth c b L xs) : W p l e room_1 s m #[Value.ref b] below meth c s.heap [] 0 0 (lw_Z below #[Value.ref b] s) (entryFrame m ([Value.ref b] : List Value).toArray 4) := by
  obtain ⟨I, L1, F, r1, q1⟩ := new1
  obtain ⟨I2, L2, F2, r2, q2⟩ := new2
  exact lw_whole p1_spec r1 r2 ⟨⟨rfl, rfl⟩, fun _ => ⟨q1, q2⟩⟩ l (by omega) (by omega) C0
