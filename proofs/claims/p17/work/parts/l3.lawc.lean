/-! the law: its loop and its start -/
theorem lw_gt {i L : Nat} (hi : i ≤ 4096) (hL : L ≤ 2048) : Int32.ofNat L - 4 < nI i ↔ L < i + 4 := by
  have e4 : (4 : Int32) = nI 4 := rfl
  rw [Int32.lt_iff_toInt_lt, nI_toInt (by omega), Int32.toInt_sub, show (Int32.ofNat L).toInt = (L : Int) from nI_toInt (by omega), show (4 : Int32).toInt = 4 from rfl]
  have : ((L : Int) - 4).bmod (2 ^ 32) = (L : Int) - 4 := by
    rw [Int.bmod_eq_iff] <;> omega
  rw [this]
  omega
section LWL
variable {p : Program} {l : Launch} {e : Env} {s : State} {m : MethodId} {below : List Frame} {meth : Method} {c : Code} {b L : Nat} {xs : Nat → Int32}
variable {ad adV : Nat → Nat} {cA : FieldType → ClassId} {D : va_G}
set_option maxHeartbeats 4000000 in
set_option maxRecDepth 100000 in
theorem lw_loop {N : Nat} {Rel : Nat → xH → xH → Prop} (hS : lwSpec N Rel) (hF : lwF p s m c b L xs ad adV cA D) (hL : L ≤ 2048) (hN : L ≤ 4 * N) (hr : meth.sig.returnType = ret) (hlocks : meth.locks = false) : ∀ (k t : Nat), L < 4 * t + 4 * k + 4 → 4 * t ≤ 2048 → ∀ (h1 h2 : xH), Rel t h1 h2 → ∀ (ws1 ws2 : va_W) (H : Heap) (locs : List Loc) (q1 q2 : Nat) (ls : Array Slot), lwI xE0 ad cA D xCl (lwA s) s h1 h2 ws1 ws2 H locs → xa ad ws1 0 = some q1 → xa ad ws2 0 = some q2 → lv_has ls 4 [(0, .ref b), (1, .ref q1), (2, .ref q2), (3, .int (nI (4 * t)))] → W p l e room_1 s m #[Value.ref b] below meth c H locs (h1.1.length + h2.1.length) (xsz xE0 h1.1 + xsz xE0 h2.1) (lw_Z below #[Value.ref b] s) (F0 m 18 ls []) := by
  intro k
  induction k with
  | zero =>
    intro t ht htm h1 h2 hR ws1 ws2 H locs q1 q2 ls inv hq1 hq2 hl
    obtain ⟨hx, hb, hml, hown, hts, hXb, hK, hEv⟩ := id hF
    have hbA : ¬ lwA s b := Nat.not_le.mpr hXb.2
    obtain ⟨-, -, w1, w2⟩ := hS.1 t h1 h2 hR
    refine lv_iload_n hx hb d_law_18 rfl (lv_at hl 3 rfl) ?_
    refine lv_aload_n hx hb d_law_19 rfl (lv_at hl 0 rfl) ?_
    refine va_slen (A := lwA s) hx hb hXb.1 hXb.2 hbA inv.2.2.2.2 d_law_20 ?_
    refine lv_iconst (v := 4) hx hb d_law_21 (by decide) ?_
    refine lv_isub hx hb d_law_22 ?_
    refine lv_icmp_gt (tgt := 658) hx hb d_law_23 (by decide) (fun c0 => ?_) (fun c0 => ?_)
    · refine lv_iconst (v := 1) hx hb d_law_658 (by decide) ?_
      refine va_forget (fun q hq => inv.2.2.2.2.2.2 q hq) ?_
      refine W.widen (k := 600000) (n := 7302250) (by omega) (by omega) ?_
      exact lw_ret hx hb hr hlocks d_law_659
    · exact absurd ((lw_gt (by omega) hL).mpr (by omega)) c0
  | succ k ih =>
    intro t ht htm h1 h2 hR ws1 ws2 H locs q1 q2 ls inv hq1 hq2 hl
    obtain ⟨hx, hb, hml, hown, hts, hXb, hK, hEv⟩ := id hF
    have hbA : ¬ lwA s b := Nat.not_le.mpr hXb.2
    obtain ⟨⟨rf1, z1⟩, ⟨rf2, z2⟩, w1, w2⟩ := hS.1 t h1 h2 hR
    refine lv_iload_n hx hb d_law_18 rfl (lv_at hl 3 rfl) ?_
    refine lv_aload_n hx hb d_law_19 rfl (lv_at hl 0 rfl) ?_
    refine va_slen (A := lwA s) hx hb hXb.1 hXb.2 hbA inv.2.2.2.2 d_law_20 ?_
    refine lv_iconst (v := 4) hx hb d_law_21 (by decide) ?_
    refine lv_isub hx hb d_law_22 ?_
    refine lv_icmp_gt (tgt := 658) hx hb d_law_23 (by decide) (fun c0 => ?_) (fun c0 => ?_)
    · refine lv_iconst (v := 1) hx hb d_law_658 (by decide) ?_
      refine va_forget (fun q hq => inv.2.2.2.2.2.2 q hq) ?_
      refine W.widen (k := 600000) (n := 7302250) (by omega) (by omega) ?_
      exact lw_ret hx hb hr hlocks d_law_659
    · have hin : 4 * t + 4 ≤ L := by
        rcases Nat.lt_or_ge L (4 * t + 4) with q | q
        · exact absurd ((lw_gt (by omega) hL).mpr q) c0
        · exact q
      have hgo : ∀ (h1' h2' : xH), Rel (t + 1) h1' h2' → ∀ (ws1' ws2' : va_W) (H' : Heap) (locs' : List Loc), lwI xE0 ad cA D xCl (lwA s) s h1' h2' ws1' ws2' H' locs' → xa ad ws1' 0 = some q1 → xa ad ws2' 0 = some q2 → W p l e room_1 s m #[Value.ref b] below meth c H' locs' (h1'.1.length + h2'.1.length) (xsz xE0 h1'.1 + xsz xE0 h2'.1) (lw_Z below #[Value.ref b] s) (F0 m 652 ls []) := by
        intro h1' h2' hR' ws1' ws2' H' locs' inv' i1 i2
        refine lv_iinc (v := nI (4 * (t + 1))) (lv' := [(3, .int (nI (4 * (t + 1)))), (0, .ref b), (1, .ref q1), (2, .ref q2)]) hx hb d_law_652 hl (k := 3) rfl (by rw [show Int32.ofInt 4 = nI 4 from rfl, nI_add]; rfl) (by decide) rfl (fun ls hl => ?_)
        refine lv_goto (tgt := 18) hx hb d_law_655 (by decide) ?_
        exact ih (t + 1) (by omega) (by omega) h1' h2' hR' ws1' ws2' H' locs' q1 q2 ls inv' i1 i2 (lv_sub hl [1, 2, 3, 0] rfl)
      refine lv_aload_n hx hb d_law_26 rfl (lv_at hl 0 rfl) ?_
      refine lv_iload_n hx hb d_law_27 rfl (lv_at hl 3 rfl) ?_
      refine va_sld (A := lwA s) hx hb hXb.1 hXb.2 hbA inv.2.2.2.2 (vp_in_nI (show 4 * t < L by omega) (by omega)) d_law_28 ?_
      refine lv_bipush (v := 31) hx hb d_law_29 (by decide) ?_
      refine lv_iand hx hb d_law_31 ?_
      obtain ⟨j, hj, ej⟩ := pk_andE (xs (nI (4 * t)).toNatClampNeg) (m := 31) 5 (by decide)
      rw [ej]
      have hj : j < 32 := hj
      have sp := hS.2.2 t h1 h2 hR (by omega) (xs (nI (4 * t) + 1).toNatClampNeg) (xs (nI (4 * t) + 2).toNatClampNeg) (xs (nI (4 * t) + 3).toNatClampNeg)
      rcases Nat.lt_or_ge j 18 with j18 | j18
      · match j, j18 with
        | 0, _ =>
          refine lv_tableIn (tgt := 120) (off := 88) hx hb d_law_32 (by decide) (by decide) (by decide) (by decide) ?_
          obtain ⟨z, h1', h2', r1, r2, ⟨a, rfl⟩, hR'⟩ := sp.1
          obtain ⟨-, -, w3, w4⟩ := hS.1 (t + 1) h1' h2' hR'
          exact lw_c0 r1 r2 hF hin hL z1 z2 w3 w4 inv hq1 hq2 hl (hgo h1' h2' hR')
        | 1, _ =>
          refine lv_tableIn (tgt := 183) (off := 151) hx hb d_law_32 (by decide) (by decide) (by decide) (by decide) ?_
          obtain ⟨z, h1', h2', r1, r2, ⟨a, rfl⟩, hR'⟩ := sp.2.1
          obtain ⟨-, -, w3, w4⟩ := hS.1 (t + 1) h1' h2' hR'
          exact lw_c1 r1 r2 hF hin hL z1 z2 w3 w4 inv hq1 hq2 hl (hgo h1' h2' hR')
        | 2, _ =>
          refine lv_tableIn (tgt := 216) (off := 184) hx hb d_law_32 (by decide) (by decide) (by decide) (by decide) ?_
          obtain ⟨z, h1', h2', r1, r2, ⟨a, rfl⟩, hR'⟩ := sp.2.2.1
          obtain ⟨-, -, w3, w4⟩ := hS.1 (t + 1) h1' h2' hR'
          exact lw_c2 r1 r2 hF hin hL z1 z2 w3 w4 inv hq1 hq2 hl (hgo h1' h2' hR')
        | 3, _ =>
          refine lv_tableIn (tgt := 229) (off := 197) hx hb d_law_32 (by decide) (by decide) (by decide) (by decide) ?_
          obtain ⟨a, az, h1', h2', r1, r2, hR'⟩ := sp.2.2.2.1
          obtain ⟨-, -, w3, w4⟩ := hS.1 (t + 1) h1' h2' hR'
          exact lw_c3 r1 r2 hF hin hL z1 z2 w3 w4 inv hq1 hq2 hl (hgo h1' h2' hR')
        | 4, _ =>
          refine lv_tableIn (tgt := 242) (off := 210) hx hb d_law_32 (by decide) (by decide) (by decide) (by decide) ?_
          obtain ⟨z, h1', h2', r1, r2, ⟨a, rfl⟩, hR'⟩ := sp.2.2.2.2.1
          obtain ⟨-, -, w3, w4⟩ := hS.1 (t + 1) h1' h2' hR'
          exact lw_c4 r1 r2 hF hin hL z1 z2 w3 w4 inv hq1 hq2 hl (hgo h1' h2' hR')
        | 5, _ =>
          refine lv_tableIn (tgt := 255) (off := 223) hx hb d_law_32 (by decide) (by decide) (by decide) (by decide) ?_
          obtain ⟨z, h1', h2', r1, r2, ⟨a, rfl⟩, hR'⟩ := sp.2.2.2.2.2.1
          obtain ⟨-, -, w3, w4⟩ := hS.1 (t + 1) h1' h2' hR'
          exact lw_c5 r1 r2 hF hin hL z1 z2 w3 w4 inv hq1 hq2 hl (hgo h1' h2' hR')
        | 6, _ =>
          refine lv_tableIn (tgt := 278) (off := 246) hx hb d_law_32 (by decide) (by decide) (by decide) (by decide) ?_
          obtain ⟨z, h1', h2', r1, r2, ⟨a, rfl⟩, hR'⟩ := sp.2.2.2.2.2.2.1
          obtain ⟨-, -, w3, w4⟩ := hS.1 (t + 1) h1' h2' hR'
          exact lw_c6 r1 r2 hF hin hL z1 z2 w3 w4 inv hq1 hq2 hl (hgo h1' h2' hR')
        | 7, _ =>
          refine lv_tableIn (tgt := 321) (off := 289) hx hb d_law_32 (by decide) (by decide) (by decide) (by decide) ?_
          obtain ⟨z, h1', h2', r1, r2, ⟨a, rfl⟩, hR'⟩ := sp.2.2.2.2.2.2.2.1
          obtain ⟨-, -, w3, w4⟩ := hS.1 (t + 1) h1' h2' hR'
          exact lw_c7 r1 r2 hF hin hL z1 z2 w3 w4 inv hq1 hq2 hl (hgo h1' h2' hR')
        | 8, _ =>
          refine lv_tableIn (tgt := 384) (off := 352) hx hb d_law_32 (by decide) (by decide) (by decide) (by decide) ?_
          obtain ⟨z, h1', h2', r1, r2, ⟨a, rfl⟩, hR'⟩ := sp.2.2.2.2.2.2.2.2.1
          obtain ⟨-, -, w3, w4⟩ := hS.1 (t + 1) h1' h2' hR'
          exact lw_c8 r1 r2 hF hin hL z1 z2 w3 w4 inv hq1 hq2 hl (hgo h1' h2' hR')
        | 9, _ =>
          refine lv_tableIn (tgt := 397) (off := 365) hx hb d_law_32 (by decide) (by decide) (by decide) (by decide) ?_
          obtain ⟨z, h1', h2', r1, r2, ⟨a, rfl⟩, hR'⟩ := sp.2.2.2.2.2.2.2.2.2.1
          obtain ⟨-, -, w3, w4⟩ := hS.1 (t + 1) h1' h2' hR'
          exact lw_c9 r1 r2 hF hin hL z1 z2 w3 w4 inv hq1 hq2 hl (hgo h1' h2' hR')
        | 10, _ =>
          refine lv_tableIn (tgt := 420) (off := 388) hx hb d_law_32 (by decide) (by decide) (by decide) (by decide) ?_
          obtain ⟨z, h1', h2', r1, r2, ⟨a, rfl⟩, hR'⟩ := sp.2.2.2.2.2.2.2.2.2.2.1
          obtain ⟨-, -, w3, w4⟩ := hS.1 (t + 1) h1' h2' hR'
          exact lw_c10 r1 r2 hF hin hL z1 z2 w3 w4 inv hq1 hq2 hl (hgo h1' h2' hR')
        | 11, _ =>
          refine lv_tableIn (tgt := 453) (off := 421) hx hb d_law_32 (by decide) (by decide) (by decide) (by decide) ?_
          obtain ⟨z, h1', h2', r1, r2, ⟨a, rfl⟩, hR'⟩ := sp.2.2.2.2.2.2.2.2.2.2.2.1
          obtain ⟨-, -, w3, w4⟩ := hS.1 (t + 1) h1' h2' hR'
          exact lw_c11 r1 r2 hF hin hL z1 z2 w3 w4 inv hq1 hq2 hl (hgo h1' h2' hR')
        | 12, _ =>
          refine lv_tableIn (tgt := 476) (off := 444) hx hb d_law_32 (by decide) (by decide) (by decide) (by decide) ?_
          obtain ⟨z, h1', h2', r1, r2, ⟨a, rfl⟩, hR'⟩ := sp.2.2.2.2.2.2.2.2.2.2.2.2.1
          obtain ⟨-, -, w3, w4⟩ := hS.1 (t + 1) h1' h2' hR'
          exact lw_c12 r1 r2 hF hin hL z1 z2 w3 w4 inv hq1 hq2 hl (hgo h1' h2' hR')
        | 13, _ =>
          refine lv_tableIn (tgt := 499) (off := 467) hx hb d_law_32 (by decide) (by decide) (by decide) (by decide) ?_
          obtain ⟨z, h1', h2', r1, r2, rfl, hR'⟩ := sp.2.2.2.2.2.2.2.2.2.2.2.2.2.1
          obtain ⟨-, -, w3, w4⟩ := hS.1 (t + 1) h1' h2' hR'
          exact lw_c13 (a := 0) (az := 0) r1 r2 hF hin hL z1 z2 w3 w4 inv hq1 hq2 hl (hgo h1' h2' hR')
        | 14, _ =>
          refine lv_tableIn (tgt := 550) (off := 518) hx hb d_law_32 (by decide) (by decide) (by decide) (by decide) ?_
          obtain ⟨z, h1', h2', r1, r2, ⟨a, rfl⟩, hR'⟩ := sp.2.2.2.2.2.2.2.2.2.2.2.2.2.2.1
          obtain ⟨-, -, w3, w4⟩ := hS.1 (t + 1) h1' h2' hR'
          exact lw_c14 r1 r2 hF hin hL z1 z2 w3 w4 inv hq1 hq2 hl (hgo h1' h2' hR')
        | 15, _ =>
          refine lv_tableIn (tgt := 593) (off := 561) hx hb d_law_32 (by decide) (by decide) (by decide) (by decide) ?_
          obtain ⟨z, h1', h2', r1, r2, ⟨a, rfl⟩, hR'⟩ := sp.2.2.2.2.2.2.2.2.2.2.2.2.2.2.2.1
          obtain ⟨-, -, w3, w4⟩ := hS.1 (t + 1) h1' h2' hR'
          exact lw_c15 (az := 0) r1 r2 hF hin hL z1 z2 w3 w4 inv hq1 hq2 hl (hgo h1' h2' hR')
        | 16, _ =>
          refine lv_tableIn (tgt := 616) (off := 584) hx hb d_law_32 (by decide) (by decide) (by decide) (by decide) ?_
          obtain ⟨z, h1', h2', r1, r2, ⟨a, rfl⟩, hR'⟩ := sp.2.2.2.2.2.2.2.2.2.2.2.2.2.2.2.2.1
          obtain ⟨-, -, w3, w4⟩ := hS.1 (t + 1) h1' h2' hR'
          exact lw_c16 r1 r2 hF hin hL z1 z2 w3 w4 inv hq1 hq2 hl (hgo h1' h2' hR')
        | 17, _ =>
          refine lv_tableIn (tgt := 639) (off := 607) hx hb d_law_32 (by decide) (by decide) (by decide) (by decide) ?_
          obtain ⟨z, h1', h2', r1, r2, ⟨a, rfl⟩, hR'⟩ := sp.2.2.2.2.2.2.2.2.2.2.2.2.2.2.2.2.2
          obtain ⟨-, -, w3, w4⟩ := hS.1 (t + 1) h1' h2' hR'
          exact lw_c17 r1 r2 hF hin hL z1 z2 w3 w4 inv hq1 hq2 hl (hgo h1' h2' hR')
        | j + 18, h => exact absurd h (by omega)
      · refine lv_tableOut (tgt := 652) hx hb d_law_32 (Or.inr (by rw [nI_toInt (by omega)]; omega)) (by decide) ?_
        exact hgo h1 h2 (hS.2.1 t h1 h2 hR) ws1 ws2 H locs inv hq1 hq2
end LWL
