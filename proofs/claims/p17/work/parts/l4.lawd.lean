/-! the law: what is given at its start -/
def lw_ti : List Nat := [61, 67, 69, 71, 73, 75, 77, 79, 81, 86, 92, 94, 187, 197, 199, 201]
def lw_tm (i : Nat) : Term := .string "TextEngine$Maker" (lw_ti.getD i 0)
def lw_tv (i : Nat) : Term := .field (lw_tm i) "java/lang/String" "value" "[B"
def lw_fl : List Cond := flatC narrow_1
def lw_pe : List Nat := [7, 14, 24, 32, 45, 56, 68, 81, 96, 114, 133, 151, 171, 192, 213, 234]
def lw_pc : List Nat := [8, 15, 25, 33, 46, 57, 69, 82, 97, 115, 134, 152, 172, 193, 214, 235]
def lw_pa : List Nat := [9, 16, 26, 34, 47, 58, 70, 83, 98, 116, 135, 153, 173, 194, 215, 236]
def lw_pl : List Nat := [10, 17, 27, 35, 48, 59, 71, 84, 99, 117, 136, 154, 174, 195, 216, 237]
def lw_pel : List (List Nat) := [[11, 12, 13], [18, 19, 20, 21, 22], [28, 29], [36, 37, 38, 39, 40, 41], [49, 50, 51], [60, 61, 62], [72, 73, 74], [85, 86, 87, 88], [100, 101, 102, 103, 104, 105], [118, 119, 120, 121, 122, 123], [137, 138, 139, 140], [155, 156, 157, 158, 159], [175, 176, 177, 178, 179], [196, 197, 198, 199], [217, 218, 219], [238, 239, 240, 241, 242, 243, 244, 245, 246, 247, 248, 249, 250, 251, 252, 253, 254, 255, 256, 257, 258, 259, 260, 261, 262, 263, 264, 265, 266, 267, 268, 269, 270, 271, 272, 273]]
def lw_pn : List (List Nat) := [[100000, 23, 30, 42, 52, 63, 75, 89, 106, 124, 141, 160, 180, 200, 220, 274], [100000, 100000, 31, 43, 53, 64, 76, 90, 107, 125, 142, 161, 181, 201, 221, 275], [100000, 100000, 100000, 44, 54, 65, 77, 91, 108, 126, 143, 162, 182, 202, 222, 276], [100000, 100000, 100000, 100000, 55, 66, 78, 92, 109, 127, 144, 163, 183, 203, 223, 277], [100000, 100000, 100000, 100000, 100000, 67, 79, 93, 110, 128, 145, 164, 184, 204, 224, 278], [100000, 100000, 100000, 100000, 100000, 100000, 80, 94, 111, 129, 146, 165, 185, 205, 225, 279], [100000, 100000, 100000, 100000, 100000, 100000, 100000, 95, 112, 130, 147, 166, 186, 206, 226, 280], [100000, 100000, 100000, 100000, 100000, 100000, 100000, 100000, 113, 131, 148, 167, 187, 207, 227, 281], [100000, 100000, 100000, 100000, 100000, 100000, 100000, 100000, 100000, 132, 149, 168, 188, 208, 228, 282], [100000, 100000, 100000, 100000, 100000, 100000, 100000, 100000, 100000, 100000, 150, 169, 189, 209, 229, 283], [100000, 100000, 100000, 100000, 100000, 100000, 100000, 100000, 100000, 100000, 100000, 170, 190, 210, 230, 284], [100000, 100000, 100000, 100000, 100000, 100000, 100000, 100000, 100000, 100000, 100000, 100000, 191, 211, 231, 285], [100000, 100000, 100000, 100000, 100000, 100000, 100000, 100000, 100000, 100000, 100000, 100000, 100000, 212, 232, 286], [100000, 100000, 100000, 100000, 100000, 100000, 100000, 100000, 100000, 100000, 100000, 100000, 100000, 100000, 233, 287], [100000, 100000, 100000, 100000, 100000, 100000, 100000, 100000, 100000, 100000, 100000, 100000, 100000, 100000, 100000, 288], [100000, 100000, 100000, 100000, 100000, 100000, 100000, 100000, 100000, 100000, 100000, 100000, 100000, 100000, 100000, 100000]]
theorem lw_t1 : ∀ i, i < xnS → lw_fl[lw_pe.getD i 0]? = some (Cond.exactly (lw_tm i) "java/lang/String") := by decide +kernel
theorem lw_t2 : ∀ i, i < xnS → lw_fl[lw_pc.getD i 0]? = some (Cond.eq (.field (lw_tm i) "java/lang/String" "coder" "B") (.int 0)) := by decide +kernel
theorem lw_t3 : ∀ i, i < xnS → lw_fl[lw_pa.getD i 0]? = some (Cond.arrayOf (lw_tv i) .byte) := by decide +kernel
theorem lw_t4 : ∀ i, i < xnS → lw_fl[lw_pl.getD i 0]? = some (Cond.eq (.length (lw_tv i)) (.int (Int32.ofNat (xlS.getD i 0)))) := by decide +kernel
theorem lw_t5 : ∀ i, i < xnS → ∀ j, j < xlS.getD i 0 → lw_fl[(lw_pel.getD i []).getD j 0]? = some (Cond.eq (.elem (lw_tv i) (.int (Int32.ofNat j))) (.int ((xtxl.getD i []).getD j 0))) := by decide +kernel
theorem lw_t6 : ∀ i, i < xnS → ∀ j, j < xnS → i ≠ j → (lw_fl[(lw_pn.getD i []).getD j 0]? = some (Cond.not (Cond.eq (lw_tm i) (lw_tm j))) ∨ lw_fl[(lw_pn.getD j []).getD i 0]? = some (Cond.not (Cond.eq (lw_tm j) (lw_tm i)))) := by decide +kernel
theorem lw_t7 : lw_fl[2]? = some (Cond.eq (.static "java/lang/String" "COMPACT_STRINGS" "Z") (.int 1)) := by decide +kernel
theorem lw_t8 : lw_fl[3]? = some (Cond.isRef (.static "jdk/internal/util/Preconditions" "SIOOBE_FORMATTER" "Ljava/util/function/BiFunction;")) := by decide +kernel
theorem lw_t9 : ∀ i, i < xnS → xlS.getD i 0 < 2 ^ 31 := by decide +kernel
set_option maxRecDepth 100000 in
theorem lw_TF {s : State} {a : Array Value} (hts : ∀ w ∈ lw_tbl, w.before a s = true) : ∀ q ∈ xTF, va_Nw (xnf q) s := List.forall_mem_cons.mpr ⟨va_Nw.of rfl (hts _ (xqi_4 (List.mem_of_getElem? (i := 2) rfl))), List.forall_mem_cons.mpr ⟨va_Nw.of rfl (hts _ (xqi_4 (List.mem_of_getElem? (i := 3) rfl))), List.forall_mem_cons.mpr ⟨va_Nw.of rfl (hts _ (xqi_4 (List.mem_of_getElem? (i := 4) rfl))), List.forall_mem_cons.mpr ⟨va_Nw.of rfl (hts _ (xqi_4 (List.mem_of_getElem? (i := 5) rfl))), List.forall_mem_cons.mpr ⟨va_Nw.of rfl (hts _ (xqi_4 (List.mem_of_getElem? (i := 21) rfl))), List.forall_mem_cons.mpr ⟨va_Nw.of rfl (hts _ (xqi_4 (List.mem_of_getElem? (i := 23) rfl))), List.forall_mem_cons.mpr ⟨va_Nw.of rfl (hts _ (xqi_4 (List.mem_of_getElem? (i := 26) rfl))), List.forall_mem_cons.mpr ⟨va_Nw.of rfl (hts _ (xqi_4 (List.mem_of_getElem? (i := 28) rfl))), List.forall_mem_cons.mpr ⟨va_Nw.of rfl (hts _ (xqi_4 (List.mem_of_getElem? (i := 30) rfl))), List.forall_mem_cons.mpr ⟨va_Nw.of rfl (hts _ (xqi_5 (List.mem_of_getElem? (i := 0) rfl))), List.forall_mem_cons.mpr ⟨va_Nw.of rfl (hts _ (xqi_5 (List.mem_of_getElem? (i := 2) rfl))), List.forall_mem_cons.mpr ⟨va_Nw.of rfl (hts _ (xqi_5 (List.mem_of_getElem? (i := 4) rfl))), List.forall_mem_cons.mpr ⟨va_Nw.of rfl (hts _ (xqi_5 (List.mem_of_getElem? (i := 6) rfl))), List.forall_mem_cons.mpr ⟨va_Nw.of rfl (hts _ (xqi_5 (List.mem_of_getElem? (i := 9) rfl))), List.forall_mem_cons.mpr ⟨va_Nw.of rfl (hts _ (xqi_6 (List.mem_of_getElem? (i := 31) rfl))), List.forall_mem_cons.mpr ⟨va_Nw.of rfl (hts _ (xqi_7 (List.mem_of_getElem? (i := 1) rfl))), List.forall_mem_cons.mpr ⟨va_Nw.of rfl (hts _ (xqi_7 (List.mem_of_getElem? (i := 23) rfl))), List.forall_mem_cons.mpr ⟨va_Nw.of rfl (hts _ (xqi_7 (List.mem_of_getElem? (i := 27) rfl))), List.forall_mem_cons.mpr ⟨va_Nw.of rfl (hts _ (xqi_8 (List.mem_of_getElem? (i := 27) rfl))), List.forall_mem_cons.mpr ⟨va_Nw.of rfl (hts _ (xqi_8 (List.mem_of_getElem? (i := 30) rfl))), List.forall_mem_cons.mpr ⟨va_Nw.of rfl (hts _ (xqi_9 (List.mem_of_getElem? (i := 14) rfl))), List.forall_mem_cons.mpr ⟨va_Nw.of rfl (hts _ (xqi_10 (List.mem_of_getElem? (i := 2) rfl))), List.forall_mem_cons.mpr ⟨va_Nw.of rfl (hts _ (xqi_10 (List.mem_of_getElem? (i := 4) rfl))), List.forall_mem_cons.mpr ⟨va_Nw.of rfl (hts _ (xqi_10 (List.mem_of_getElem? (i := 6) rfl))), List.forall_mem_cons.mpr ⟨va_Nw.of rfl (hts _ (xqi_10 (List.mem_of_getElem? (i := 8) rfl))), List.forall_mem_cons.mpr ⟨va_Nw.of rfl (hts _ (xqi_10 (List.mem_of_getElem? (i := 10) rfl))), List.forall_mem_cons.mpr ⟨va_Nw.of rfl (hts _ (xqi_10 (List.mem_of_getElem? (i := 11) rfl))), List.forall_mem_cons.mpr ⟨va_Nw.of rfl (hts _ (xqi_11 (List.mem_of_getElem? (i := 17) rfl))), List.forall_mem_cons.mpr ⟨va_Nw.of rfl (hts _ (xqi_11 (List.mem_of_getElem? (i := 19) rfl))), List.forall_mem_cons.mpr ⟨va_Nw.of rfl (hts _ (xqi_11 (List.mem_of_getElem? (i := 21) rfl))), List.forall_mem_cons.mpr ⟨va_Nw.of rfl (hts _ (xqi_11 (List.mem_of_getElem? (i := 23) rfl))), List.forall_mem_cons.mpr ⟨va_Nw.of rfl (hts _ (xqi_11 (List.mem_of_getElem? (i := 24) rfl))), List.forall_mem_cons.mpr ⟨va_Nw.of rfl (hts _ (xqi_11 (List.mem_of_getElem? (i := 26) rfl))), List.forall_mem_cons.mpr ⟨va_Nw.of rfl (hts _ (xqi_11 (List.mem_of_getElem? (i := 28) rfl))), List.forall_mem_cons.mpr ⟨va_Nw.of rfl (hts _ (xqi_12 (List.mem_of_getElem? (i := 11) rfl))), List.forall_mem_cons.mpr ⟨va_Nw.of rfl (hts _ (xqi_12 (List.mem_of_getElem? (i := 12) rfl))), List.forall_mem_cons.mpr ⟨va_Nw.of rfl (hts _ (xqi_12 (List.mem_of_getElem? (i := 13) rfl))), List.forall_mem_cons.mpr ⟨va_Nw.of rfl (hts _ (xqi_12 (List.mem_of_getElem? (i := 15) rfl))), List.forall_mem_cons.mpr ⟨va_Nw.of rfl (hts _ (xqi_12 (List.mem_of_getElem? (i := 16) rfl))), List.forall_mem_cons.mpr ⟨va_Nw.of rfl (hts _ (xqi_12 (List.mem_of_getElem? (i := 18) rfl))), List.forall_mem_cons.mpr ⟨va_Nw.of rfl (hts _ (xqi_12 (List.mem_of_getElem? (i := 19) rfl))), List.forall_mem_cons.mpr ⟨va_Nw.of rfl (hts _ (xqi_12 (List.mem_of_getElem? (i := 20) rfl))), List.forall_mem_cons.mpr ⟨va_Nw.of rfl (hts _ (xqi_12 (List.mem_of_getElem? (i := 22) rfl))), List.forall_mem_cons.mpr ⟨va_Nw.of rfl (hts _ (xqi_12 (List.mem_of_getElem? (i := 23) rfl))), List.forall_mem_cons.mpr ⟨va_Nw.of rfl (hts _ (xqi_12 (List.mem_of_getElem? (i := 25) rfl))), List.forall_mem_cons.mpr ⟨va_Nw.of rfl (hts _ (xqi_12 (List.mem_of_getElem? (i := 26) rfl))), List.forall_mem_cons.mpr ⟨va_Nw.of rfl (hts _ (xqi_12 (List.mem_of_getElem? (i := 28) rfl))), List.forall_mem_cons.mpr ⟨va_Nw.of rfl (hts _ (xqi_12 (List.mem_of_getElem? (i := 29) rfl))), List.forall_mem_cons.mpr ⟨va_Nw.of rfl (hts _ (xqi_12 (List.mem_of_getElem? (i := 31) rfl))), List.forall_mem_cons.mpr ⟨va_Nw.of rfl (hts _ (xqi_13 (List.mem_of_getElem? (i := 0) rfl))), (fun _ h => by cases h)⟩⟩⟩⟩⟩⟩⟩⟩⟩⟩⟩⟩⟩⟩⟩⟩⟩⟩⟩⟩⟩⟩⟩⟩⟩⟩⟩⟩⟩⟩⟩⟩⟩⟩⟩⟩⟩⟩⟩⟩⟩⟩⟩⟩⟩⟩⟩⟩⟩⟩
set_option maxRecDepth 100000 in
theorem lw_TM {s : State} {a : Array Value} (hts : ∀ w ∈ lw_tbl, w.before a s = true) : ∀ q ∈ xTM, va_Nw (xnm q) s := List.forall_mem_cons.mpr ⟨va_Nw.of rfl (hts _ (xqi_6 (List.mem_of_getElem? (i := 26) rfl))), List.forall_mem_cons.mpr ⟨va_Nw.of rfl (hts _ (xqi_7 (List.mem_of_getElem? (i := 9) rfl))), List.forall_mem_cons.mpr ⟨va_Nw.of rfl (hts _ (xqi_8 (List.mem_of_getElem? (i := 22) rfl))), List.forall_mem_cons.mpr ⟨va_Nw.of rfl (hts _ (xqi_9 (List.mem_of_getElem? (i := 8) rfl))), List.forall_mem_cons.mpr ⟨va_Nw.of rfl (hts _ (xqi_9 (List.mem_of_getElem? (i := 22) rfl))), List.forall_mem_cons.mpr ⟨va_Nw.of rfl (hts _ (xqi_9 (List.mem_of_getElem? (i := 28) rfl))), List.forall_mem_cons.mpr ⟨va_Nw.of rfl (hts _ (xqi_11 (List.mem_of_getElem? (i := 12) rfl))), (fun _ h => by cases h)⟩⟩⟩⟩⟩⟩⟩
set_option maxRecDepth 100000 in
theorem lw_TS {s : State} {a : Array Value} {ad : Nat → Nat} (hts : ∀ w ∈ lw_tbl, w.before a s = true) (hev : ∀ i, i < xnS → (lw_tm i).eval a s none [] s = some (.ref (ad i))) : ∀ q ∈ xTSs, vk_R q.1 q.2.1 q.2.2.1 (ad q.2.2.2) s := List.forall_mem_cons.mpr ⟨vk_R.of (hts _ (xqi_17 (List.mem_of_getElem? (i := 11) rfl))) (hev 0 (by decide)), List.forall_mem_cons.mpr ⟨vk_R.of (hts _ (xqi_19 (List.mem_of_getElem? (i := 25) rfl))) (hev 1 (by decide)), List.forall_mem_cons.mpr ⟨vk_R.of (hts _ (xqi_19 (List.mem_of_getElem? (i := 26) rfl))) (hev 2 (by decide)), List.forall_mem_cons.mpr ⟨vk_R.of (hts _ (xqi_19 (List.mem_of_getElem? (i := 27) rfl))) (hev 3 (by decide)), List.forall_mem_cons.mpr ⟨vk_R.of (hts _ (xqi_19 (List.mem_of_getElem? (i := 28) rfl))) (hev 4 (by decide)), List.forall_mem_cons.mpr ⟨vk_R.of (hts _ (xqi_19 (List.mem_of_getElem? (i := 29) rfl))) (hev 5 (by decide)), List.forall_mem_cons.mpr ⟨vk_R.of (hts _ (xqi_19 (List.mem_of_getElem? (i := 30) rfl))) (hev 6 (by decide)), List.forall_mem_cons.mpr ⟨vk_R.of (hts _ (xqi_19 (List.mem_of_getElem? (i := 31) rfl))) (hev 7 (by decide)), List.forall_mem_cons.mpr ⟨vk_R.of (hts _ (xqi_20 (List.mem_of_getElem? (i := 0) rfl))) (hev 8 (by decide)), List.forall_mem_cons.mpr ⟨vk_R.of (hts _ (xqi_20 (List.mem_of_getElem? (i := 6) rfl))) (hev 9 (by decide)), List.forall_mem_cons.mpr ⟨vk_R.of (hts _ (xqi_20 (List.mem_of_getElem? (i := 11) rfl))) (hev 10 (by decide)), List.forall_mem_cons.mpr ⟨vk_R.of (hts _ (xqi_20 (List.mem_of_getElem? (i := 12) rfl))) (hev 11 (by decide)), List.forall_mem_cons.mpr ⟨vk_R.of (hts _ (xqi_22 (List.mem_of_getElem? (i := 24) rfl))) (hev 12 (by decide)), List.forall_mem_cons.mpr ⟨vk_R.of (hts _ (xqi_23 (List.mem_of_getElem? (i := 0) rfl))) (hev 13 (by decide)), List.forall_mem_cons.mpr ⟨vk_R.of (hts _ (xqi_23 (List.mem_of_getElem? (i := 1) rfl))) (hev 14 (by decide)), List.forall_mem_cons.mpr ⟨vk_R.of (hts _ (xqi_23 (List.mem_of_getElem? (i := 2) rfl))) (hev 15 (by decide)), (fun _ h => by cases h)⟩⟩⟩⟩⟩⟩⟩⟩⟩⟩⟩⟩⟩⟩⟩⟩
theorem lw_arr {s : State} {a : Array Value} {ty : FieldType} (hn : ∀ C, ty ≠ .object C) (h : (Cond.arrayClass ty).before a s = true) : ∃ c, ArrOfT s c ty ∧ va_RA s c ty := by
  obtain ⟨c, k, comp, h1, h2, h3⟩ := Cond.arrayClass_spec h
  refine ⟨c, fun n z => ⟨fun k h => (by cases h), k, h2, comp, h3⟩, ?_⟩
  cases ty with
  | object C => exact absurd rfl (hn C)
  | _ => exact h1
theorem lw_arr2 {s : State} {a : Array Value} (h : (Cond.arrayOver (.array .float)).before a s = true) : ∃ c, ArrOfT s c (.array .float) ∧ va_RA s c (.array .float) := by
  obtain ⟨comp, c, k, h1, h2, h3, h4, h5⟩ := arrayOver_specB h
  exact ⟨c, fun n z => ⟨fun k h => (by cases h), k, h3, comp, h4⟩, h5⟩
theorem lw_F0 {p : Program} {s : State} {m : MethodId} {meth : Method} {c : Code} {b L : Nat} {xs : Nat → Int32} (C0 : lw_At p s m meth c b L xs) : ∃ (ad adV : Nat → Nat) (cA : FieldType → ClassId) (D : va_G), lwF p s m c b L xs ad adV cA D := by
  obtain ⟨hx, hb, hr, hml, hown, hts, hX, hbl, hlocks, hgv⟩ := C0
  have ht : ∀ w ∈ xTB, w.before #[Value.ref b] s = true := fun w hw => hts w (xTB_in w hw)
  have hA : ∀ a : Nat, a < s.heap.size → ¬ lwA s a := fun a h => Nat.not_le.mpr h
  have hfl : ∀ {w : Cond} {n : Nat}, lw_fl[n]? = some w → w.before #[Value.ref b] s = true := fun {w n} h => flat_of_before _ hgv w (List.mem_append_right _ (List.mem_of_getElem? h))
  obtain ⟨ad, adV, hVS, hev⟩ := vk_Sof (args := #[Value.ref b]) (s := s) (N := xnS) (tm := lw_tm) (len := xlS) (byt := xtxl) (A := lwA s) lw_t9 (fun i hi => hfl (lw_t1 i hi)) (fun i hi => hfl (lw_t2 i hi)) (fun i hi => hfl (lw_t3 i hi)) (fun i hi => hfl (lw_t4 i hi)) (fun i hi j hj => hfl (lw_t5 i hi j hj)) (fun i j hi hj hij => by
    rcases lw_t6 i hi j hj hij with z | z
    · exact Or.inl (hfl z)
    · exact Or.inr (hfl z)) hA
  have hZ : va_Z "java/lang/String" "COMPACT_STRINGS" "Z" (.int 1) (lwA s) s s.heap := va_Zof (hts _ (xqi_17 (List.mem_of_getElem? (i := 29) rfl))) (ht _ (xw3 13 rfl rfl)) (va_eqt (hfl lw_t7)) hA
  have hZq : va_Zq "jdk/internal/util/Preconditions" "SIOOBE_FORMATTER" "Ljava/util/function/BiFunction;" (lwA s) s s.heap := va_Zqof (hts _ (xqi_19 (List.mem_of_getElem? (i := 2) rfl))) (ht _ (xw3 15 rfl rfl)) (hfl lw_t8) hA
  have hAO : (Cond.arrayOver (.array .float)).before #[Value.ref b] s = true := hts _ (xqi_7 (List.mem_of_getElem? (i := 14) rfl))
  obtain ⟨c1, k1⟩ := lw_arr (s := s) (fun _ h => by cases h) (ht _ (xw6 7 rfl rfl))
  obtain ⟨c2, k2⟩ := lw_arr (s := s) (fun _ h => by cases h) (ht _ (xw4 11 rfl rfl))
  obtain ⟨c3, k3⟩ := lw_arr (s := s) (fun _ h => by cases h) (ht _ (xw11 9 rfl rfl))
  obtain ⟨c4, k4⟩ := lw_arr (s := s) (fun _ h => by cases h) (ht _ (xw8 19 rfl rfl))
  obtain ⟨c5, k5⟩ := lw_arr2 hAO
  have hcl : ∀ k : Nat, ∃ w : ClassId × (Nat → Nat), ∀ q : vw_C, xCl[k]? = some q → u_Kn s q.1 q.2.1 q.2.2 w.1 w.2 := by
    intro k
    cases hq : xCl[k]? with
    | none => exact ⟨(c1, fun _ => 0), fun q h => (by cases h)⟩
    | some r =>
      obtain ⟨t1, t2, t3, t4, t5, t6, t7⟩ := xTab0.2.1 k r hq
      obtain ⟨cC, iS, h⟩ := u_known ht t1 (ht _ t5)
      exact ⟨(cC, iS), fun q h2 => by cases h2; exact h⟩
  obtain ⟨dd, hdd⟩ := Classical.axiomOfChoice hcl
  refine ⟨ad, adV, fun ty => match ty with | .int => c1 | .byte => c2 | .long => c3 | .float => c4 | _ => c5, (fun k => (dd k).1, fun k => (dd k).2), hx, hb, hml, hown, ht, ⟨hX, hbl⟩, ⟨fun k q h => hdd k q h, fun k q h => ?_⟩, lw_TF hts, lw_TM hts, ⟨hVS, hZ, hZq⟩, lw_TS hts hev, show (Cond.arrayOver (.array .float)).before #[] s = true from hAO⟩
  match k, h with
  | 0, h => cases h; exact k1
  | 1, h => cases h; exact k2
  | 2, h => cases h; exact k3
  | 3, h => cases h; exact k4
  | 4, h => cases h; exact k5
  | k + 5, h => cases h
set_option maxHeartbeats 4000000 in
set_option maxRecDepth 100000 in
/-- the law from its entry, out of a relation of the two states -/
theorem lw_whole {N : Nat} {Rel : Nat → xH → xH → Prop} (hS : lwSpec N Rel) {g1 g2 : xH} (r1 : XM xE0 100 0 [.ref 0] (lw_hn xE0 0) (fun v' h' => v' = none ∧ h' = g1)) (r2 : XM xE0 100 23 [.ref 0] (lw_hn xE0 11) (fun v' h' => v' = none ∧ h' = g2)) (hR0 : Rel 0 g1 g2)
    {p : Program} {e : Env} {s : State} {m : MethodId} {below : List Frame} {meth : Method} {c : Code} (l : Launch) {b L : Nat} {xs : Nat → Int32} (hL : L ≤ 2048) (hN : L ≤ 4 * N) (C0 : lw_At p s m meth c b L xs) : W p l e room_1 s m #[Value.ref b] below meth c s.heap [] 0 0 (lw_Z below #[Value.ref b] s) (entryFrame m ([Value.ref b] : List Value).toArray 4) := by
  obtain ⟨ad, adV, cA, D, hF⟩ := lw_F0 C0
  obtain ⟨-, -, hr, -, -, -, -, -, hlocks, -⟩ := C0
  obtain ⟨hx, hb, hml, hown, hts, hXb, hK, hEv⟩ := id hF
  obtain ⟨-, -, w1, w2⟩ := hS.1 0 g1 g2 hR0
  have m1 := lw_len r1
  have m2 := lw_len r2
  have n1 : (lw_hn xE0 0).1.length = 1 := rfl
  have n2 : (lw_hn xE0 11).1.length = 1 := rfl
  have s1 : xsz xE0 (lw_hn xE0 0).1 = (xE0.2.1 0).length := rfl
  have s2 : xsz xE0 (lw_hn xE0 11).1 = (xE0.2.1 11).length := rfl
  rw [n1, s1] at m1
  rw [n2, s2] at m2
  have hl := lv_entry ([.ref b]) (n := 4) (Nat.le_of_ble_eq_true rfl)
  rw [lg_entry_eq]
  generalize (lg_sl ([.ref b]) ++ List.replicate (4 - (lg_sl ([.ref b])).length) Slot.unset).toArray = ls at hl ⊢
  have hl : lv_has ls 4 [(0, .ref b)] := hl
  have inv0 : lwI xE0 ad cA D xCl (lwA s) s lw_h0 lw_h0 [] [] s.heap [] := ⟨⟨lw_xW0, lw_xW0⟩, ⟨fun k q h => (by cases h), fun k q h => (by cases h)⟩, ⟨⟨fun i j x y h => (by cases h), fun k q h => (by cases h)⟩, ⟨fun i j x y h => (by cases h), fun k q h => (by cases h)⟩⟩, fun i j x y h => (by cases h), va_S.rf⟩
  refine lw_new xTab0 hx hb hts hown hK (fun _ h => h) (ci := 0) rfl (xw3 18 rfl rfl) d_law_0 ⟨by show 0 + 1 ≤ 600000; omega, by show 0 + _ ≤ 7302250; omega⟩ inv0 (fun q1 ws1 H inv hq1 => ?_)
  refine lv_dup hx hb d_law_3 rfl ?_
  refine lw_callI (A := lwA s) xTab0 xTxE0 hx hb hml hts hown hK (fun _ h => h) hEv xmok_0 rfl rfl (xw3 20 rfl rfl) xmin_0 d_law_4 r1 (Nat.le_of_ble_eq_true rfl) (by unfold xt0; omega) ⟨by decide, by decide⟩ ⟨by rw [n1]; show _ ≤ 600000; omega, by rw [s1]; show _ ≤ 7302250; omega⟩ (show xcat [.ref q1] ≤ 8 from Nat.le_of_ble_eq_true rfl) hl.1 inv.swap hq1 (fun ws1 H locs inv hq1 => ?_)
  refine lv_astore_n (lv' := [(1, .ref q1), (0, .ref b)]) hx hb d_law_7 rfl hl (by decide) rfl (fun ls hl => ?_)
  refine W.widen (k := g1.1.length) (n := xsz xE0 g1.1) (by rw [n1]; omega) (by rw [s1]; omega) ?_
  have inv9 : lwI xE0 ad cA D xCl (lwA s) s g1 lw_h0 ws1 [] H locs := inv
  refine lw_new xTab0 hx hb hts hown hK (fun _ h => h) (ci := 11) rfl (xw31 9 rfl rfl) d_law_8 ⟨by show _ ≤ 600000; omega, by show _ ≤ 7302250; omega⟩ inv9 (fun q2 ws2 H inv hq2 => ?_)
  refine lv_dup hx hb d_law_11 rfl ?_
  refine lw_callI (A := lwA s) xTab0 xTxE0 hx hb hml hts hown hK (fun _ h => h) hEv xmok_23 rfl rfl (xw31 11 rfl rfl) xmin_23 d_law_12 r2 (Nat.le_of_ble_eq_true rfl) (by unfold xt0; omega) ⟨by decide, by decide⟩ ⟨by rw [n2]; show _ ≤ 600000; omega, by rw [s2]; show _ ≤ 7302250; omega⟩ (show xcat [.ref q2] ≤ 8 from Nat.le_of_ble_eq_true rfl) hl.1 inv.swap hq2 (fun ws2 H locs inv hq2 => ?_)
  refine lv_astore_n (lv' := [(2, .ref q2), (1, .ref q1), (0, .ref b)]) hx hb d_law_15 rfl hl (by decide) rfl (fun ls hl => ?_)
  refine lv_iconst (v := 0) hx hb d_law_16 (by decide) ?_
  refine lv_istore_n (lv' := [(3, .int 0), (2, .ref q2), (1, .ref q1), (0, .ref b)]) hx hb d_law_17 rfl hl (by decide) rfl (fun ls hl => ?_)
  refine W.widen (k := g1.1.length + g2.1.length) (n := xsz xE0 g1.1 + xsz xE0 g2.1) (by rw [n2]; omega) (by rw [s2]; omega) ?_
  exact lw_loop hS hF hL hN hr hlocks L 0 (by omega) (by omega) g1 g2 hR0 ws1 ws2 H locs q1 q2 ls inv.swap hq1 hq2 (lv_sub hl [3, 2, 1, 0] rfl)
