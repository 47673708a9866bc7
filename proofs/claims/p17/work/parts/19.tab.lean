/-! the tables are as they must be -/
theorem xlk_0 (pc : Nat) (i : Instr) (nx : Nat) (tg : List Nat) (v : Value) (h : xM_0.2.2.2.2.2 pc = some (i, nx, tg, v)) : xlk xTB xTF xTM xTSs xCl xE0 xM_0 pc i nx tg v := xlk_of (xall_ok xde_0 xtop pc _ h) (xok_0 pc _ h)
theorem xlk_1 (pc : Nat) (i : Instr) (nx : Nat) (tg : List Nat) (v : Value) (h : xM_1.2.2.2.2.2 pc = some (i, nx, tg, v)) : xlk xTB xTF xTM xTSs xCl xE0 xM_1 pc i nx tg v := xlk_of (xall_ok xde_1 xtop pc _ h) (xok_1 pc _ h)
theorem xlk_2 (pc : Nat) (i : Instr) (nx : Nat) (tg : List Nat) (v : Value) (h : xM_2.2.2.2.2.2 pc = some (i, nx, tg, v)) : xlk xTB xTF xTM xTSs xCl xE0 xM_2 pc i nx tg v := xlk_of (xall_ok xde_2 xtop pc _ h) (xok_2 pc _ h)
theorem xlk_3 (pc : Nat) (i : Instr) (nx : Nat) (tg : List Nat) (v : Value) (h : xM_3.2.2.2.2.2 pc = some (i, nx, tg, v)) : xlk xTB xTF xTM xTSs xCl xE0 xM_3 pc i nx tg v := xlk_of (xall_ok xde_3 xtop pc _ h) (xok_3 pc _ h)
theorem xlk_4 (pc : Nat) (i : Instr) (nx : Nat) (tg : List Nat) (v : Value) (h : xM_4.2.2.2.2.2 pc = some (i, nx, tg, v)) : xlk xTB xTF xTM xTSs xCl xE0 xM_4 pc i nx tg v := xlk_of (xall_ok xde_4 xtop pc _ h) (xok_4 pc _ h)
theorem xlk_5 (pc : Nat) (i : Instr) (nx : Nat) (tg : List Nat) (v : Value) (h : xM_5.2.2.2.2.2 pc = some (i, nx, tg, v)) : xlk xTB xTF xTM xTSs xCl xE0 xM_5 pc i nx tg v := xlk_of (xall_ok xde_5 xtop pc _ h) (xok_5 pc _ h)
theorem xlk_6 (pc : Nat) (i : Instr) (nx : Nat) (tg : List Nat) (v : Value) (h : xM_6.2.2.2.2.2 pc = some (i, nx, tg, v)) : xlk xTB xTF xTM xTSs xCl xE0 xM_6 pc i nx tg v := xlk_of (xall_ok xde_6 xtop pc _ h) (xok_6 pc _ h)
theorem xlk_7 (pc : Nat) (i : Instr) (nx : Nat) (tg : List Nat) (v : Value) (h : xM_7.2.2.2.2.2 pc = some (i, nx, tg, v)) : xlk xTB xTF xTM xTSs xCl xE0 xM_7 pc i nx tg v := xlk_of (xall_ok xde_7 xtop pc _ h) (xok_7 pc _ h)
theorem xlk_8 (pc : Nat) (i : Instr) (nx : Nat) (tg : List Nat) (v : Value) (h : xM_8.2.2.2.2.2 pc = some (i, nx, tg, v)) : xlk xTB xTF xTM xTSs xCl xE0 xM_8 pc i nx tg v := xlk_of (xall_ok xde_8 xtop pc _ h) (xok_8 pc _ h)
theorem xlk_9 (pc : Nat) (i : Instr) (nx : Nat) (tg : List Nat) (v : Value) (h : xM_9.2.2.2.2.2 pc = some (i, nx, tg, v)) : xlk xTB xTF xTM xTSs xCl xE0 xM_9 pc i nx tg v := xlk_of (xall_ok xde_9 xtop pc _ h) (xok_9 pc _ h)
theorem xlk_10 (pc : Nat) (i : Instr) (nx : Nat) (tg : List Nat) (v : Value) (h : xM_10.2.2.2.2.2 pc = some (i, nx, tg, v)) : xlk xTB xTF xTM xTSs xCl xE0 xM_10 pc i nx tg v := xlk_of (xall_ok xde_10 xtop pc _ h) (xok_10 pc _ h)
theorem xlk_11 (pc : Nat) (i : Instr) (nx : Nat) (tg : List Nat) (v : Value) (h : xM_11.2.2.2.2.2 pc = some (i, nx, tg, v)) : xlk xTB xTF xTM xTSs xCl xE0 xM_11 pc i nx tg v := xlk_of (xall_ok xde_11 xtop pc _ h) (xok_11 pc _ h)
theorem xlk_12 (pc : Nat) (i : Instr) (nx : Nat) (tg : List Nat) (v : Value) (h : xM_12.2.2.2.2.2 pc = some (i, nx, tg, v)) : xlk xTB xTF xTM xTSs xCl xE0 xM_12 pc i nx tg v := xlk_of (xall_ok xde_12 xtop pc _ h) (xok_12 pc _ h)
theorem xlk_13 (pc : Nat) (i : Instr) (nx : Nat) (tg : List Nat) (v : Value) (h : xM_13.2.2.2.2.2 pc = some (i, nx, tg, v)) : xlk xTB xTF xTM xTSs xCl xE0 xM_13 pc i nx tg v := xlk_of (xall_ok xde_13 xtop pc _ h) (xok_13 pc _ h)
theorem xlk_14 (pc : Nat) (i : Instr) (nx : Nat) (tg : List Nat) (v : Value) (h : xM_14.2.2.2.2.2 pc = some (i, nx, tg, v)) : xlk xTB xTF xTM xTSs xCl xE0 xM_14 pc i nx tg v := xlk_of (xall_ok xde_14 xtop pc _ h) (xok_14 pc _ h)
theorem xlk_15 (pc : Nat) (i : Instr) (nx : Nat) (tg : List Nat) (v : Value) (h : xM_15.2.2.2.2.2 pc = some (i, nx, tg, v)) : xlk xTB xTF xTM xTSs xCl xE0 xM_15 pc i nx tg v := xlk_of (xall_ok xde_15 xtop pc _ h) (xok_15 pc _ h)
theorem xlk_16 (pc : Nat) (i : Instr) (nx : Nat) (tg : List Nat) (v : Value) (h : xM_16.2.2.2.2.2 pc = some (i, nx, tg, v)) : xlk xTB xTF xTM xTSs xCl xE0 xM_16 pc i nx tg v := xlk_of (xall_ok xde_16 xtop pc _ h) (xok_16 pc _ h)
theorem xlk_17 (pc : Nat) (i : Instr) (nx : Nat) (tg : List Nat) (v : Value) (h : xM_17.2.2.2.2.2 pc = some (i, nx, tg, v)) : xlk xTB xTF xTM xTSs xCl xE0 xM_17 pc i nx tg v := xlk_of (xall_ok xde_17 xtop pc _ h) (xok_17 pc _ h)
theorem xlk_18 (pc : Nat) (i : Instr) (nx : Nat) (tg : List Nat) (v : Value) (h : xM_18.2.2.2.2.2 pc = some (i, nx, tg, v)) : xlk xTB xTF xTM xTSs xCl xE0 xM_18 pc i nx tg v := xlk_of (xall_ok xde_18 xtop pc _ h) (xok_18 pc _ h)
theorem xlk_19 (pc : Nat) (i : Instr) (nx : Nat) (tg : List Nat) (v : Value) (h : xM_19.2.2.2.2.2 pc = some (i, nx, tg, v)) : xlk xTB xTF xTM xTSs xCl xE0 xM_19 pc i nx tg v := xlk_of (xall_ok xde_19 xtop pc _ h) (xok_19 pc _ h)
theorem xlk_20 (pc : Nat) (i : Instr) (nx : Nat) (tg : List Nat) (v : Value) (h : xM_20.2.2.2.2.2 pc = some (i, nx, tg, v)) : xlk xTB xTF xTM xTSs xCl xE0 xM_20 pc i nx tg v := xlk_of (xall_ok xde_20 xtop pc _ h) (xok_20 pc _ h)
theorem xlk_21 (pc : Nat) (i : Instr) (nx : Nat) (tg : List Nat) (v : Value) (h : xM_21.2.2.2.2.2 pc = some (i, nx, tg, v)) : xlk xTB xTF xTM xTSs xCl xE0 xM_21 pc i nx tg v := xlk_of (xall_ok xde_21 xtop pc _ h) (xok_21 pc _ h)
theorem xlk_22 (pc : Nat) (i : Instr) (nx : Nat) (tg : List Nat) (v : Value) (h : xM_22.2.2.2.2.2 pc = some (i, nx, tg, v)) : xlk xTB xTF xTM xTSs xCl xE0 xM_22 pc i nx tg v := xlk_of (xall_ok xde_22 xtop pc _ h) (xok_22 pc _ h)
theorem xlk_23 (pc : Nat) (i : Instr) (nx : Nat) (tg : List Nat) (v : Value) (h : xM_23.2.2.2.2.2 pc = some (i, nx, tg, v)) : xlk xTB xTF xTM xTSs xCl xE0 xM_23 pc i nx tg v := xlk_of (xall_ok xde_23 xtop pc _ h) (xok_23 pc _ h)
theorem xlk_24 (pc : Nat) (i : Instr) (nx : Nat) (tg : List Nat) (v : Value) (h : xM_24.2.2.2.2.2 pc = some (i, nx, tg, v)) : xlk xTB xTF xTM xTSs xCl xE0 xM_24 pc i nx tg v := xlk_of (xall_ok xde_24 xtop pc _ h) (xok_24 pc _ h)
theorem xlk_25 (pc : Nat) (i : Instr) (nx : Nat) (tg : List Nat) (v : Value) (h : xM_25.2.2.2.2.2 pc = some (i, nx, tg, v)) : xlk xTB xTF xTM xTSs xCl xE0 xM_25 pc i nx tg v := xlk_of (xall_ok xde_25 xtop pc _ h) (xok_25 pc _ h)
theorem xlk_26 (pc : Nat) (i : Instr) (nx : Nat) (tg : List Nat) (v : Value) (h : xM_26.2.2.2.2.2 pc = some (i, nx, tg, v)) : xlk xTB xTF xTM xTSs xCl xE0 xM_26 pc i nx tg v := xlk_of (xall_ok xde_26 xtop pc _ h) (xok_26 pc _ h)
theorem xlk_27 (pc : Nat) (i : Instr) (nx : Nat) (tg : List Nat) (v : Value) (h : xM_27.2.2.2.2.2 pc = some (i, nx, tg, v)) : xlk xTB xTF xTM xTSs xCl xE0 xM_27 pc i nx tg v := xlk_of (xall_ok xde_27 xtop pc _ h) (xok_27 pc _ h)
theorem xlk_28 (pc : Nat) (i : Instr) (nx : Nat) (tg : List Nat) (v : Value) (h : xM_28.2.2.2.2.2 pc = some (i, nx, tg, v)) : xlk xTB xTF xTM xTSs xCl xE0 xM_28 pc i nx tg v := xlk_of (xall_ok xde_28 xtop pc _ h) (xok_28 pc _ h)
theorem xlk_29 (pc : Nat) (i : Instr) (nx : Nat) (tg : List Nat) (v : Value) (h : xM_29.2.2.2.2.2 pc = some (i, nx, tg, v)) : xlk xTB xTF xTM xTSs xCl xE0 xM_29 pc i nx tg v := xlk_of (xall_ok xde_29 xtop pc _ h) (xok_29 pc _ h)
theorem xlk_30 (pc : Nat) (i : Instr) (nx : Nat) (tg : List Nat) (v : Value) (h : xM_30.2.2.2.2.2 pc = some (i, nx, tg, v)) : xlk xTB xTF xTM xTSs xCl xE0 xM_30 pc i nx tg v := xlk_of (xall_ok xde_30 xtop pc _ h) (xok_30 pc _ h)
theorem xlk_31 (pc : Nat) (i : Instr) (nx : Nat) (tg : List Nat) (v : Value) (h : xM_31.2.2.2.2.2 pc = some (i, nx, tg, v)) : xlk xTB xTF xTM xTSs xCl xE0 xM_31 pc i nx tg v := xlk_of (xall_ok xde_31 xtop pc _ h) (xok_31 pc _ h)
theorem xlk_32 (pc : Nat) (i : Instr) (nx : Nat) (tg : List Nat) (v : Value) (h : xM_32.2.2.2.2.2 pc = some (i, nx, tg, v)) : xlk xTB xTF xTM xTSs xCl xE0 xM_32 pc i nx tg v := xlk_of (xall_ok xde_32 xtop pc _ h) (xok_32 pc _ h)
theorem xlk_33 (pc : Nat) (i : Instr) (nx : Nat) (tg : List Nat) (v : Value) (h : xM_33.2.2.2.2.2 pc = some (i, nx, tg, v)) : xlk xTB xTF xTM xTSs xCl xE0 xM_33 pc i nx tg v := xlk_of (xall_ok xde_33 xtop pc _ h) (xok_33 pc _ h)
theorem xlk_34 (pc : Nat) (i : Instr) (nx : Nat) (tg : List Nat) (v : Value) (h : xM_34.2.2.2.2.2 pc = some (i, nx, tg, v)) : xlk xTB xTF xTM xTSs xCl xE0 xM_34 pc i nx tg v := xlk_of (xall_ok xde_34 xtop pc _ h) (xok_34 pc _ h)
theorem xlk_35 (pc : Nat) (i : Instr) (nx : Nat) (tg : List Nat) (v : Value) (h : xM_35.2.2.2.2.2 pc = some (i, nx, tg, v)) : xlk xTB xTF xTM xTSs xCl xE0 xM_35 pc i nx tg v := xlk_of (xall_ok xde_35 xtop pc _ h) (xok_35 pc _ h)
theorem xlk_36 (pc : Nat) (i : Instr) (nx : Nat) (tg : List Nat) (v : Value) (h : xM_36.2.2.2.2.2 pc = some (i, nx, tg, v)) : xlk xTB xTF xTM xTSs xCl xE0 xM_36 pc i nx tg v := xlk_of (xall_ok xde_36 xtop pc _ h) (xok_36 pc _ h)
theorem xlk_37 (pc : Nat) (i : Instr) (nx : Nat) (tg : List Nat) (v : Value) (h : xM_37.2.2.2.2.2 pc = some (i, nx, tg, v)) : xlk xTB xTF xTM xTSs xCl xE0 xM_37 pc i nx tg v := xlk_of (xall_ok xde_37 xtop pc _ h) (xok_37 pc _ h)
theorem xlk_38 (pc : Nat) (i : Instr) (nx : Nat) (tg : List Nat) (v : Value) (h : xM_38.2.2.2.2.2 pc = some (i, nx, tg, v)) : xlk xTB xTF xTM xTSs xCl xE0 xM_38 pc i nx tg v := xlk_of (xall_ok xde_38 xtop pc _ h) (xok_38 pc _ h)
theorem xlk_39 (pc : Nat) (i : Instr) (nx : Nat) (tg : List Nat) (v : Value) (h : xM_39.2.2.2.2.2 pc = some (i, nx, tg, v)) : xlk xTB xTF xTM xTSs xCl xE0 xM_39 pc i nx tg v := xlk_of (xall_ok xde_39 xtop pc _ h) (xok_39 pc _ h)
theorem xlk_40 (pc : Nat) (i : Instr) (nx : Nat) (tg : List Nat) (v : Value) (h : xM_40.2.2.2.2.2 pc = some (i, nx, tg, v)) : xlk xTB xTF xTM xTSs xCl xE0 xM_40 pc i nx tg v := xlk_of (xall_ok xde_40 xtop pc _ h) (xok_40 pc _ h)
theorem xlk_41 (pc : Nat) (i : Instr) (nx : Nat) (tg : List Nat) (v : Value) (h : xM_41.2.2.2.2.2 pc = some (i, nx, tg, v)) : xlk xTB xTF xTM xTSs xCl xE0 xM_41 pc i nx tg v := xlk_of (xall_ok xde_41 xtop pc _ h) (xok_41 pc _ h)
theorem xlk_42 (pc : Nat) (i : Instr) (nx : Nat) (tg : List Nat) (v : Value) (h : xM_42.2.2.2.2.2 pc = some (i, nx, tg, v)) : xlk xTB xTF xTM xTSs xCl xE0 xM_42 pc i nx tg v := xlk_of (xall_ok xde_42 xtop pc _ h) (xok_42 pc _ h)
theorem xlk_43 (pc : Nat) (i : Instr) (nx : Nat) (tg : List Nat) (v : Value) (h : xM_43.2.2.2.2.2 pc = some (i, nx, tg, v)) : xlk xTB xTF xTM xTSs xCl xE0 xM_43 pc i nx tg v := xlk_of (xall_ok xde_43 xtop pc _ h) (xok_43 pc _ h)
theorem xlk_44 (pc : Nat) (i : Instr) (nx : Nat) (tg : List Nat) (v : Value) (h : xM_44.2.2.2.2.2 pc = some (i, nx, tg, v)) : xlk xTB xTF xTM xTSs xCl xE0 xM_44 pc i nx tg v := xlk_of (xall_ok xde_44 xtop pc _ h) (xok_44 pc _ h)
theorem xlk_45 (pc : Nat) (i : Instr) (nx : Nat) (tg : List Nat) (v : Value) (h : xM_45.2.2.2.2.2 pc = some (i, nx, tg, v)) : xlk xTB xTF xTM xTSs xCl xE0 xM_45 pc i nx tg v := xlk_of (xall_ok xde_45 xtop pc _ h) (xok_45 pc _ h)
theorem xlk_46 (pc : Nat) (i : Instr) (nx : Nat) (tg : List Nat) (v : Value) (h : xM_46.2.2.2.2.2 pc = some (i, nx, tg, v)) : xlk xTB xTF xTM xTSs xCl xE0 xM_46 pc i nx tg v := xlk_of (xall_ok xde_46 xtop pc _ h) (xok_46 pc _ h)
theorem xlk_47 (pc : Nat) (i : Instr) (nx : Nat) (tg : List Nat) (v : Value) (h : xM_47.2.2.2.2.2 pc = some (i, nx, tg, v)) : xlk xTB xTF xTM xTSs xCl xE0 xM_47 pc i nx tg v := xlk_of (xall_ok xde_47 xtop pc _ h) (xok_47 pc _ h)
theorem xlk_48 (pc : Nat) (i : Instr) (nx : Nat) (tg : List Nat) (v : Value) (h : xM_48.2.2.2.2.2 pc = some (i, nx, tg, v)) : xlk xTB xTF xTM xTSs xCl xE0 xM_48 pc i nx tg v := xlk_of (xall_ok xde_48 xtop pc _ h) (xok_48 pc _ h)
theorem xlk_49 (pc : Nat) (i : Instr) (nx : Nat) (tg : List Nat) (v : Value) (h : xM_49.2.2.2.2.2 pc = some (i, nx, tg, v)) : xlk xTB xTF xTM xTSs xCl xE0 xM_49 pc i nx tg v := xlk_of (xall_ok xde_49 xtop pc _ h) (xok_49 pc _ h)
theorem xlk_50 (pc : Nat) (i : Instr) (nx : Nat) (tg : List Nat) (v : Value) (h : xM_50.2.2.2.2.2 pc = some (i, nx, tg, v)) : xlk xTB xTF xTM xTSs xCl xE0 xM_50 pc i nx tg v := xlk_of (xall_ok xde_50 xtop pc _ h) (xok_50 pc _ h)
theorem xlk_51 (pc : Nat) (i : Instr) (nx : Nat) (tg : List Nat) (v : Value) (h : xM_51.2.2.2.2.2 pc = some (i, nx, tg, v)) : xlk xTB xTF xTM xTSs xCl xE0 xM_51 pc i nx tg v := xlk_of (xall_ok xde_51 xtop pc _ h) (xok_51 pc _ h)
theorem xlk_52 (pc : Nat) (i : Instr) (nx : Nat) (tg : List Nat) (v : Value) (h : xM_52.2.2.2.2.2 pc = some (i, nx, tg, v)) : xlk xTB xTF xTM xTSs xCl xE0 xM_52 pc i nx tg v := xlk_of (xall_ok xde_52 xtop pc _ h) (xok_52 pc _ h)
theorem xlk_53 (pc : Nat) (i : Instr) (nx : Nat) (tg : List Nat) (v : Value) (h : xM_53.2.2.2.2.2 pc = some (i, nx, tg, v)) : xlk xTB xTF xTM xTSs xCl xE0 xM_53 pc i nx tg v := xlk_of (xall_ok xde_53 xtop pc _ h) (xok_53 pc _ h)
theorem xlk_54 (pc : Nat) (i : Instr) (nx : Nat) (tg : List Nat) (v : Value) (h : xM_54.2.2.2.2.2 pc = some (i, nx, tg, v)) : xlk xTB xTF xTM xTSs xCl xE0 xM_54 pc i nx tg v := xlk_of (xall_ok xde_54 xtop pc _ h) (xok_54 pc _ h)
theorem xlk_55 (pc : Nat) (i : Instr) (nx : Nat) (tg : List Nat) (v : Value) (h : xM_55.2.2.2.2.2 pc = some (i, nx, tg, v)) : xlk xTB xTF xTM xTSs xCl xE0 xM_55 pc i nx tg v := xlk_of (xall_ok xde_55 xtop pc _ h) (xok_55 pc _ h)
theorem xlk_56 (pc : Nat) (i : Instr) (nx : Nat) (tg : List Nat) (v : Value) (h : xM_56.2.2.2.2.2 pc = some (i, nx, tg, v)) : xlk xTB xTF xTM xTSs xCl xE0 xM_56 pc i nx tg v := xlk_of (xall_ok xde_56 xtop pc _ h) (xok_56 pc _ h)
theorem xlk_57 (pc : Nat) (i : Instr) (nx : Nat) (tg : List Nat) (v : Value) (h : xM_57.2.2.2.2.2 pc = some (i, nx, tg, v)) : xlk xTB xTF xTM xTSs xCl xE0 xM_57 pc i nx tg v := xlk_of (xall_ok xde_57 xtop pc _ h) (xok_57 pc _ h)
theorem xlk_58 (pc : Nat) (i : Instr) (nx : Nat) (tg : List Nat) (v : Value) (h : xM_58.2.2.2.2.2 pc = some (i, nx, tg, v)) : xlk xTB xTF xTM xTSs xCl xE0 xM_58 pc i nx tg v := xlk_of (xall_ok xde_58 xtop pc _ h) (xok_58 pc _ h)
theorem xlk_59 (pc : Nat) (i : Instr) (nx : Nat) (tg : List Nat) (v : Value) (h : xM_59.2.2.2.2.2 pc = some (i, nx, tg, v)) : xlk xTB xTF xTM xTSs xCl xE0 xM_59 pc i nx tg v := xlk_of (xall_ok xde_59 xtop pc _ h) (xok_59 pc _ h)
theorem xlk_60 (pc : Nat) (i : Instr) (nx : Nat) (tg : List Nat) (v : Value) (h : xM_60.2.2.2.2.2 pc = some (i, nx, tg, v)) : xlk xTB xTF xTM xTSs xCl xE0 xM_60 pc i nx tg v := xlk_of (xall_ok xde_60 xtop pc _ h) (xok_60 pc _ h)
theorem xlk_61 (pc : Nat) (i : Instr) (nx : Nat) (tg : List Nat) (v : Value) (h : xM_61.2.2.2.2.2 pc = some (i, nx, tg, v)) : xlk xTB xTF xTM xTSs xCl xE0 xM_61 pc i nx tg v := xlk_of (xall_ok xde_61 xtop pc _ h) (xok_61 pc _ h)
theorem xlk_62 (pc : Nat) (i : Instr) (nx : Nat) (tg : List Nat) (v : Value) (h : xM_62.2.2.2.2.2 pc = some (i, nx, tg, v)) : xlk xTB xTF xTM xTSs xCl xE0 xM_62 pc i nx tg v := xlk_of (xall_ok xde_62 xtop pc _ h) (xok_62 pc _ h)
theorem xlk_63 (pc : Nat) (i : Instr) (nx : Nat) (tg : List Nat) (v : Value) (h : xM_63.2.2.2.2.2 pc = some (i, nx, tg, v)) : xlk xTB xTF xTM xTSs xCl xE0 xM_63 pc i nx tg v := xlk_of (xall_ok xde_63 xtop pc _ h) (xok_63 pc _ h)
theorem xlk_64 (pc : Nat) (i : Instr) (nx : Nat) (tg : List Nat) (v : Value) (h : xM_64.2.2.2.2.2 pc = some (i, nx, tg, v)) : xlk xTB xTF xTM xTSs xCl xE0 xM_64 pc i nx tg v := xlk_of (xall_ok xde_64 xtop pc _ h) (xok_64 pc _ h)
theorem xlk_65 (pc : Nat) (i : Instr) (nx : Nat) (tg : List Nat) (v : Value) (h : xM_65.2.2.2.2.2 pc = some (i, nx, tg, v)) : xlk xTB xTF xTM xTSs xCl xE0 xM_65 pc i nx tg v := xlk_of (xall_ok xde_65 xtop pc _ h) (xok_65 pc _ h)
theorem xlk_66 (pc : Nat) (i : Instr) (nx : Nat) (tg : List Nat) (v : Value) (h : xM_66.2.2.2.2.2 pc = some (i, nx, tg, v)) : xlk xTB xTF xTM xTSs xCl xE0 xM_66 pc i nx tg v := xlk_of (xall_ok xde_66 xtop pc _ h) (xok_66 pc _ h)
theorem xlk_67 (pc : Nat) (i : Instr) (nx : Nat) (tg : List Nat) (v : Value) (h : xM_67.2.2.2.2.2 pc = some (i, nx, tg, v)) : xlk xTB xTF xTM xTSs xCl xE0 xM_67 pc i nx tg v := xlk_of (xall_ok xde_67 xtop pc _ h) (xok_67 pc _ h)
theorem xlk_68 (pc : Nat) (i : Instr) (nx : Nat) (tg : List Nat) (v : Value) (h : xM_68.2.2.2.2.2 pc = some (i, nx, tg, v)) : xlk xTB xTF xTM xTSs xCl xE0 xM_68 pc i nx tg v := xlk_of (xall_ok xde_68 xtop pc _ h) (xok_68 pc _ h)
theorem xlk_69 (pc : Nat) (i : Instr) (nx : Nat) (tg : List Nat) (v : Value) (h : xM_69.2.2.2.2.2 pc = some (i, nx, tg, v)) : xlk xTB xTF xTM xTSs xCl xE0 xM_69 pc i nx tg v := xlk_of (xall_ok xde_69 xtop pc _ h) (xok_69 pc _ h)
theorem xlk_70 (pc : Nat) (i : Instr) (nx : Nat) (tg : List Nat) (v : Value) (h : xM_70.2.2.2.2.2 pc = some (i, nx, tg, v)) : xlk xTB xTF xTM xTSs xCl xE0 xM_70 pc i nx tg v := xlk_of (xall_ok xde_70 xtop pc _ h) (xok_70 pc _ h)
theorem xlk_71 (pc : Nat) (i : Instr) (nx : Nat) (tg : List Nat) (v : Value) (h : xM_71.2.2.2.2.2 pc = some (i, nx, tg, v)) : xlk xTB xTF xTM xTSs xCl xE0 xM_71 pc i nx tg v := xlk_of (xall_ok xde_71 xtop pc _ h) (xok_71 pc _ h)
theorem xlk_72 (pc : Nat) (i : Instr) (nx : Nat) (tg : List Nat) (v : Value) (h : xM_72.2.2.2.2.2 pc = some (i, nx, tg, v)) : xlk xTB xTF xTM xTSs xCl xE0 xM_72 pc i nx tg v := xlk_of (xall_ok xde_72 xtop pc _ h) (xok_72 pc _ h)
theorem xlk_73 (pc : Nat) (i : Instr) (nx : Nat) (tg : List Nat) (v : Value) (h : xM_73.2.2.2.2.2 pc = some (i, nx, tg, v)) : xlk xTB xTF xTM xTSs xCl xE0 xM_73 pc i nx tg v := xlk_of (xall_ok xde_73 xtop pc _ h) (xok_73 pc _ h)
theorem xlk_74 (pc : Nat) (i : Instr) (nx : Nat) (tg : List Nat) (v : Value) (h : xM_74.2.2.2.2.2 pc = some (i, nx, tg, v)) : xlk xTB xTF xTM xTSs xCl xE0 xM_74 pc i nx tg v := xlk_of (xall_ok xde_74 xtop pc _ h) (xok_74 pc _ h)
theorem xlk_75 (pc : Nat) (i : Instr) (nx : Nat) (tg : List Nat) (v : Value) (h : xM_75.2.2.2.2.2 pc = some (i, nx, tg, v)) : xlk xTB xTF xTM xTSs xCl xE0 xM_75 pc i nx tg v := xlk_of (xall_ok xde_75 xtop pc _ h) (xok_75 pc _ h)
theorem xlk_76 (pc : Nat) (i : Instr) (nx : Nat) (tg : List Nat) (v : Value) (h : xM_76.2.2.2.2.2 pc = some (i, nx, tg, v)) : xlk xTB xTF xTM xTSs xCl xE0 xM_76 pc i nx tg v := xlk_of (xall_ok xde_76 xtop pc _ h) (xok_76 pc _ h)
theorem xlk_77 (pc : Nat) (i : Instr) (nx : Nat) (tg : List Nat) (v : Value) (h : xM_77.2.2.2.2.2 pc = some (i, nx, tg, v)) : xlk xTB xTF xTM xTSs xCl xE0 xM_77 pc i nx tg v := xlk_of (xall_ok xde_77 xtop pc _ h) (xok_77 pc _ h)
theorem xlk_78 (pc : Nat) (i : Instr) (nx : Nat) (tg : List Nat) (v : Value) (h : xM_78.2.2.2.2.2 pc = some (i, nx, tg, v)) : xlk xTB xTF xTM xTSs xCl xE0 xM_78 pc i nx tg v := xlk_of (xall_ok xde_78 xtop pc _ h) (xok_78 pc _ h)
theorem xlk_79 (pc : Nat) (i : Instr) (nx : Nat) (tg : List Nat) (v : Value) (h : xM_79.2.2.2.2.2 pc = some (i, nx, tg, v)) : xlk xTB xTF xTM xTSs xCl xE0 xM_79 pc i nx tg v := xlk_of (xall_ok xde_79 xtop pc _ h) (xok_79 pc _ h)
theorem xlk_80 (pc : Nat) (i : Instr) (nx : Nat) (tg : List Nat) (v : Value) (h : xM_80.2.2.2.2.2 pc = some (i, nx, tg, v)) : xlk xTB xTF xTM xTSs xCl xE0 xM_80 pc i nx tg v := xlk_of (xall_ok xde_80 xtop pc _ h) (xok_80 pc _ h)
theorem xlk_81 (pc : Nat) (i : Instr) (nx : Nat) (tg : List Nat) (v : Value) (h : xM_81.2.2.2.2.2 pc = some (i, nx, tg, v)) : xlk xTB xTF xTM xTSs xCl xE0 xM_81 pc i nx tg v := xlk_of (xall_ok xde_81 xtop pc _ h) (xok_81 pc _ h)
theorem xlk_82 (pc : Nat) (i : Instr) (nx : Nat) (tg : List Nat) (v : Value) (h : xM_82.2.2.2.2.2 pc = some (i, nx, tg, v)) : xlk xTB xTF xTM xTSs xCl xE0 xM_82 pc i nx tg v := xlk_of (xall_ok xde_82 xtop pc _ h) (xok_82 pc _ h)
theorem xlk_83 (pc : Nat) (i : Instr) (nx : Nat) (tg : List Nat) (v : Value) (h : xM_83.2.2.2.2.2 pc = some (i, nx, tg, v)) : xlk xTB xTF xTM xTSs xCl xE0 xM_83 pc i nx tg v := xlk_of (xall_ok xde_83 xtop pc _ h) (xok_83 pc _ h)
theorem xlk_84 (pc : Nat) (i : Instr) (nx : Nat) (tg : List Nat) (v : Value) (h : xM_84.2.2.2.2.2 pc = some (i, nx, tg, v)) : xlk xTB xTF xTM xTSs xCl xE0 xM_84 pc i nx tg v := xlk_of (xall_ok xde_84 xtop pc _ h) (xok_84 pc _ h)
theorem xlk_85 (pc : Nat) (i : Instr) (nx : Nat) (tg : List Nat) (v : Value) (h : xM_85.2.2.2.2.2 pc = some (i, nx, tg, v)) : xlk xTB xTF xTM xTSs xCl xE0 xM_85 pc i nx tg v := xlk_of (xall_ok xde_85 xtop pc _ h) (xok_85 pc _ h)
theorem xlk_86 (pc : Nat) (i : Instr) (nx : Nat) (tg : List Nat) (v : Value) (h : xM_86.2.2.2.2.2 pc = some (i, nx, tg, v)) : xlk xTB xTF xTM xTSs xCl xE0 xM_86 pc i nx tg v := xlk_of (xall_ok xde_86 xtop pc _ h) (xok_86 pc _ h)
theorem xlk_87 (pc : Nat) (i : Instr) (nx : Nat) (tg : List Nat) (v : Value) (h : xM_87.2.2.2.2.2 pc = some (i, nx, tg, v)) : xlk xTB xTF xTM xTSs xCl xE0 xM_87 pc i nx tg v := xlk_of (xall_ok xde_87 xtop pc _ h) (xok_87 pc _ h)
theorem xlk_88 (pc : Nat) (i : Instr) (nx : Nat) (tg : List Nat) (v : Value) (h : xM_88.2.2.2.2.2 pc = some (i, nx, tg, v)) : xlk xTB xTF xTM xTSs xCl xE0 xM_88 pc i nx tg v := xlk_of (xall_ok xde_88 xtop pc _ h) (xok_88 pc _ h)
theorem xlk_89 (pc : Nat) (i : Instr) (nx : Nat) (tg : List Nat) (v : Value) (h : xM_89.2.2.2.2.2 pc = some (i, nx, tg, v)) : xlk xTB xTF xTM xTSs xCl xE0 xM_89 pc i nx tg v := xlk_of (xall_ok xde_89 xtop pc _ h) (xok_89 pc _ h)
theorem xlk_90 (pc : Nat) (i : Instr) (nx : Nat) (tg : List Nat) (v : Value) (h : xM_90.2.2.2.2.2 pc = some (i, nx, tg, v)) : xlk xTB xTF xTM xTSs xCl xE0 xM_90 pc i nx tg v := xlk_of (xall_ok xde_90 xtop pc _ h) (xok_90 pc _ h)
theorem xlk_91 (pc : Nat) (i : Instr) (nx : Nat) (tg : List Nat) (v : Value) (h : xM_91.2.2.2.2.2 pc = some (i, nx, tg, v)) : xlk xTB xTF xTM xTSs xCl xE0 xM_91 pc i nx tg v := xlk_of (xall_ok xde_91 xtop pc _ h) (xok_91 pc _ h)
theorem xlk_92 (pc : Nat) (i : Instr) (nx : Nat) (tg : List Nat) (v : Value) (h : xM_92.2.2.2.2.2 pc = some (i, nx, tg, v)) : xlk xTB xTF xTM xTSs xCl xE0 xM_92 pc i nx tg v := xlk_of (xall_ok xde_92 xtop pc _ h) (xok_92 pc _ h)
theorem xlk_93 (pc : Nat) (i : Instr) (nx : Nat) (tg : List Nat) (v : Value) (h : xM_93.2.2.2.2.2 pc = some (i, nx, tg, v)) : xlk xTB xTF xTM xTSs xCl xE0 xM_93 pc i nx tg v := xlk_of (xall_ok xde_93 xtop pc _ h) (xok_93 pc _ h)
theorem xlk_94 (pc : Nat) (i : Instr) (nx : Nat) (tg : List Nat) (v : Value) (h : xM_94.2.2.2.2.2 pc = some (i, nx, tg, v)) : xlk xTB xTF xTM xTSs xCl xE0 xM_94 pc i nx tg v := xlk_of (xall_ok xde_94 xtop pc _ h) (xok_94 pc _ h)
theorem xlk_95 (pc : Nat) (i : Instr) (nx : Nat) (tg : List Nat) (v : Value) (h : xM_95.2.2.2.2.2 pc = some (i, nx, tg, v)) : xlk xTB xTF xTM xTSs xCl xE0 xM_95 pc i nx tg v := xlk_of (xall_ok xde_95 xtop pc _ h) (xok_95 pc _ h)
theorem xlk_96 (pc : Nat) (i : Instr) (nx : Nat) (tg : List Nat) (v : Value) (h : xM_96.2.2.2.2.2 pc = some (i, nx, tg, v)) : xlk xTB xTF xTM xTSs xCl xE0 xM_96 pc i nx tg v := xlk_of (xall_ok xde_96 xtop pc _ h) (xok_96 pc _ h)
theorem xlk_97 (pc : Nat) (i : Instr) (nx : Nat) (tg : List Nat) (v : Value) (h : xM_97.2.2.2.2.2 pc = some (i, nx, tg, v)) : xlk xTB xTF xTM xTSs xCl xE0 xM_97 pc i nx tg v := xlk_of (xall_ok xde_97 xtop pc _ h) (xok_97 pc _ h)
theorem xlk_98 (pc : Nat) (i : Instr) (nx : Nat) (tg : List Nat) (v : Value) (h : xM_98.2.2.2.2.2 pc = some (i, nx, tg, v)) : xlk xTB xTF xTM xTSs xCl xE0 xM_98 pc i nx tg v := xlk_of (xall_ok xde_98 xtop pc _ h) (xok_98 pc _ h)
theorem xlk_99 (pc : Nat) (i : Instr) (nx : Nat) (tg : List Nat) (v : Value) (h : xM_99.2.2.2.2.2 pc = some (i, nx, tg, v)) : xlk xTB xTF xTM xTSs xCl xE0 xM_99 pc i nx tg v := xlk_of (xall_ok xde_99 xtop pc _ h) (xok_99 pc _ h)
theorem xlk_100 (pc : Nat) (i : Instr) (nx : Nat) (tg : List Nat) (v : Value) (h : xM_100.2.2.2.2.2 pc = some (i, nx, tg, v)) : xlk xTB xTF xTM xTSs xCl xE0 xM_100 pc i nx tg v := xlk_of (xall_ok xde_100 xtop pc _ h) (xok_100 pc _ h)
theorem xlk_101 (pc : Nat) (i : Instr) (nx : Nat) (tg : List Nat) (v : Value) (h : xM_101.2.2.2.2.2 pc = some (i, nx, tg, v)) : xlk xTB xTF xTM xTSs xCl xE0 xM_101 pc i nx tg v := xlk_of (xall_ok xde_101 xtop pc _ h) (xok_101 pc _ h)
theorem xlk_102 (pc : Nat) (i : Instr) (nx : Nat) (tg : List Nat) (v : Value) (h : xM_102.2.2.2.2.2 pc = some (i, nx, tg, v)) : xlk xTB xTF xTM xTSs xCl xE0 xM_102 pc i nx tg v := xlk_of (xall_ok xde_102 xtop pc _ h) (xok_102 pc _ h)
theorem xlk_103 (pc : Nat) (i : Instr) (nx : Nat) (tg : List Nat) (v : Value) (h : xM_103.2.2.2.2.2 pc = some (i, nx, tg, v)) : xlk xTB xTF xTM xTSs xCl xE0 xM_103 pc i nx tg v := xlk_of (xall_ok xde_103 xtop pc _ h) (xok_103 pc _ h)
theorem xlk_104 (pc : Nat) (i : Instr) (nx : Nat) (tg : List Nat) (v : Value) (h : xM_104.2.2.2.2.2 pc = some (i, nx, tg, v)) : xlk xTB xTF xTM xTSs xCl xE0 xM_104 pc i nx tg v := xlk_of (xall_ok xde_104 xtop pc _ h) (xok_104 pc _ h)
theorem xlk_105 (pc : Nat) (i : Instr) (nx : Nat) (tg : List Nat) (v : Value) (h : xM_105.2.2.2.2.2 pc = some (i, nx, tg, v)) : xlk xTB xTF xTM xTSs xCl xE0 xM_105 pc i nx tg v := xlk_of (xall_ok xde_105 xtop pc _ h) (xok_105 pc _ h)
theorem xlk_106 (pc : Nat) (i : Instr) (nx : Nat) (tg : List Nat) (v : Value) (h : xM_106.2.2.2.2.2 pc = some (i, nx, tg, v)) : xlk xTB xTF xTM xTSs xCl xE0 xM_106 pc i nx tg v := xlk_of (xall_ok xde_106 xtop pc _ h) (xok_106 pc _ h)
theorem xlk_107 (pc : Nat) (i : Instr) (nx : Nat) (tg : List Nat) (v : Value) (h : xM_107.2.2.2.2.2 pc = some (i, nx, tg, v)) : xlk xTB xTF xTM xTSs xCl xE0 xM_107 pc i nx tg v := xlk_of (xall_ok xde_107 xtop pc _ h) (xok_107 pc _ h)
theorem xlk_108 (pc : Nat) (i : Instr) (nx : Nat) (tg : List Nat) (v : Value) (h : xM_108.2.2.2.2.2 pc = some (i, nx, tg, v)) : xlk xTB xTF xTM xTSs xCl xE0 xM_108 pc i nx tg v := xlk_of (xall_ok xde_108 xtop pc _ h) (xok_108 pc _ h)
theorem xlk_109 (pc : Nat) (i : Instr) (nx : Nat) (tg : List Nat) (v : Value) (h : xM_109.2.2.2.2.2 pc = some (i, nx, tg, v)) : xlk xTB xTF xTM xTSs xCl xE0 xM_109 pc i nx tg v := xlk_of (xall_ok xde_109 xtop pc _ h) (xok_109 pc _ h)
theorem xlk_110 (pc : Nat) (i : Instr) (nx : Nat) (tg : List Nat) (v : Value) (h : xM_110.2.2.2.2.2 pc = some (i, nx, tg, v)) : xlk xTB xTF xTM xTSs xCl xE0 xM_110 pc i nx tg v := xlk_of (xall_ok xde_110 xtop pc _ h) (xok_110 pc _ h)
theorem xlk_111 (pc : Nat) (i : Instr) (nx : Nat) (tg : List Nat) (v : Value) (h : xM_111.2.2.2.2.2 pc = some (i, nx, tg, v)) : xlk xTB xTF xTM xTSs xCl xE0 xM_111 pc i nx tg v := xlk_of (xall_ok xde_111 xtop pc _ h) (xok_111 pc _ h)
theorem xlk_112 (pc : Nat) (i : Instr) (nx : Nat) (tg : List Nat) (v : Value) (h : xM_112.2.2.2.2.2 pc = some (i, nx, tg, v)) : xlk xTB xTF xTM xTSs xCl xE0 xM_112 pc i nx tg v := xlk_of (xall_ok xde_112 xtop pc _ h) (xok_112 pc _ h)
theorem xlk_113 (pc : Nat) (i : Instr) (nx : Nat) (tg : List Nat) (v : Value) (h : xM_113.2.2.2.2.2 pc = some (i, nx, tg, v)) : xlk xTB xTF xTM xTSs xCl xE0 xM_113 pc i nx tg v := xlk_of (xall_ok xde_113 xtop pc _ h) (xok_113 pc _ h)
theorem xlk_114 (pc : Nat) (i : Instr) (nx : Nat) (tg : List Nat) (v : Value) (h : xM_114.2.2.2.2.2 pc = some (i, nx, tg, v)) : xlk xTB xTF xTM xTSs xCl xE0 xM_114 pc i nx tg v := xlk_of (xall_ok xde_114 xtop pc _ h) (xok_114 pc _ h)
theorem xlk_115 (pc : Nat) (i : Instr) (nx : Nat) (tg : List Nat) (v : Value) (h : xM_115.2.2.2.2.2 pc = some (i, nx, tg, v)) : xlk xTB xTF xTM xTSs xCl xE0 xM_115 pc i nx tg v := xlk_of (xall_ok xde_115 xtop pc _ h) (xok_115 pc _ h)
theorem xlk_116 (pc : Nat) (i : Instr) (nx : Nat) (tg : List Nat) (v : Value) (h : xM_116.2.2.2.2.2 pc = some (i, nx, tg, v)) : xlk xTB xTF xTM xTSs xCl xE0 xM_116 pc i nx tg v := xlk_of (xall_ok xde_116 xtop pc _ h) (xok_116 pc _ h)
theorem xlk_117 (pc : Nat) (i : Instr) (nx : Nat) (tg : List Nat) (v : Value) (h : xM_117.2.2.2.2.2 pc = some (i, nx, tg, v)) : xlk xTB xTF xTM xTSs xCl xE0 xM_117 pc i nx tg v := xlk_of (xall_ok xde_117 xtop pc _ h) (xok_117 pc _ h)
theorem xlk_118 (pc : Nat) (i : Instr) (nx : Nat) (tg : List Nat) (v : Value) (h : xM_118.2.2.2.2.2 pc = some (i, nx, tg, v)) : xlk xTB xTF xTM xTSs xCl xE0 xM_118 pc i nx tg v := xlk_of (xall_ok xde_118 xtop pc _ h) (xok_118 pc _ h)
theorem xlk_119 (pc : Nat) (i : Instr) (nx : Nat) (tg : List Nat) (v : Value) (h : xM_119.2.2.2.2.2 pc = some (i, nx, tg, v)) : xlk xTB xTF xTM xTSs xCl xE0 xM_119 pc i nx tg v := xlk_of (xall_ok xde_119 xtop pc _ h) (xok_119 pc _ h)
theorem xlk_120 (pc : Nat) (i : Instr) (nx : Nat) (tg : List Nat) (v : Value) (h : xM_120.2.2.2.2.2 pc = some (i, nx, tg, v)) : xlk xTB xTF xTM xTSs xCl xE0 xM_120 pc i nx tg v := xlk_of (xall_ok xde_120 xtop pc _ h) (xok_120 pc _ h)
theorem xlk_121 (pc : Nat) (i : Instr) (nx : Nat) (tg : List Nat) (v : Value) (h : xM_121.2.2.2.2.2 pc = some (i, nx, tg, v)) : xlk xTB xTF xTM xTSs xCl xE0 xM_121 pc i nx tg v := xlk_of (xall_ok xde_121 xtop pc _ h) (xok_121 pc _ h)
theorem xlk_122 (pc : Nat) (i : Instr) (nx : Nat) (tg : List Nat) (v : Value) (h : xM_122.2.2.2.2.2 pc = some (i, nx, tg, v)) : xlk xTB xTF xTM xTSs xCl xE0 xM_122 pc i nx tg v := xlk_of (xall_ok xde_122 xtop pc _ h) (xok_122 pc _ h)
theorem xlk_123 (pc : Nat) (i : Instr) (nx : Nat) (tg : List Nat) (v : Value) (h : xM_123.2.2.2.2.2 pc = some (i, nx, tg, v)) : xlk xTB xTF xTM xTSs xCl xE0 xM_123 pc i nx tg v := xlk_of (xall_ok xde_123 xtop pc _ h) (xok_123 pc _ h)
theorem xlk_124 (pc : Nat) (i : Instr) (nx : Nat) (tg : List Nat) (v : Value) (h : xM_124.2.2.2.2.2 pc = some (i, nx, tg, v)) : xlk xTB xTF xTM xTSs xCl xE0 xM_124 pc i nx tg v := xlk_of (xall_ok xde_124 xtop pc _ h) (xok_124 pc _ h)
theorem xlk_125 (pc : Nat) (i : Instr) (nx : Nat) (tg : List Nat) (v : Value) (h : xM_125.2.2.2.2.2 pc = some (i, nx, tg, v)) : xlk xTB xTF xTM xTSs xCl xE0 xM_125 pc i nx tg v := xlk_of (xall_ok xde_125 xtop pc _ h) (xok_125 pc _ h)
theorem xlk_126 (pc : Nat) (i : Instr) (nx : Nat) (tg : List Nat) (v : Value) (h : xM_126.2.2.2.2.2 pc = some (i, nx, tg, v)) : xlk xTB xTF xTM xTSs xCl xE0 xM_126 pc i nx tg v := xlk_of (xall_ok xde_126 xtop pc _ h) (xok_126 pc _ h)
theorem xlk_127 (pc : Nat) (i : Instr) (nx : Nat) (tg : List Nat) (v : Value) (h : xM_127.2.2.2.2.2 pc = some (i, nx, tg, v)) : xlk xTB xTF xTM xTSs xCl xE0 xM_127 pc i nx tg v := xlk_of (xall_ok xde_127 xtop pc _ h) (xok_127 pc _ h)
theorem xlk_128 (pc : Nat) (i : Instr) (nx : Nat) (tg : List Nat) (v : Value) (h : xM_128.2.2.2.2.2 pc = some (i, nx, tg, v)) : xlk xTB xTF xTM xTSs xCl xE0 xM_128 pc i nx tg v := xlk_of (xall_ok xde_128 xtop pc _ h) (xok_128 pc _ h)
theorem xlk_129 (pc : Nat) (i : Instr) (nx : Nat) (tg : List Nat) (v : Value) (h : xM_129.2.2.2.2.2 pc = some (i, nx, tg, v)) : xlk xTB xTF xTM xTSs xCl xE0 xM_129 pc i nx tg v := xlk_of (xall_ok xde_129 xtop pc _ h) (xok_129 pc _ h)
theorem xlk_130 (pc : Nat) (i : Instr) (nx : Nat) (tg : List Nat) (v : Value) (h : xM_130.2.2.2.2.2 pc = some (i, nx, tg, v)) : xlk xTB xTF xTM xTSs xCl xE0 xM_130 pc i nx tg v := xlk_of (xall_ok xde_130 xtop pc _ h) (xok_130 pc _ h)
theorem xlk_131 (pc : Nat) (i : Instr) (nx : Nat) (tg : List Nat) (v : Value) (h : xM_131.2.2.2.2.2 pc = some (i, nx, tg, v)) : xlk xTB xTF xTM xTSs xCl xE0 xM_131 pc i nx tg v := xlk_of (xall_ok xde_131 xtop pc _ h) (xok_131 pc _ h)
theorem xlk_132 (pc : Nat) (i : Instr) (nx : Nat) (tg : List Nat) (v : Value) (h : xM_132.2.2.2.2.2 pc = some (i, nx, tg, v)) : xlk xTB xTF xTM xTSs xCl xE0 xM_132 pc i nx tg v := xlk_of (xall_ok xde_132 xtop pc _ h) (xok_132 pc _ h)
theorem xlk_133 (pc : Nat) (i : Instr) (nx : Nat) (tg : List Nat) (v : Value) (h : xM_133.2.2.2.2.2 pc = some (i, nx, tg, v)) : xlk xTB xTF xTM xTSs xCl xE0 xM_133 pc i nx tg v := xlk_of (xall_ok xde_133 xtop pc _ h) (xok_133 pc _ h)
theorem xlk_134 (pc : Nat) (i : Instr) (nx : Nat) (tg : List Nat) (v : Value) (h : xM_134.2.2.2.2.2 pc = some (i, nx, tg, v)) : xlk xTB xTF xTM xTSs xCl xE0 xM_134 pc i nx tg v := xlk_of (xall_ok xde_134 xtop pc _ h) (xok_134 pc _ h)
theorem xlk_135 (pc : Nat) (i : Instr) (nx : Nat) (tg : List Nat) (v : Value) (h : xM_135.2.2.2.2.2 pc = some (i, nx, tg, v)) : xlk xTB xTF xTM xTSs xCl xE0 xM_135 pc i nx tg v := xlk_of (xall_ok xde_135 xtop pc _ h) (xok_135 pc _ h)
theorem xlk_136 (pc : Nat) (i : Instr) (nx : Nat) (tg : List Nat) (v : Value) (h : xM_136.2.2.2.2.2 pc = some (i, nx, tg, v)) : xlk xTB xTF xTM xTSs xCl xE0 xM_136 pc i nx tg v := xlk_of (xall_ok xde_136 xtop pc _ h) (xok_136 pc _ h)
theorem xlk_137 (pc : Nat) (i : Instr) (nx : Nat) (tg : List Nat) (v : Value) (h : xM_137.2.2.2.2.2 pc = some (i, nx, tg, v)) : xlk xTB xTF xTM xTSs xCl xE0 xM_137 pc i nx tg v := xlk_of (xall_ok xde_137 xtop pc _ h) (xok_137 pc _ h)
theorem xlk_138 (pc : Nat) (i : Instr) (nx : Nat) (tg : List Nat) (v : Value) (h : xM_138.2.2.2.2.2 pc = some (i, nx, tg, v)) : xlk xTB xTF xTM xTSs xCl xE0 xM_138 pc i nx tg v := xlk_of (xall_ok xde_138 xtop pc _ h) (xok_138 pc _ h)
theorem xlk_139 (pc : Nat) (i : Instr) (nx : Nat) (tg : List Nat) (v : Value) (h : xM_139.2.2.2.2.2 pc = some (i, nx, tg, v)) : xlk xTB xTF xTM xTSs xCl xE0 xM_139 pc i nx tg v := xlk_of (xall_ok xde_139 xtop pc _ h) (xok_139 pc _ h)
theorem xlk_140 (pc : Nat) (i : Instr) (nx : Nat) (tg : List Nat) (v : Value) (h : xM_140.2.2.2.2.2 pc = some (i, nx, tg, v)) : xlk xTB xTF xTM xTSs xCl xE0 xM_140 pc i nx tg v := xlk_of (xall_ok xde_140 xtop pc _ h) (xok_140 pc _ h)
theorem xlk_141 (pc : Nat) (i : Instr) (nx : Nat) (tg : List Nat) (v : Value) (h : xM_141.2.2.2.2.2 pc = some (i, nx, tg, v)) : xlk xTB xTF xTM xTSs xCl xE0 xM_141 pc i nx tg v := xlk_of (xall_ok xde_141 xtop pc _ h) (xok_141 pc _ h)
theorem xlk_142 (pc : Nat) (i : Instr) (nx : Nat) (tg : List Nat) (v : Value) (h : xM_142.2.2.2.2.2 pc = some (i, nx, tg, v)) : xlk xTB xTF xTM xTSs xCl xE0 xM_142 pc i nx tg v := xlk_of (xall_ok xde_142 xtop pc _ h) (xok_142 pc _ h)
theorem xlk_143 (pc : Nat) (i : Instr) (nx : Nat) (tg : List Nat) (v : Value) (h : xM_143.2.2.2.2.2 pc = some (i, nx, tg, v)) : xlk xTB xTF xTM xTSs xCl xE0 xM_143 pc i nx tg v := xlk_of (xall_ok xde_143 xtop pc _ h) (xok_143 pc _ h)
theorem xlk_144 (pc : Nat) (i : Instr) (nx : Nat) (tg : List Nat) (v : Value) (h : xM_144.2.2.2.2.2 pc = some (i, nx, tg, v)) : xlk xTB xTF xTM xTSs xCl xE0 xM_144 pc i nx tg v := xlk_of (xall_ok xde_144 xtop pc _ h) (xok_144 pc _ h)
theorem xlk_145 (pc : Nat) (i : Instr) (nx : Nat) (tg : List Nat) (v : Value) (h : xM_145.2.2.2.2.2 pc = some (i, nx, tg, v)) : xlk xTB xTF xTM xTSs xCl xE0 xM_145 pc i nx tg v := xlk_of (xall_ok xde_145 xtop pc _ h) (xok_145 pc _ h)
theorem xlk_146 (pc : Nat) (i : Instr) (nx : Nat) (tg : List Nat) (v : Value) (h : xM_146.2.2.2.2.2 pc = some (i, nx, tg, v)) : xlk xTB xTF xTM xTSs xCl xE0 xM_146 pc i nx tg v := xlk_of (xall_ok xde_146 xtop pc _ h) (xok_146 pc _ h)
theorem xlk_147 (pc : Nat) (i : Instr) (nx : Nat) (tg : List Nat) (v : Value) (h : xM_147.2.2.2.2.2 pc = some (i, nx, tg, v)) : xlk xTB xTF xTM xTSs xCl xE0 xM_147 pc i nx tg v := xlk_of (xall_ok xde_147 xtop pc _ h) (xok_147 pc _ h)
theorem xlk_148 (pc : Nat) (i : Instr) (nx : Nat) (tg : List Nat) (v : Value) (h : xM_148.2.2.2.2.2 pc = some (i, nx, tg, v)) : xlk xTB xTF xTM xTSs xCl xE0 xM_148 pc i nx tg v := xlk_of (xall_ok xde_148 xtop pc _ h) (xok_148 pc _ h)
theorem xlk_149 (pc : Nat) (i : Instr) (nx : Nat) (tg : List Nat) (v : Value) (h : xM_149.2.2.2.2.2 pc = some (i, nx, tg, v)) : xlk xTB xTF xTM xTSs xCl xE0 xM_149 pc i nx tg v := xlk_of (xall_ok xde_149 xtop pc _ h) (xok_149 pc _ h)
theorem xlk_150 (pc : Nat) (i : Instr) (nx : Nat) (tg : List Nat) (v : Value) (h : xM_150.2.2.2.2.2 pc = some (i, nx, tg, v)) : xlk xTB xTF xTM xTSs xCl xE0 xM_150 pc i nx tg v := xlk_of (xall_ok xde_150 xtop pc _ h) (xok_150 pc _ h)
theorem xlk_151 (pc : Nat) (i : Instr) (nx : Nat) (tg : List Nat) (v : Value) (h : xM_151.2.2.2.2.2 pc = some (i, nx, tg, v)) : xlk xTB xTF xTM xTSs xCl xE0 xM_151 pc i nx tg v := xlk_of (xall_ok xde_151 xtop pc _ h) (xok_151 pc _ h)
theorem xlk_152 (pc : Nat) (i : Instr) (nx : Nat) (tg : List Nat) (v : Value) (h : xM_152.2.2.2.2.2 pc = some (i, nx, tg, v)) : xlk xTB xTF xTM xTSs xCl xE0 xM_152 pc i nx tg v := xlk_of (xall_ok xde_152 xtop pc _ h) (xok_152 pc _ h)
theorem xlk_153 (pc : Nat) (i : Instr) (nx : Nat) (tg : List Nat) (v : Value) (h : xM_153.2.2.2.2.2 pc = some (i, nx, tg, v)) : xlk xTB xTF xTM xTSs xCl xE0 xM_153 pc i nx tg v := xlk_of (xall_ok xde_153 xtop pc _ h) (xok_153 pc _ h)
theorem xlk_154 (pc : Nat) (i : Instr) (nx : Nat) (tg : List Nat) (v : Value) (h : xM_154.2.2.2.2.2 pc = some (i, nx, tg, v)) : xlk xTB xTF xTM xTSs xCl xE0 xM_154 pc i nx tg v := xlk_of (xall_ok xde_154 xtop pc _ h) (xok_154 pc _ h)
theorem xlk_155 (pc : Nat) (i : Instr) (nx : Nat) (tg : List Nat) (v : Value) (h : xM_155.2.2.2.2.2 pc = some (i, nx, tg, v)) : xlk xTB xTF xTM xTSs xCl xE0 xM_155 pc i nx tg v := xlk_of (xall_ok xde_155 xtop pc _ h) (xok_155 pc _ h)
theorem xlk_156 (pc : Nat) (i : Instr) (nx : Nat) (tg : List Nat) (v : Value) (h : xM_156.2.2.2.2.2 pc = some (i, nx, tg, v)) : xlk xTB xTF xTM xTSs xCl xE0 xM_156 pc i nx tg v := xlk_of (xall_ok xde_156 xtop pc _ h) (xok_156 pc _ h)
theorem xlk_157 (pc : Nat) (i : Instr) (nx : Nat) (tg : List Nat) (v : Value) (h : xM_157.2.2.2.2.2 pc = some (i, nx, tg, v)) : xlk xTB xTF xTM xTSs xCl xE0 xM_157 pc i nx tg v := xlk_of (xall_ok xde_157 xtop pc _ h) (xok_157 pc _ h)
theorem xlk_158 (pc : Nat) (i : Instr) (nx : Nat) (tg : List Nat) (v : Value) (h : xM_158.2.2.2.2.2 pc = some (i, nx, tg, v)) : xlk xTB xTF xTM xTSs xCl xE0 xM_158 pc i nx tg v := xlk_of (xall_ok xde_158 xtop pc _ h) (xok_158 pc _ h)
theorem xlk_159 (pc : Nat) (i : Instr) (nx : Nat) (tg : List Nat) (v : Value) (h : xM_159.2.2.2.2.2 pc = some (i, nx, tg, v)) : xlk xTB xTF xTM xTSs xCl xE0 xM_159 pc i nx tg v := xlk_of (xall_ok xde_159 xtop pc _ h) (xok_159 pc _ h)
theorem xlk_160 (pc : Nat) (i : Instr) (nx : Nat) (tg : List Nat) (v : Value) (h : xM_160.2.2.2.2.2 pc = some (i, nx, tg, v)) : xlk xTB xTF xTM xTSs xCl xE0 xM_160 pc i nx tg v := xlk_of (xall_ok xde_160 xtop pc _ h) (xok_160 pc _ h)
theorem xlk_161 (pc : Nat) (i : Instr) (nx : Nat) (tg : List Nat) (v : Value) (h : xM_161.2.2.2.2.2 pc = some (i, nx, tg, v)) : xlk xTB xTF xTM xTSs xCl xE0 xM_161 pc i nx tg v := xlk_of (xall_ok xde_161 xtop pc _ h) (xok_161 pc _ h)
theorem xlk_162 (pc : Nat) (i : Instr) (nx : Nat) (tg : List Nat) (v : Value) (h : xM_162.2.2.2.2.2 pc = some (i, nx, tg, v)) : xlk xTB xTF xTM xTSs xCl xE0 xM_162 pc i nx tg v := xlk_of (xall_ok xde_162 xtop pc _ h) (xok_162 pc _ h)
theorem xlk_163 (pc : Nat) (i : Instr) (nx : Nat) (tg : List Nat) (v : Value) (h : xM_163.2.2.2.2.2 pc = some (i, nx, tg, v)) : xlk xTB xTF xTM xTSs xCl xE0 xM_163 pc i nx tg v := xlk_of (xall_ok xde_163 xtop pc _ h) (xok_163 pc _ h)
theorem xlk_164 (pc : Nat) (i : Instr) (nx : Nat) (tg : List Nat) (v : Value) (h : xM_164.2.2.2.2.2 pc = some (i, nx, tg, v)) : xlk xTB xTF xTM xTSs xCl xE0 xM_164 pc i nx tg v := xlk_of (xall_ok xde_164 xtop pc _ h) (xok_164 pc _ h)
theorem xlk_165 (pc : Nat) (i : Instr) (nx : Nat) (tg : List Nat) (v : Value) (h : xM_165.2.2.2.2.2 pc = some (i, nx, tg, v)) : xlk xTB xTF xTM xTSs xCl xE0 xM_165 pc i nx tg v := xlk_of (xall_ok xde_165 xtop pc _ h) (xok_165 pc _ h)
theorem xlk_166 (pc : Nat) (i : Instr) (nx : Nat) (tg : List Nat) (v : Value) (h : xM_166.2.2.2.2.2 pc = some (i, nx, tg, v)) : xlk xTB xTF xTM xTSs xCl xE0 xM_166 pc i nx tg v := xlk_of (xall_ok xde_166 xtop pc _ h) (xok_166 pc _ h)
theorem xlk_167 (pc : Nat) (i : Instr) (nx : Nat) (tg : List Nat) (v : Value) (h : xM_167.2.2.2.2.2 pc = some (i, nx, tg, v)) : xlk xTB xTF xTM xTSs xCl xE0 xM_167 pc i nx tg v := xlk_of (xall_ok xde_167 xtop pc _ h) (xok_167 pc _ h)
theorem xlk_168 (pc : Nat) (i : Instr) (nx : Nat) (tg : List Nat) (v : Value) (h : xM_168.2.2.2.2.2 pc = some (i, nx, tg, v)) : xlk xTB xTF xTM xTSs xCl xE0 xM_168 pc i nx tg v := xlk_of (xall_ok xde_168 xtop pc _ h) (xok_168 pc _ h)
theorem xlk_169 (pc : Nat) (i : Instr) (nx : Nat) (tg : List Nat) (v : Value) (h : xM_169.2.2.2.2.2 pc = some (i, nx, tg, v)) : xlk xTB xTF xTM xTSs xCl xE0 xM_169 pc i nx tg v := xlk_of (xall_ok xde_169 xtop pc _ h) (xok_169 pc _ h)
set_option maxRecDepth 100000 in
theorem xmt_all {P : xM → Prop} (H : P xM_0 ∧ P xM_1 ∧ P xM_2 ∧ P xM_3 ∧ P xM_4 ∧ P xM_5 ∧ P xM_6 ∧ P xM_7 ∧ P xM_8 ∧ P xM_9 ∧ P xM_10 ∧ P xM_11 ∧ P xM_12 ∧ P xM_13 ∧ P xM_14 ∧ P xM_15 ∧ P xM_16 ∧ P xM_17 ∧ P xM_18 ∧ P xM_19 ∧ P xM_20 ∧ P xM_21 ∧ P xM_22 ∧ P xM_23 ∧ P xM_24 ∧ P xM_25 ∧ P xM_26 ∧ P xM_27 ∧ P xM_28 ∧ P xM_29 ∧ P xM_30 ∧ P xM_31 ∧ P xM_32 ∧ P xM_33 ∧ P xM_34 ∧ P xM_35 ∧ P xM_36 ∧ P xM_37 ∧ P xM_38 ∧ P xM_39 ∧ P xM_40 ∧ P xM_41 ∧ P xM_42 ∧ P xM_43 ∧ P xM_44 ∧ P xM_45 ∧ P xM_46 ∧ P xM_47 ∧ P xM_48 ∧ P xM_49 ∧ P xM_50 ∧ P xM_51 ∧ P xM_52 ∧ P xM_53 ∧ P xM_54 ∧ P xM_55 ∧ P xM_56 ∧ P xM_57 ∧ P xM_58 ∧ P xM_59 ∧ P xM_60 ∧ P xM_61 ∧ P xM_62 ∧ P xM_63 ∧ P xM_64 ∧ P xM_65 ∧ P xM_66 ∧ P xM_67 ∧ P xM_68 ∧ P xM_69 ∧ P xM_70 ∧ P xM_71 ∧ P xM_72 ∧ P xM_73 ∧ P xM_74 ∧ P xM_75 ∧ P xM_76 ∧ P xM_77 ∧ P xM_78 ∧ P xM_79 ∧ P xM_80 ∧ P xM_81 ∧ P xM_82 ∧ P xM_83 ∧ P xM_84 ∧ P xM_85 ∧ P xM_86 ∧ P xM_87 ∧ P xM_88 ∧ P xM_89 ∧ P xM_90 ∧ P xM_91 ∧ P xM_92 ∧ P xM_93 ∧ P xM_94 ∧ P xM_95 ∧ P xM_96 ∧ P xM_97 ∧ P xM_98 ∧ P xM_99 ∧ P xM_100 ∧ P xM_101 ∧ P xM_102 ∧ P xM_103 ∧ P xM_104 ∧ P xM_105 ∧ P xM_106 ∧ P xM_107 ∧ P xM_108 ∧ P xM_109 ∧ P xM_110 ∧ P xM_111 ∧ P xM_112 ∧ P xM_113 ∧ P xM_114 ∧ P xM_115 ∧ P xM_116 ∧ P xM_117 ∧ P xM_118 ∧ P xM_119 ∧ P xM_120 ∧ P xM_121 ∧ P xM_122 ∧ P xM_123 ∧ P xM_124 ∧ P xM_125 ∧ P xM_126 ∧ P xM_127 ∧ P xM_128 ∧ P xM_129 ∧ P xM_130 ∧ P xM_131 ∧ P xM_132 ∧ P xM_133 ∧ P xM_134 ∧ P xM_135 ∧ P xM_136 ∧ P xM_137 ∧ P xM_138 ∧ P xM_139 ∧ P xM_140 ∧ P xM_141 ∧ P xM_142 ∧ P xM_143 ∧ P xM_144 ∧ P xM_145 ∧ P xM_146 ∧ P xM_147 ∧ P xM_148 ∧ P xM_149 ∧ P xM_150 ∧ P xM_151 ∧ P xM_152 ∧ P xM_153 ∧ P xM_154 ∧ P xM_155 ∧ P xM_156 ∧ P xM_157 ∧ P xM_158 ∧ P xM_159 ∧ P xM_160 ∧ P xM_161 ∧ P xM_162 ∧ P xM_163 ∧ P xM_164 ∧ P xM_165 ∧ P xM_166 ∧ P xM_167 ∧ P xM_168 ∧ P xM_169) : ∀ y, P (xMt y) := by
  obtain ⟨h0, h1, h2, h3, h4, h5, h6, h7, h8, h9, h10, h11, h12, h13, h14, h15, h16, h17, h18, h19, h20, h21, h22, h23, h24, h25, h26, h27, h28, h29, h30, h31, h32, h33, h34, h35, h36, h37, h38, h39, h40, h41, h42, h43, h44, h45, h46, h47, h48, h49, h50, h51, h52, h53, h54, h55, h56, h57, h58, h59, h60, h61, h62, h63, h64, h65, h66, h67, h68, h69, h70, h71, h72, h73, h74, h75, h76, h77, h78, h79, h80, h81, h82, h83, h84, h85, h86, h87, h88, h89, h90, h91, h92, h93, h94, h95, h96, h97, h98, h99, h100, h101, h102, h103, h104, h105, h106, h107, h108, h109, h110, h111, h112, h113, h114, h115, h116, h117, h118, h119, h120, h121, h122, h123, h124, h125, h126, h127, h128, h129, h130, h131, h132, h133, h134, h135, h136, h137, h138, h139, h140, h141, h142, h143, h144, h145, h146, h147, h148, h149, h150, h151, h152, h153, h154, h155, h156, h157, h158, h159, h160, h161, h162, h163, h164, h165, h166, h167, h168, h169⟩ := H
  intro y
  unfold xMt
  cases Nat.ble 85 y with
  | true =>
    cases Nat.ble 127 y with
    | true =>
      cases Nat.ble 148 y with
      | true =>
        cases Nat.ble 159 y with
        | true =>
          cases Nat.ble 164 y with
          | true =>
            cases Nat.ble 167 y with
            | true =>
              cases Nat.ble 168 y with
              | true =>
                cases Nat.ble 169 y with
                | true =>
                  exact h169
                | false =>
                  exact h168
              | false =>
                exact h167
            | false =>
              cases Nat.ble 165 y with
              | true =>
                cases Nat.ble 166 y with
                | true =>
                  exact h166
                | false =>
                  exact h165
              | false =>
                exact h164
          | false =>
            cases Nat.ble 161 y with
            | true =>
              cases Nat.ble 162 y with
              | true =>
                cases Nat.ble 163 y with
                | true =>
                  exact h163
                | false =>
                  exact h162
              | false =>
                exact h161
            | false =>
              cases Nat.ble 160 y with
              | true =>
                exact h160
              | false =>
                exact h159
        | false =>
          cases Nat.ble 153 y with
          | true =>
            cases Nat.ble 156 y with
            | true =>
              cases Nat.ble 157 y with
              | true =>
                cases Nat.ble 158 y with
                | true =>
                  exact h158
                | false =>
                  exact h157
              | false =>
                exact h156
            | false =>
              cases Nat.ble 154 y with
              | true =>
                cases Nat.ble 155 y with
                | true =>
                  exact h155
                | false =>
                  exact h154
              | false =>
                exact h153
          | false =>
            cases Nat.ble 150 y with
            | true =>
              cases Nat.ble 151 y with
              | true =>
                cases Nat.ble 152 y with
                | true =>
                  exact h152
                | false =>
                  exact h151
              | false =>
                exact h150
            | false =>
              cases Nat.ble 149 y with
              | true =>
                exact h149
              | false =>
                exact h148
      | false =>
        cases Nat.ble 137 y with
        | true =>
          cases Nat.ble 142 y with
          | true =>
            cases Nat.ble 145 y with
            | true =>
              cases Nat.ble 146 y with
              | true =>
                cases Nat.ble 147 y with
                | true =>
                  exact h147
                | false =>
                  exact h146
              | false =>
                exact h145
            | false =>
              cases Nat.ble 143 y with
              | true =>
                cases Nat.ble 144 y with
                | true =>
                  exact h144
                | false =>
                  exact h143
              | false =>
                exact h142
          | false =>
            cases Nat.ble 139 y with
            | true =>
              cases Nat.ble 140 y with
              | true =>
                cases Nat.ble 141 y with
                | true =>
                  exact h141
                | false =>
                  exact h140
              | false =>
                exact h139
            | false =>
              cases Nat.ble 138 y with
              | true =>
                exact h138
              | false =>
                exact h137
        | false =>
          cases Nat.ble 132 y with
          | true =>
            cases Nat.ble 134 y with
            | true =>
              cases Nat.ble 135 y with
              | true =>
                cases Nat.ble 136 y with
                | true =>
                  exact h136
                | false =>
                  exact h135
              | false =>
                exact h134
            | false =>
              cases Nat.ble 133 y with
              | true =>
                exact h133
              | false =>
                exact h132
          | false =>
            cases Nat.ble 129 y with
            | true =>
              cases Nat.ble 130 y with
              | true =>
                cases Nat.ble 131 y with
                | true =>
                  exact h131
                | false =>
                  exact h130
              | false =>
                exact h129
            | false =>
              cases Nat.ble 128 y with
              | true =>
                exact h128
              | false =>
                exact h127
    | false =>
      cases Nat.ble 106 y with
      | true =>
        cases Nat.ble 116 y with
        | true =>
          cases Nat.ble 121 y with
          | true =>
            cases Nat.ble 124 y with
            | true =>
              cases Nat.ble 125 y with
              | true =>
                cases Nat.ble 126 y with
                | true =>
                  exact h126
                | false =>
                  exact h125
              | false =>
                exact h124
            | false =>
              cases Nat.ble 122 y with
              | true =>
                cases Nat.ble 123 y with
                | true =>
                  exact h123
                | false =>
                  exact h122
              | false =>
                exact h121
          | false =>
            cases Nat.ble 118 y with
            | true =>
              cases Nat.ble 119 y with
              | true =>
                cases Nat.ble 120 y with
                | true =>
                  exact h120
                | false =>
                  exact h119
              | false =>
                exact h118
            | false =>
              cases Nat.ble 117 y with
              | true =>
                exact h117
              | false =>
                exact h116
        | false =>
          cases Nat.ble 111 y with
          | true =>
            cases Nat.ble 113 y with
            | true =>
              cases Nat.ble 114 y with
              | true =>
                cases Nat.ble 115 y with
                | true =>
                  exact h115
                | false =>
                  exact h114
              | false =>
                exact h113
            | false =>
              cases Nat.ble 112 y with
              | true =>
                exact h112
              | false =>
                exact h111
          | false =>
            cases Nat.ble 108 y with
            | true =>
              cases Nat.ble 109 y with
              | true =>
                cases Nat.ble 110 y with
                | true =>
                  exact h110
                | false =>
                  exact h109
              | false =>
                exact h108
            | false =>
              cases Nat.ble 107 y with
              | true =>
                exact h107
              | false =>
                exact h106
      | false =>
        cases Nat.ble 95 y with
        | true =>
          cases Nat.ble 100 y with
          | true =>
            cases Nat.ble 103 y with
            | true =>
              cases Nat.ble 104 y with
              | true =>
                cases Nat.ble 105 y with
                | true =>
                  exact h105
                | false =>
                  exact h104
              | false =>
                exact h103
            | false =>
              cases Nat.ble 101 y with
              | true =>
                cases Nat.ble 102 y with
                | true =>
                  exact h102
                | false =>
                  exact h101
              | false =>
                exact h100
          | false =>
            cases Nat.ble 97 y with
            | true =>
              cases Nat.ble 98 y with
              | true =>
                cases Nat.ble 99 y with
                | true =>
                  exact h99
                | false =>
                  exact h98
              | false =>
                exact h97
            | false =>
              cases Nat.ble 96 y with
              | true =>
                exact h96
              | false =>
                exact h95
        | false =>
          cases Nat.ble 90 y with
          | true =>
            cases Nat.ble 92 y with
            | true =>
              cases Nat.ble 93 y with
              | true =>
                cases Nat.ble 94 y with
                | true =>
                  exact h94
                | false =>
                  exact h93
              | false =>
                exact h92
            | false =>
              cases Nat.ble 91 y with
              | true =>
                exact h91
              | false =>
                exact h90
          | false =>
            cases Nat.ble 87 y with
            | true =>
              cases Nat.ble 88 y with
              | true =>
                cases Nat.ble 89 y with
                | true =>
                  exact h89
                | false =>
                  exact h88
              | false =>
                exact h87
            | false =>
              cases Nat.ble 86 y with
              | true =>
                exact h86
              | false =>
                exact h85
  | false =>
    cases Nat.ble 42 y with
    | true =>
      cases Nat.ble 63 y with
      | true =>
        cases Nat.ble 74 y with
        | true =>
          cases Nat.ble 79 y with
          | true =>
            cases Nat.ble 82 y with
            | true =>
              cases Nat.ble 83 y with
              | true =>
                cases Nat.ble 84 y with
                | true =>
                  exact h84
                | false =>
                  exact h83
              | false =>
                exact h82
            | false =>
              cases Nat.ble 80 y with
              | true =>
                cases Nat.ble 81 y with
                | true =>
                  exact h81
                | false =>
                  exact h80
              | false =>
                exact h79
          | false =>
            cases Nat.ble 76 y with
            | true =>
              cases Nat.ble 77 y with
              | true =>
                cases Nat.ble 78 y with
                | true =>
                  exact h78
                | false =>
                  exact h77
              | false =>
                exact h76
            | false =>
              cases Nat.ble 75 y with
              | true =>
                exact h75
              | false =>
                exact h74
        | false =>
          cases Nat.ble 68 y with
          | true =>
            cases Nat.ble 71 y with
            | true =>
              cases Nat.ble 72 y with
              | true =>
                cases Nat.ble 73 y with
                | true =>
                  exact h73
                | false =>
                  exact h72
              | false =>
                exact h71
            | false =>
              cases Nat.ble 69 y with
              | true =>
                cases Nat.ble 70 y with
                | true =>
                  exact h70
                | false =>
                  exact h69
              | false =>
                exact h68
          | false =>
            cases Nat.ble 65 y with
            | true =>
              cases Nat.ble 66 y with
              | true =>
                cases Nat.ble 67 y with
                | true =>
                  exact h67
                | false =>
                  exact h66
              | false =>
                exact h65
            | false =>
              cases Nat.ble 64 y with
              | true =>
                exact h64
              | false =>
                exact h63
      | false =>
        cases Nat.ble 52 y with
        | true =>
          cases Nat.ble 57 y with
          | true =>
            cases Nat.ble 60 y with
            | true =>
              cases Nat.ble 61 y with
              | true =>
                cases Nat.ble 62 y with
                | true =>
                  exact h62
                | false =>
                  exact h61
              | false =>
                exact h60
            | false =>
              cases Nat.ble 58 y with
              | true =>
                cases Nat.ble 59 y with
                | true =>
                  exact h59
                | false =>
                  exact h58
              | false =>
                exact h57
          | false =>
            cases Nat.ble 54 y with
            | true =>
              cases Nat.ble 55 y with
              | true =>
                cases Nat.ble 56 y with
                | true =>
                  exact h56
                | false =>
                  exact h55
              | false =>
                exact h54
            | false =>
              cases Nat.ble 53 y with
              | true =>
                exact h53
              | false =>
                exact h52
        | false =>
          cases Nat.ble 47 y with
          | true =>
            cases Nat.ble 49 y with
            | true =>
              cases Nat.ble 50 y with
              | true =>
                cases Nat.ble 51 y with
                | true =>
                  exact h51
                | false =>
                  exact h50
              | false =>
                exact h49
            | false =>
              cases Nat.ble 48 y with
              | true =>
                exact h48
              | false =>
                exact h47
          | false =>
            cases Nat.ble 44 y with
            | true =>
              cases Nat.ble 45 y with
              | true =>
                cases Nat.ble 46 y with
                | true =>
                  exact h46
                | false =>
                  exact h45
              | false =>
                exact h44
            | false =>
              cases Nat.ble 43 y with
              | true =>
                exact h43
              | false =>
                exact h42
    | false =>
      cases Nat.ble 21 y with
      | true =>
        cases Nat.ble 31 y with
        | true =>
          cases Nat.ble 36 y with
          | true =>
            cases Nat.ble 39 y with
            | true =>
              cases Nat.ble 40 y with
              | true =>
                cases Nat.ble 41 y with
                | true =>
                  exact h41
                | false =>
                  exact h40
              | false =>
                exact h39
            | false =>
              cases Nat.ble 37 y with
              | true =>
                cases Nat.ble 38 y with
                | true =>
                  exact h38
                | false =>
                  exact h37
              | false =>
                exact h36
          | false =>
            cases Nat.ble 33 y with
            | true =>
              cases Nat.ble 34 y with
              | true =>
                cases Nat.ble 35 y with
                | true =>
                  exact h35
                | false =>
                  exact h34
              | false =>
                exact h33
            | false =>
              cases Nat.ble 32 y with
              | true =>
                exact h32
              | false =>
                exact h31
        | false =>
          cases Nat.ble 26 y with
          | true =>
            cases Nat.ble 28 y with
            | true =>
              cases Nat.ble 29 y with
              | true =>
                cases Nat.ble 30 y with
                | true =>
                  exact h30
                | false =>
                  exact h29
              | false =>
                exact h28
            | false =>
              cases Nat.ble 27 y with
              | true =>
                exact h27
              | false =>
                exact h26
          | false =>
            cases Nat.ble 23 y with
            | true =>
              cases Nat.ble 24 y with
              | true =>
                cases Nat.ble 25 y with
                | true =>
                  exact h25
                | false =>
                  exact h24
              | false =>
                exact h23
            | false =>
              cases Nat.ble 22 y with
              | true =>
                exact h22
              | false =>
                exact h21
      | false =>
        cases Nat.ble 10 y with
        | true =>
          cases Nat.ble 15 y with
          | true =>
            cases Nat.ble 18 y with
            | true =>
              cases Nat.ble 19 y with
              | true =>
                cases Nat.ble 20 y with
                | true =>
                  exact h20
                | false =>
                  exact h19
              | false =>
                exact h18
            | false =>
              cases Nat.ble 16 y with
              | true =>
                cases Nat.ble 17 y with
                | true =>
                  exact h17
                | false =>
                  exact h16
              | false =>
                exact h15
          | false =>
            cases Nat.ble 12 y with
            | true =>
              cases Nat.ble 13 y with
              | true =>
                cases Nat.ble 14 y with
                | true =>
                  exact h14
                | false =>
                  exact h13
              | false =>
                exact h12
            | false =>
              cases Nat.ble 11 y with
              | true =>
                exact h11
              | false =>
                exact h10
        | false =>
          cases Nat.ble 5 y with
          | true =>
            cases Nat.ble 7 y with
            | true =>
              cases Nat.ble 8 y with
              | true =>
                cases Nat.ble 9 y with
                | true =>
                  exact h9
                | false =>
                  exact h8
              | false =>
                exact h7
            | false =>
              cases Nat.ble 6 y with
              | true =>
                exact h6
              | false =>
                exact h5
          | false =>
            cases Nat.ble 2 y with
            | true =>
              cases Nat.ble 3 y with
              | true =>
                cases Nat.ble 4 y with
                | true =>
                  exact h4
                | false =>
                  exact h3
              | false =>
                exact h2
            | false =>
              cases Nat.ble 1 y with
              | true =>
                exact h1
              | false =>
                exact h0
set_option maxRecDepth 100000 in
theorem xTab0_lk : ∀ (y pc : Nat) (i : Instr) (nx : Nat) (tg : List Nat) (v : Value), (xE0.1 y).2.2.2.2.2 pc = some (i, nx, tg, v) → xlk xTB xTF xTM xTSs xCl xE0 (xE0.1 y) pc i nx tg v := fun y => xmt_all (P := fun M => ∀ (pc : Nat) (i : Instr) (nx : Nat) (tg : List Nat) (v : Value), M.2.2.2.2.2 pc = some (i, nx, tg, v) → xlk xTB xTF xTM xTSs xCl xE0 M pc i nx tg v) ⟨xlk_0, xlk_1, xlk_2, xlk_3, xlk_4, xlk_5, xlk_6, xlk_7, xlk_8, xlk_9, xlk_10, xlk_11, xlk_12, xlk_13, xlk_14, xlk_15, xlk_16, xlk_17, xlk_18, xlk_19, xlk_20, xlk_21, xlk_22, xlk_23, xlk_24, xlk_25, xlk_26, xlk_27, xlk_28, xlk_29, xlk_30, xlk_31, xlk_32, xlk_33, xlk_34, xlk_35, xlk_36, xlk_37, xlk_38, xlk_39, xlk_40, xlk_41, xlk_42, xlk_43, xlk_44, xlk_45, xlk_46, xlk_47, xlk_48, xlk_49, xlk_50, xlk_51, xlk_52, xlk_53, xlk_54, xlk_55, xlk_56, xlk_57, xlk_58, xlk_59, xlk_60, xlk_61, xlk_62, xlk_63, xlk_64, xlk_65, xlk_66, xlk_67, xlk_68, xlk_69, xlk_70, xlk_71, xlk_72, xlk_73, xlk_74, xlk_75, xlk_76, xlk_77, xlk_78, xlk_79, xlk_80, xlk_81, xlk_82, xlk_83, xlk_84, xlk_85, xlk_86, xlk_87, xlk_88, xlk_89, xlk_90, xlk_91, xlk_92, xlk_93, xlk_94, xlk_95, xlk_96, xlk_97, xlk_98, xlk_99, xlk_100, xlk_101, xlk_102, xlk_103, xlk_104, xlk_105, xlk_106, xlk_107, xlk_108, xlk_109, xlk_110, xlk_111, xlk_112, xlk_113, xlk_114, xlk_115, xlk_116, xlk_117, xlk_118, xlk_119, xlk_120, xlk_121, xlk_122, xlk_123, xlk_124, xlk_125, xlk_126, xlk_127, xlk_128, xlk_129, xlk_130, xlk_131, xlk_132, xlk_133, xlk_134, xlk_135, xlk_136, xlk_137, xlk_138, xlk_139, xlk_140, xlk_141, xlk_142, xlk_143, xlk_144, xlk_145, xlk_146, xlk_147, xlk_148, xlk_149, xlk_150, xlk_151, xlk_152, xlk_153, xlk_154, xlk_155, xlk_156, xlk_157, xlk_158, xlk_159, xlk_160, xlk_161, xlk_162, xlk_163, xlk_164, xlk_165, xlk_166, xlk_167, xlk_168, xlk_169⟩ y
set_option maxRecDepth 100000 in
theorem xTab0_nm : ∀ y, plainName (xE0.1 y).1.cls = true ∧ (xE0.1 y).1.cls = (xE0.1 y).2.2.2.2.1 := fun y => xmt_all (P := fun M => plainName M.1.cls = true ∧ M.1.cls = M.2.2.2.2.1) ⟨⟨by decide +kernel, rfl⟩, ⟨by decide +kernel, rfl⟩, ⟨by decide +kernel, rfl⟩, ⟨by decide +kernel, rfl⟩, ⟨by decide +kernel, rfl⟩, ⟨by decide +kernel, rfl⟩, ⟨by decide +kernel, rfl⟩, ⟨by decide +kernel, rfl⟩, ⟨by decide +kernel, rfl⟩, ⟨by decide +kernel, rfl⟩, ⟨by decide +kernel, rfl⟩, ⟨by decide +kernel, rfl⟩, ⟨by decide +kernel, rfl⟩, ⟨by decide +kernel, rfl⟩, ⟨by decide +kernel, rfl⟩, ⟨by decide +kernel, rfl⟩, ⟨by decide +kernel, rfl⟩, ⟨by decide +kernel, rfl⟩, ⟨by decide +kernel, rfl⟩, ⟨by decide +kernel, rfl⟩, ⟨by decide +kernel, rfl⟩, ⟨by decide +kernel, rfl⟩, ⟨by decide +kernel, rfl⟩, ⟨by decide +kernel, rfl⟩, ⟨by decide +kernel, rfl⟩, ⟨by decide +kernel, rfl⟩, ⟨by decide +kernel, rfl⟩, ⟨by decide +kernel, rfl⟩, ⟨by decide +kernel, rfl⟩, ⟨by decide +kernel, rfl⟩, ⟨by decide +kernel, rfl⟩, ⟨by decide +kernel, rfl⟩, ⟨by decide +kernel, rfl⟩, ⟨by decide +kernel, rfl⟩, ⟨by decide +kernel, rfl⟩, ⟨by decide +kernel, rfl⟩, ⟨by decide +kernel, rfl⟩, ⟨by decide +kernel, rfl⟩, ⟨by decide +kernel, rfl⟩, ⟨by decide +kernel, rfl⟩, ⟨by decide +kernel, rfl⟩, ⟨by decide +kernel, rfl⟩, ⟨by decide +kernel, rfl⟩, ⟨by decide +kernel, rfl⟩, ⟨by decide +kernel, rfl⟩, ⟨by decide +kernel, rfl⟩, ⟨by decide +kernel, rfl⟩, ⟨by decide +kernel, rfl⟩, ⟨by decide +kernel, rfl⟩, ⟨by decide +kernel, rfl⟩, ⟨by decide +kernel, rfl⟩, ⟨by decide +kernel, rfl⟩, ⟨by decide +kernel, rfl⟩, ⟨by decide +kernel, rfl⟩, ⟨by decide +kernel, rfl⟩, ⟨by decide +kernel, rfl⟩, ⟨by decide +kernel, rfl⟩, ⟨by decide +kernel, rfl⟩, ⟨by decide +kernel, rfl⟩, ⟨by decide +kernel, rfl⟩, ⟨by decide +kernel, rfl⟩, ⟨by decide +kernel, rfl⟩, ⟨by decide +kernel, rfl⟩, ⟨by decide +kernel, rfl⟩, ⟨by decide +kernel, rfl⟩, ⟨by decide +kernel, rfl⟩, ⟨by decide +kernel, rfl⟩, ⟨by decide +kernel, rfl⟩, ⟨by decide +kernel, rfl⟩, ⟨by decide +kernel, rfl⟩, ⟨by decide +kernel, rfl⟩, ⟨by decide +kernel, rfl⟩, ⟨by decide +kernel, rfl⟩, ⟨by decide +kernel, rfl⟩, ⟨by decide +kernel, rfl⟩, ⟨by decide +kernel, rfl⟩, ⟨by decide +kernel, rfl⟩, ⟨by decide +kernel, rfl⟩, ⟨by decide +kernel, rfl⟩, ⟨by decide +kernel, rfl⟩, ⟨by decide +kernel, rfl⟩, ⟨by decide +kernel, rfl⟩, ⟨by decide +kernel, rfl⟩, ⟨by decide +kernel, rfl⟩, ⟨by decide +kernel, rfl⟩, ⟨by decide +kernel, rfl⟩, ⟨by decide +kernel, rfl⟩, ⟨by decide +kernel, rfl⟩, ⟨by decide +kernel, rfl⟩, ⟨by decide +kernel, rfl⟩, ⟨by decide +kernel, rfl⟩, ⟨by decide +kernel, rfl⟩, ⟨by decide +kernel, rfl⟩, ⟨by decide +kernel, rfl⟩, ⟨by decide +kernel, rfl⟩, ⟨by decide +kernel, rfl⟩, ⟨by decide +kernel, rfl⟩, ⟨by decide +kernel, rfl⟩, ⟨by decide +kernel, rfl⟩, ⟨by decide +kernel, rfl⟩, ⟨by decide +kernel, rfl⟩, ⟨by decide +kernel, rfl⟩, ⟨by decide +kernel, rfl⟩, ⟨by decide +kernel, rfl⟩, ⟨by decide +kernel, rfl⟩, ⟨by decide +kernel, rfl⟩, ⟨by decide +kernel, rfl⟩, ⟨by decide +kernel, rfl⟩, ⟨by decide +kernel, rfl⟩, ⟨by decide +kernel, rfl⟩, ⟨by decide +kernel, rfl⟩, ⟨by decide +kernel, rfl⟩, ⟨by decide +kernel, rfl⟩, ⟨by decide +kernel, rfl⟩, ⟨by decide +kernel, rfl⟩, ⟨by decide +kernel, rfl⟩, ⟨by decide +kernel, rfl⟩, ⟨by decide +kernel, rfl⟩, ⟨by decide +kernel, rfl⟩, ⟨by decide +kernel, rfl⟩, ⟨by decide +kernel, rfl⟩, ⟨by decide +kernel, rfl⟩, ⟨by decide +kernel, rfl⟩, ⟨by decide +kernel, rfl⟩, ⟨by decide +kernel, rfl⟩, ⟨by decide +kernel, rfl⟩, ⟨by decide +kernel, rfl⟩, ⟨by decide +kernel, rfl⟩, ⟨by decide +kernel, rfl⟩, ⟨by decide +kernel, rfl⟩, ⟨by decide +kernel, rfl⟩, ⟨by decide +kernel, rfl⟩, ⟨by decide +kernel, rfl⟩, ⟨by decide +kernel, rfl⟩, ⟨by decide +kernel, rfl⟩, ⟨by decide +kernel, rfl⟩, ⟨by decide +kernel, rfl⟩, ⟨by decide +kernel, rfl⟩, ⟨by decide +kernel, rfl⟩, ⟨by decide +kernel, rfl⟩, ⟨by decide +kernel, rfl⟩, ⟨by decide +kernel, rfl⟩, ⟨by decide +kernel, rfl⟩, ⟨by decide +kernel, rfl⟩, ⟨by decide +kernel, rfl⟩, ⟨by decide +kernel, rfl⟩, ⟨by decide +kernel, rfl⟩, ⟨by decide +kernel, rfl⟩, ⟨by decide +kernel, rfl⟩, ⟨by decide +kernel, rfl⟩, ⟨by decide +kernel, rfl⟩, ⟨by decide +kernel, rfl⟩, ⟨by decide +kernel, rfl⟩, ⟨by decide +kernel, rfl⟩, ⟨by decide +kernel, rfl⟩, ⟨by decide +kernel, rfl⟩, ⟨by decide +kernel, rfl⟩, ⟨by decide +kernel, rfl⟩, ⟨by decide +kernel, rfl⟩, ⟨by decide +kernel, rfl⟩, ⟨by decide +kernel, rfl⟩, ⟨by decide +kernel, rfl⟩, ⟨by decide +kernel, rfl⟩, ⟨by decide +kernel, rfl⟩, ⟨by decide +kernel, rfl⟩, ⟨by decide +kernel, rfl⟩, ⟨by decide +kernel, rfl⟩, ⟨by decide +kernel, rfl⟩, ⟨by decide +kernel, rfl⟩, ⟨by decide +kernel, rfl⟩⟩ y
set_option maxRecDepth 100000 in
set_option maxHeartbeats 4000000 in
theorem xTab0_cl : xCL xE0 xCl xTB := by
  intro ci r h
  match ci, h with
  | 0, h =>
    cases h
    exact ⟨xuw_0, rfl, fun k hk => of_decide_eq_true (xall_lt (N := 10) (p := fun k => decide (parseFieldDescriptor (xff_0 k).2.2.1 = some (xft_0.getD k .int))) (by decide +kernel) k hk), fun a ha b hb => of_decide_eq_true (xall_lt (xall_lt (N := 10) (p := fun a => (List.range 10).all fun b => decide (a ≠ b → (xff_0 a).2.1 ≠ (xff_0 b).2.1)) (by decide +kernel) a ha |> fun z => z) b hb), (xw3 19 rfl rfl), (xw3 1 rfl rfl), fun ty hty => of_decide_eq_true (List.all_eq_true.mp (show xft_0.all (fun ty => decide (ty ≠ FieldType.double)) = true by decide +kernel) ty hty)⟩
  | 1, h =>
    cases h
    exact ⟨xuw_1, rfl, fun k hk => of_decide_eq_true (xall_lt (N := 2) (p := fun k => decide (parseFieldDescriptor (xff_1 k).2.2.1 = some (xft_1.getD k .int))) (by decide +kernel) k hk), fun a ha b hb => of_decide_eq_true (xall_lt (xall_lt (N := 2) (p := fun a => (List.range 2).all fun b => decide (a ≠ b → (xff_1 a).2.1 ≠ (xff_1 b).2.1)) (by decide +kernel) a ha |> fun z => z) b hb), (xw3 27 rfl rfl), (xw3 2 rfl rfl), fun ty hty => of_decide_eq_true (List.all_eq_true.mp (show xft_1.all (fun ty => decide (ty ≠ FieldType.double)) = true by decide +kernel) ty hty)⟩
  | 2, h =>
    cases h
    exact ⟨xuw_2, rfl, fun k hk => of_decide_eq_true (xall_lt (N := 14) (p := fun k => decide (parseFieldDescriptor (xff_2 k).2.2.1 = some (xft_2.getD k .int))) (by decide +kernel) k hk), fun a ha b hb => of_decide_eq_true (xall_lt (xall_lt (N := 14) (p := fun a => (List.range 14).all fun b => decide (a ≠ b → (xff_2 a).2.1 ≠ (xff_2 b).2.1)) (by decide +kernel) a ha |> fun z => z) b hb), (xw4 13 rfl rfl), (xw3 3 rfl rfl), fun ty hty => of_decide_eq_true (List.all_eq_true.mp (show xft_2.all (fun ty => decide (ty ≠ FieldType.double)) = true by decide +kernel) ty hty)⟩
  | 3, h =>
    cases h
    exact ⟨xuw_3, rfl, fun k hk => of_decide_eq_true (xall_lt (N := 3) (p := fun k => decide (parseFieldDescriptor (xff_3 k).2.2.1 = some (xft_3.getD k .int))) (by decide +kernel) k hk), fun a ha b hb => of_decide_eq_true (xall_lt (xall_lt (N := 3) (p := fun a => (List.range 3).all fun b => decide (a ≠ b → (xff_3 a).2.1 ≠ (xff_3 b).2.1)) (by decide +kernel) a ha |> fun z => z) b hb), (xw6 9 rfl rfl), (xw3 4 rfl rfl), fun ty hty => of_decide_eq_true (List.all_eq_true.mp (show xft_3.all (fun ty => decide (ty ≠ FieldType.double)) = true by decide +kernel) ty hty)⟩
  | 4, h =>
    cases h
    exact ⟨xuw_4, rfl, fun k hk => of_decide_eq_true (xall_lt (N := 2) (p := fun k => decide (parseFieldDescriptor (xff_4 k).2.2.1 = some (xft_4.getD k .int))) (by decide +kernel) k hk), fun a ha b hb => of_decide_eq_true (xall_lt (xall_lt (N := 2) (p := fun a => (List.range 2).all fun b => decide (a ≠ b → (xff_4 a).2.1 ≠ (xff_4 b).2.1)) (by decide +kernel) a ha |> fun z => z) b hb), (xw6 25 rfl rfl), (xw3 5 rfl rfl), fun ty hty => of_decide_eq_true (List.all_eq_true.mp (show xft_4.all (fun ty => decide (ty ≠ FieldType.double)) = true by decide +kernel) ty hty)⟩
  | 5, h =>
    cases h
    exact ⟨xuw_5, rfl, fun k hk => of_decide_eq_true (xall_lt (N := 11) (p := fun k => decide (parseFieldDescriptor (xff_5 k).2.2.1 = some (xft_5.getD k .int))) (by decide +kernel) k hk), fun a ha b hb => of_decide_eq_true (xall_lt (xall_lt (N := 11) (p := fun a => (List.range 11).all fun b => decide (a ≠ b → (xff_5 a).2.1 ≠ (xff_5 b).2.1)) (by decide +kernel) a ha |> fun z => z) b hb), (xw7 8 rfl rfl), (xw3 6 rfl rfl), fun ty hty => of_decide_eq_true (List.all_eq_true.mp (show xft_5.all (fun ty => decide (ty ≠ FieldType.double)) = true by decide +kernel) ty hty)⟩
  | 6, h =>
    cases h
    exact ⟨xuw_6, rfl, fun k hk => of_decide_eq_true (xall_lt (N := 3) (p := fun k => decide (parseFieldDescriptor (xff_6 k).2.2.1 = some (xft_6.getD k .int))) (by decide +kernel) k hk), fun a ha b hb => of_decide_eq_true (xall_lt (xall_lt (N := 3) (p := fun a => (List.range 3).all fun b => decide (a ≠ b → (xff_6 a).2.1 ≠ (xff_6 b).2.1)) (by decide +kernel) a ha |> fun z => z) b hb), (xw8 21 rfl rfl), (xw3 7 rfl rfl), fun ty hty => of_decide_eq_true (List.all_eq_true.mp (show xft_6.all (fun ty => decide (ty ≠ FieldType.double)) = true by decide +kernel) ty hty)⟩
  | 7, h =>
    cases h
    exact ⟨xuw_7, rfl, fun k hk => of_decide_eq_true (xall_lt (N := 2) (p := fun k => decide (parseFieldDescriptor (xff_7 k).2.2.1 = some (xft_7.getD k .int))) (by decide +kernel) k hk), fun a ha b hb => of_decide_eq_true (xall_lt (xall_lt (N := 2) (p := fun a => (List.range 2).all fun b => decide (a ≠ b → (xff_7 a).2.1 ≠ (xff_7 b).2.1)) (by decide +kernel) a ha |> fun z => z) b hb), (xw9 7 rfl rfl), (xw3 8 rfl rfl), fun ty hty => of_decide_eq_true (List.all_eq_true.mp (show xft_7.all (fun ty => decide (ty ≠ FieldType.double)) = true by decide +kernel) ty hty)⟩
  | 8, h =>
    cases h
    exact ⟨xuw_8, rfl, fun k hk => of_decide_eq_true (xall_lt (N := 7) (p := fun k => decide (parseFieldDescriptor (xff_8 k).2.2.1 = some (xft_8.getD k .int))) (by decide +kernel) k hk), fun a ha b hb => of_decide_eq_true (xall_lt (xall_lt (N := 7) (p := fun a => (List.range 7).all fun b => decide (a ≠ b → (xff_8 a).2.1 ≠ (xff_8 b).2.1)) (by decide +kernel) a ha |> fun z => z) b hb), (xw9 21 rfl rfl), (xw3 9 rfl rfl), fun ty hty => of_decide_eq_true (List.all_eq_true.mp (show xft_8.all (fun ty => decide (ty ≠ FieldType.double)) = true by decide +kernel) ty hty)⟩
  | 9, h =>
    cases h
    exact ⟨xuw_9, rfl, fun k hk => of_decide_eq_true (xall_lt (N := 6) (p := fun k => decide (parseFieldDescriptor (xff_9 k).2.2.1 = some (xft_9.getD k .int))) (by decide +kernel) k hk), fun a ha b hb => of_decide_eq_true (xall_lt (xall_lt (N := 6) (p := fun a => (List.range 6).all fun b => decide (a ≠ b → (xff_9 a).2.1 ≠ (xff_9 b).2.1)) (by decide +kernel) a ha |> fun z => z) b hb), (xw9 27 rfl rfl), (xw3 10 rfl rfl), fun ty hty => of_decide_eq_true (List.all_eq_true.mp (show xft_9.all (fun ty => decide (ty ≠ FieldType.double)) = true by decide +kernel) ty hty)⟩
  | 10, h =>
    cases h
    exact ⟨xuw_10, rfl, fun k hk => of_decide_eq_true (xall_lt (N := 6) (p := fun k => decide (parseFieldDescriptor (xff_10 k).2.2.1 = some (xft_10.getD k .int))) (by decide +kernel) k hk), fun a ha b hb => of_decide_eq_true (xall_lt (xall_lt (N := 6) (p := fun a => (List.range 6).all fun b => decide (a ≠ b → (xff_10 a).2.1 ≠ (xff_10 b).2.1)) (by decide +kernel) a ha |> fun z => z) b hb), (xw11 11 rfl rfl), (xw3 11 rfl rfl), fun ty hty => of_decide_eq_true (List.all_eq_true.mp (show xft_10.all (fun ty => decide (ty ≠ FieldType.double)) = true by decide +kernel) ty hty)⟩
  | 11, h =>
    cases h
    exact ⟨xuw_11, rfl, fun k hk => of_decide_eq_true (xall_lt (N := 63) (p := fun k => decide (parseFieldDescriptor (xff_11 k).2.2.1 = some (xft_11.getD k .int))) (by decide +kernel) k hk), fun a ha b hb => of_decide_eq_true (xall_lt (xall_lt (N := 63) (p := fun a => (List.range 63).all fun b => decide (a ≠ b → (xff_11 a).2.1 ≠ (xff_11 b).2.1)) (by decide +kernel) a ha |> fun z => z) b hb), (xw31 10 rfl rfl), (xw3 12 rfl rfl), fun ty hty => of_decide_eq_true (List.all_eq_true.mp (show xft_11.all (fun ty => decide (ty ≠ FieldType.double)) = true by decide +kernel) ty hty)⟩
  | k + 12, h => simp [xCl] at h
theorem xTab0_ac : ∀ a : ArrayType, xoka (xty a) = true → Cond.arrayClass (xty a) ∈ xTB := by
  intro a h
  cases a with
  | int => exact (xw6 7 rfl rfl)
  | byte => exact (xw4 11 rfl rfl)
  | long => exact (xw11 9 rfl rfl)
  | float => exact (xw8 19 rfl rfl)
  | _ => cases h
theorem xTab0 : xTab xTB xTF xTM xTSs xCl xE0 := ⟨xTB_good, xTab0_cl, xTab0_ac, xTab0_lk, xTab0_nm⟩
