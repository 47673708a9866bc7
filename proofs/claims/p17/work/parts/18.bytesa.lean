set_option maxRecDepth 100000 in
theorem xde_0 : xall_b xM_0.2.1 126 xI_0 = true := by decide +kernel
set_option maxRecDepth 100000 in
theorem xde_1 : xall_b xM_1.2.1 10 xI_1 = true := by decide +kernel
set_option maxRecDepth 100000 in
theorem xde_2 : xall_b xM_2.2.1 25 xI_2 = true := by decide +kernel
set_option maxRecDepth 100000 in
theorem xde_3 : xall_b xM_3.2.1 18 xI_3 = true := by decide +kernel
set_option maxRecDepth 100000 in
theorem xde_4 : xall_b xM_4.2.1 34 xI_4 = true := by decide +kernel
set_option maxRecDepth 100000 in
theorem xde_5 : xall_b xM_5.2.1 37 xI_5 = true := by decide +kernel
set_option maxRecDepth 100000 in
theorem xde_6 : xall_b xM_6.2.1 32 xI_6 = true := by decide +kernel
set_option maxRecDepth 100000 in
theorem xde_7 : xall_b xM_7.2.1 8 xI_7 = true := by decide +kernel
set_option maxRecDepth 100000 in
theorem xde_8 : xall_b xM_8.2.1 34 xI_8 = true := by decide +kernel
set_option maxRecDepth 100000 in
theorem xde_9 : xall_b xM_9.2.1 46 xI_9 = true := by decide +kernel
set_option maxRecDepth 100000 in
theorem xde_10 : xall_b xM_10.2.1 10 xI_10 = true := by decide +kernel
set_option maxRecDepth 100000 in
theorem xde_11 : xall_b xM_11.2.1 44 xI_11 = true := by decide +kernel
set_option maxRecDepth 100000 in
theorem xde_12 : xall_b xM_12.2.1 29 xI_12 = true := by decide +kernel
set_option maxRecDepth 100000 in
theorem xde_13 : xall_b xM_13.2.1 35 xI_13 = true := by decide +kernel
set_option maxRecDepth 100000 in
theorem xde_14 : xall_b xM_14.2.1 53 xI_14 = true := by decide +kernel
set_option maxRecDepth 100000 in
theorem xde_15 : xall_b xM_15.2.1 39 xI_15 = true := by decide +kernel
set_option maxRecDepth 100000 in
theorem xde_16 : xall_b xM_16.2.1 23 xI_16 = true := by decide +kernel
set_option maxRecDepth 100000 in
theorem xde_17 : xall_b xM_17.2.1 19 xI_17 = true := by decide +kernel
set_option maxRecDepth 100000 in
theorem xde_18 : xall_b xM_18.2.1 116 xI_18 = true := by decide +kernel
set_option maxRecDepth 100000 in
theorem xde_19 : xall_b xM_19.2.1 49 xI_19 = true := by decide +kernel
set_option maxRecDepth 100000 in
theorem xde_20 : xall_b xM_20.2.1 85 xI_20 = true := by decide +kernel
set_option maxRecDepth 100000 in
theorem xde_21 : xall_b xM_21.2.1 9 xI_21 = true := by decide +kernel
set_option maxRecDepth 100000 in
theorem xde_22 : xall_b xM_22.2.1 14 xI_22 = true := by decide +kernel
set_option maxRecDepth 100000 in
theorem xde_23 : xall_b xM_23.2.1 371 xI_23 = true := by decide +kernel
set_option maxRecDepth 100000 in
theorem xde_24 : xall_b xM_24.2.1 16 xI_24 = true := by decide +kernel
set_option maxRecDepth 100000 in
theorem xde_25 : xall_b xM_25.2.1 78 xI_25 = true := by decide +kernel
set_option maxRecDepth 100000 in
theorem xde_26 : xall_b xM_26.2.1 44 xI_26 = true := by decide +kernel
set_option maxRecDepth 100000 in
theorem xde_27 : xall_b xM_27.2.1 12 xI_27 = true := by decide +kernel
set_option maxRecDepth 100000 in
theorem xde_28 : xall_b xM_28.2.1 35 xI_28 = true := by decide +kernel
set_option maxRecDepth 100000 in
theorem xde_29 : xall_b xM_29.2.1 23 xI_29 = true := by decide +kernel
set_option maxRecDepth 100000 in
theorem xde_30 : xall_b xM_30.2.1 58 xI_30 = true := by decide +kernel
set_option maxRecDepth 100000 in
theorem xde_31 : xall_b xM_31.2.1 78 xI_31 = true := by decide +kernel
set_option maxRecDepth 100000 in
theorem xde_32 : xall_b xM_32.2.1 41 xI_32 = true := by decide +kernel
set_option maxRecDepth 100000 in
theorem xde_33 : xall_b xM_33.2.1 29 xI_33 = true := by decide +kernel
set_option maxRecDepth 100000 in
theorem xde_34 : xall_b xM_34.2.1 40 xI_34 = true := by decide +kernel
set_option maxRecDepth 100000 in
theorem xde_35 : xall_b xM_35.2.1 33 xI_35 = true := by decide +kernel
set_option maxRecDepth 100000 in
theorem xde_36 : xall_b xM_36.2.1 179 xI_36 = true := by decide +kernel
set_option maxRecDepth 100000 in
theorem xde_37 : xall_b xM_37.2.1 225 xI_37 = true := by decide +kernel
set_option maxRecDepth 100000 in
theorem xde_38 : xall_b xM_38.2.1 270 xI_38 = true := by decide +kernel
set_option maxRecDepth 100000 in
theorem xde_39 : xall_b xM_39.2.1 59 xI_39 = true := by decide +kernel
set_option maxRecDepth 100000 in
theorem xde_40 : xall_b xM_40.2.1 55 xI_40 = true := by decide +kernel
set_option maxRecDepth 100000 in
theorem xde_41 : xall_b xM_41.2.1 72 xI_41 = true := by decide +kernel
set_option maxRecDepth 100000 in
theorem xde_42 : xall_b xM_42.2.1 676 xI_42 = true := by decide +kernel
