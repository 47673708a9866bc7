set_option maxRecDepth 100000 in
theorem xde_61 : xall_b xM_61.2.1 55 xI_61 = true := by decide +kernel
set_option maxRecDepth 100000 in
theorem xde_62 : xall_b xM_62.2.1 30 xI_62 = true := by decide +kernel
set_option maxRecDepth 100000 in
theorem xde_63 : xall_b xM_63.2.1 58 xI_63 = true := by decide +kernel
set_option maxRecDepth 100000 in
theorem xde_64 : xall_b xM_64.2.1 108 xI_64 = true := by decide +kernel
set_option maxRecDepth 100000 in
theorem xde_65 : xall_b xM_65.2.1 59 xI_65 = true := by decide +kernel
set_option maxRecDepth 100000 in
theorem xde_66 : xall_b xM_66.2.1 193 xI_66 = true := by decide +kernel
set_option maxRecDepth 100000 in
theorem xde_67 : xall_b xM_67.2.1 470 xI_67 = true := by decide +kernel
set_option maxRecDepth 100000 in
theorem xde_68 : xall_b xM_68.2.1 419 xI_68 = true := by decide +kernel
set_option maxRecDepth 100000 in
theorem xde_69 : xall_b xM_69.2.1 182 xI_69 = true := by decide +kernel
set_option maxRecDepth 100000 in
theorem xde_70 : xall_b xM_70.2.1 50 xI_70 = true := by decide +kernel
set_option maxRecDepth 100000 in
theorem xde_71 : xall_b xM_71.2.1 16 xI_71 = true := by decide +kernel
set_option maxRecDepth 100000 in
theorem xde_72 : xall_b xM_72.2.1 76 xI_72 = true := by decide +kernel
set_option maxRecDepth 100000 in
theorem xde_73 : xall_b xM_73.2.1 341 xI_73 = true := by decide +kernel
set_option maxRecDepth 100000 in
theorem xde_74 : xall_b xM_74.2.1 106 xI_74 = true := by decide +kernel
set_option maxRecDepth 100000 in
theorem xde_75 : xall_b xM_75.2.1 39 xI_75 = true := by decide +kernel
set_option maxRecDepth 100000 in
theorem xde_76 : xall_b xM_76.2.1 27 xI_76 = true := by decide +kernel
set_option maxRecDepth 100000 in
theorem xde_77 : xall_b xM_77.2.1 26 xI_77 = true := by decide +kernel
set_option maxRecDepth 100000 in
theorem xde_78 : xall_b xM_78.2.1 70 xI_78 = true := by decide +kernel
set_option maxRecDepth 100000 in
theorem xde_79 : xall_b xM_79.2.1 99 xI_79 = true := by decide +kernel
set_option maxRecDepth 100000 in
theorem xde_80 : xall_b xM_80.2.1 60 xI_80 = true := by decide +kernel
set_option maxRecDepth 100000 in
theorem xde_81 : xall_b xM_81.2.1 28 xI_81 = true := by decide +kernel
set_option maxRecDepth 100000 in
theorem xde_82 : xall_b xM_82.2.1 49 xI_82 = true := by decide +kernel
