set_option maxRecDepth 100000 in
theorem xde_43 : xall_b xM_43.2.1 109 xI_43 = true := by decide +kernel
set_option maxRecDepth 100000 in
theorem xde_44 : xall_b xM_44.2.1 102 xI_44 = true := by decide +kernel
set_option maxRecDepth 100000 in
theorem xde_45 : xall_b xM_45.2.1 125 xI_45 = true := by decide +kernel
set_option maxRecDepth 100000 in
theorem xde_46 : xall_b xM_46.2.1 193 xI_46 = true := by decide +kernel
set_option maxRecDepth 100000 in
theorem xde_47 : xall_b xM_47.2.1 154 xI_47 = true := by decide +kernel
set_option maxRecDepth 100000 in
theorem xde_48 : xall_b xM_48.2.1 110 xI_48 = true := by decide +kernel
set_option maxRecDepth 100000 in
theorem xde_49 : xall_b xM_49.2.1 272 xI_49 = true := by decide +kernel
set_option maxRecDepth 100000 in
theorem xde_50 : xall_b xM_50.2.1 55 xI_50 = true := by decide +kernel
set_option maxRecDepth 100000 in
theorem xde_51 : xall_b xM_51.2.1 302 xI_51 = true := by decide +kernel
set_option maxRecDepth 100000 in
theorem xde_52 : xall_b xM_52.2.1 63 xI_52 = true := by decide +kernel
set_option maxRecDepth 100000 in
theorem xde_53 : xall_b xM_53.2.1 377 xI_53 = true := by decide +kernel
set_option maxRecDepth 100000 in
theorem xde_54 : xall_b xM_54.2.1 177 xI_54 = true := by decide +kernel
set_option maxRecDepth 100000 in
theorem xde_55 : xall_b xM_55.2.1 22 xI_55 = true := by decide +kernel
set_option maxRecDepth 100000 in
theorem xde_56 : xall_b xM_56.2.1 33 xI_56 = true := by decide +kernel
set_option maxRecDepth 100000 in
theorem xde_57 : xall_b xM_57.2.1 89 xI_57 = true := by decide +kernel
set_option maxRecDepth 100000 in
theorem xde_58 : xall_b xM_58.2.1 77 xI_58 = true := by decide +kernel
set_option maxRecDepth 100000 in
theorem xde_59 : xall_b xM_59.2.1 253 xI_59 = true := by decide +kernel
set_option maxRecDepth 100000 in
theorem xde_60 : xall_b xM_60.2.1 25 xI_60 = true := by decide +kernel
