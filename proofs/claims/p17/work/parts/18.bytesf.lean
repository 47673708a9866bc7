set_option maxRecDepth 100000 in
theorem xde_157 : xall_b xM_157.2.1 23 xI_157 = true := by decide +kernel
set_option maxRecDepth 100000 in
theorem xde_158 : xall_b xM_158.2.1 74 xI_158 = true := by decide +kernel
set_option maxRecDepth 100000 in
theorem xde_159 : xall_b xM_159.2.1 47 xI_159 = true := by decide +kernel
set_option maxRecDepth 100000 in
theorem xde_160 : xall_b xM_160.2.1 49 xI_160 = true := by decide +kernel
set_option maxRecDepth 100000 in
theorem xde_161 : xall_b xM_161.2.1 47 xI_161 = true := by decide +kernel
set_option maxRecDepth 100000 in
theorem xde_162 : xall_b xM_162.2.1 8 xI_162 = true := by decide +kernel
set_option maxRecDepth 100000 in
theorem xde_163 : xall_b xM_163.2.1 11 xI_163 = true := by decide +kernel
set_option maxRecDepth 100000 in
theorem xde_164 : xall_b xM_164.2.1 11 xI_164 = true := by decide +kernel
set_option maxRecDepth 100000 in
theorem xde_165 : xall_b xM_165.2.1 39 xI_165 = true := by decide +kernel
set_option maxRecDepth 100000 in
theorem xde_166 : xall_b xM_166.2.1 46 xI_166 = true := by decide +kernel
set_option maxRecDepth 100000 in
theorem xde_167 : xall_b xM_167.2.1 105 xI_167 = true := by decide +kernel
set_option maxRecDepth 100000 in
theorem xde_168 : xall_b xM_168.2.1 45 xI_168 = true := by decide +kernel
set_option maxRecDepth 100000 in
theorem xde_169 : xall_b xM_169.2.1 34 xI_169 = true := by decide +kernel
