set_option maxRecDepth 100000 in
theorem xde_120 : xall_b xM_120.2.1 119 xI_120 = true := by decide +kernel
set_option maxRecDepth 100000 in
theorem xde_121 : xall_b xM_121.2.1 12 xI_121 = true := by decide +kernel
set_option maxRecDepth 100000 in
theorem xde_122 : xall_b xM_122.2.1 212 xI_122 = true := by decide +kernel
set_option maxRecDepth 100000 in
theorem xde_123 : xall_b xM_123.2.1 156 xI_123 = true := by decide +kernel
set_option maxRecDepth 100000 in
theorem xde_124 : xall_b xM_124.2.1 18 xI_124 = true := by decide +kernel
set_option maxRecDepth 100000 in
theorem xde_125 : xall_b xM_125.2.1 202 xI_125 = true := by decide +kernel
set_option maxRecDepth 100000 in
theorem xde_126 : xall_b xM_126.2.1 92 xI_126 = true := by decide +kernel
set_option maxRecDepth 100000 in
theorem xde_127 : xall_b xM_127.2.1 119 xI_127 = true := by decide +kernel
set_option maxRecDepth 100000 in
theorem xde_128 : xall_b xM_128.2.1 30 xI_128 = true := by decide +kernel
set_option maxRecDepth 100000 in
theorem xde_129 : xall_b xM_129.2.1 53 xI_129 = true := by decide +kernel
set_option maxRecDepth 100000 in
theorem xde_130 : xall_b xM_130.2.1 17 xI_130 = true := by decide +kernel
set_option maxRecDepth 100000 in
theorem xde_131 : xall_b xM_131.2.1 81 xI_131 = true := by decide +kernel
set_option maxRecDepth 100000 in
theorem xde_132 : xall_b xM_132.2.1 40 xI_132 = true := by decide +kernel
set_option maxRecDepth 100000 in
theorem xde_133 : xall_b xM_133.2.1 27 xI_133 = true := by decide +kernel
set_option maxRecDepth 100000 in
theorem xde_134 : xall_b xM_134.2.1 37 xI_134 = true := by decide +kernel
set_option maxRecDepth 100000 in
theorem xde_135 : xall_b xM_135.2.1 44 xI_135 = true := by decide +kernel
set_option maxRecDepth 100000 in
theorem xde_136 : xall_b xM_136.2.1 68 xI_136 = true := by decide +kernel
set_option maxRecDepth 100000 in
theorem xde_137 : xall_b xM_137.2.1 99 xI_137 = true := by decide +kernel
set_option maxRecDepth 100000 in
theorem xde_138 : xall_b xM_138.2.1 38 xI_138 = true := by decide +kernel
set_option maxRecDepth 100000 in
theorem xde_139 : xall_b xM_139.2.1 12 xI_139 = true := by decide +kernel
set_option maxRecDepth 100000 in
theorem xde_140 : xall_b xM_140.2.1 55 xI_140 = true := by decide +kernel
set_option maxRecDepth 100000 in
theorem xde_141 : xall_b xM_141.2.1 76 xI_141 = true := by decide +kernel
set_option maxRecDepth 100000 in
theorem xde_142 : xall_b xM_142.2.1 75 xI_142 = true := by decide +kernel
set_option maxRecDepth 100000 in
theorem xde_143 : xall_b xM_143.2.1 59 xI_143 = true := by decide +kernel
set_option maxRecDepth 100000 in
theorem xde_144 : xall_b xM_144.2.1 112 xI_144 = true := by decide +kernel
set_option maxRecDepth 100000 in
theorem xde_145 : xall_b xM_145.2.1 80 xI_145 = true := by decide +kernel
set_option maxRecDepth 100000 in
theorem xde_146 : xall_b xM_146.2.1 143 xI_146 = true := by decide +kernel
set_option maxRecDepth 100000 in
theorem xde_147 : xall_b xM_147.2.1 49 xI_147 = true := by decide +kernel
set_option maxRecDepth 100000 in
theorem xde_148 : xall_b xM_148.2.1 157 xI_148 = true := by decide +kernel
set_option maxRecDepth 100000 in
theorem xde_149 : xall_b xM_149.2.1 50 xI_149 = true := by decide +kernel
set_option maxRecDepth 100000 in
theorem xde_150 : xall_b xM_150.2.1 42 xI_150 = true := by decide +kernel
set_option maxRecDepth 100000 in
theorem xde_151 : xall_b xM_151.2.1 43 xI_151 = true := by decide +kernel
set_option maxRecDepth 100000 in
theorem xde_152 : xall_b xM_152.2.1 18 xI_152 = true := by decide +kernel
set_option maxRecDepth 100000 in
theorem xde_153 : xall_b xM_153.2.1 24 xI_153 = true := by decide +kernel
set_option maxRecDepth 100000 in
theorem xde_154 : xall_b xM_154.2.1 37 xI_154 = true := by decide +kernel
set_option maxRecDepth 100000 in
theorem xde_155 : xall_b xM_155.2.1 51 xI_155 = true := by decide +kernel
set_option maxRecDepth 100000 in
theorem xde_156 : xall_b xM_156.2.1 46 xI_156 = true := by decide +kernel
