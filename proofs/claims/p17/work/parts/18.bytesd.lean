set_option maxRecDepth 100000 in
theorem xde_83 : xall_b xM_83.2.1 18 xI_83 = true := by decide +kernel
set_option maxRecDepth 100000 in
theorem xde_84 : xall_b xM_84.2.1 74 xI_84 = true := by decide +kernel
set_option maxRecDepth 100000 in
theorem xde_85 : xall_b xM_85.2.1 81 xI_85 = true := by decide +kernel
set_option maxRecDepth 100000 in
theorem xde_86 : xall_b xM_86.2.1 50 xI_86 = true := by decide +kernel
set_option maxRecDepth 100000 in
theorem xde_87 : xall_b xM_87.2.1 23 xI_87 = true := by decide +kernel
set_option maxRecDepth 100000 in
theorem xde_88 : xall_b xM_88.2.1 97 xI_88 = true := by decide +kernel
set_option maxRecDepth 100000 in
theorem xde_89 : xall_b xM_89.2.1 183 xI_89 = true := by decide +kernel
set_option maxRecDepth 100000 in
theorem xde_90 : xall_b xM_90.2.1 60 xI_90 = true := by decide +kernel
set_option maxRecDepth 100000 in
theorem xde_91 : xall_b xM_91.2.1 31 xI_91 = true := by decide +kernel
set_option maxRecDepth 100000 in
theorem xde_92 : xall_b xM_92.2.1 71 xI_92 = true := by decide +kernel
set_option maxRecDepth 100000 in
theorem xde_93 : xall_b xM_93.2.1 123 xI_93 = true := by decide +kernel
set_option maxRecDepth 100000 in
theorem xde_94 : xall_b xM_94.2.1 88 xI_94 = true := by decide +kernel
set_option maxRecDepth 100000 in
theorem xde_95 : xall_b xM_95.2.1 46 xI_95 = true := by decide +kernel
set_option maxRecDepth 100000 in
theorem xde_96 : xall_b xM_96.2.1 38 xI_96 = true := by decide +kernel
set_option maxRecDepth 100000 in
theorem xde_97 : xall_b xM_97.2.1 110 xI_97 = true := by decide +kernel
set_option maxRecDepth 100000 in
theorem xde_98 : xall_b xM_98.2.1 42 xI_98 = true := by decide +kernel
set_option maxRecDepth 100000 in
theorem xde_99 : xall_b xM_99.2.1 128 xI_99 = true := by decide +kernel
set_option maxRecDepth 100000 in
theorem xde_100 : xall_b xM_100.2.1 120 xI_100 = true := by decide +kernel
set_option maxRecDepth 100000 in
theorem xde_101 : xall_b xM_101.2.1 235 xI_101 = true := by decide +kernel
set_option maxRecDepth 100000 in
theorem xde_102 : xall_b xM_102.2.1 36 xI_102 = true := by decide +kernel
set_option maxRecDepth 100000 in
theorem xde_103 : xall_b xM_103.2.1 76 xI_103 = true := by decide +kernel
set_option maxRecDepth 100000 in
theorem xde_104 : xall_b xM_104.2.1 31 xI_104 = true := by decide +kernel
set_option maxRecDepth 100000 in
theorem xde_105 : xall_b xM_105.2.1 82 xI_105 = true := by decide +kernel
set_option maxRecDepth 100000 in
theorem xde_106 : xall_b xM_106.2.1 74 xI_106 = true := by decide +kernel
set_option maxRecDepth 100000 in
theorem xde_107 : xall_b xM_107.2.1 72 xI_107 = true := by decide +kernel
set_option maxRecDepth 100000 in
theorem xde_108 : xall_b xM_108.2.1 202 xI_108 = true := by decide +kernel
set_option maxRecDepth 100000 in
theorem xde_109 : xall_b xM_109.2.1 58 xI_109 = true := by decide +kernel
set_option maxRecDepth 100000 in
theorem xde_110 : xall_b xM_110.2.1 65 xI_110 = true := by decide +kernel
set_option maxRecDepth 100000 in
theorem xde_111 : xall_b xM_111.2.1 39 xI_111 = true := by decide +kernel
set_option maxRecDepth 100000 in
theorem xde_112 : xall_b xM_112.2.1 18 xI_112 = true := by decide +kernel
set_option maxRecDepth 100000 in
theorem xde_113 : xall_b xM_113.2.1 33 xI_113 = true := by decide +kernel
set_option maxRecDepth 100000 in
theorem xde_114 : xall_b xM_114.2.1 62 xI_114 = true := by decide +kernel
set_option maxRecDepth 100000 in
theorem xde_115 : xall_b xM_115.2.1 55 xI_115 = true := by decide +kernel
set_option maxRecDepth 100000 in
theorem xde_116 : xall_b xM_116.2.1 21 xI_116 = true := by decide +kernel
set_option maxRecDepth 100000 in
theorem xde_117 : xall_b xM_117.2.1 98 xI_117 = true := by decide +kernel
set_option maxRecDepth 100000 in
theorem xde_118 : xall_b xM_118.2.1 6 xI_118 = true := by decide +kernel
set_option maxRecDepth 100000 in
theorem xde_119 : xall_b xM_119.2.1 133 xI_119 = true := by decide +kernel
