theorem cs_125_0 : ((mc_125.drop 0).take 20).all (mm_f mM_125) = true := by decide +kernel
theorem ch_125 : mm_hd mM_125 = true := by decide +kernel
set_option maxRecDepth 20000 in
theorem cm_125 : Cond.code mM_125.1 mM_125.2.1 mM_125.2.2.1 mM_125.2.2.2.1 ∈ mk_LT := List.mem_cons_of_mem _ (List.mem_append_right _ (List.mem_append_right _ (List.mem_append_right _ (List.mem_append_right _ (List.mem_append_right _ (List.mem_append_right _ (List.mem_append_right _ (List.mem_of_getElem? (i := 119) rfl))))))))
theorem ce_125 : (mc_125.drop 20).all (mm_f mM_125) = true := by decide +kernel
theorem ck_125 : mm_OKM mM_125 := ⟨ch_125, cm_125, (mm_j 0 20 cs_125_0 ce_125)⟩
theorem cs_126_0 : ((mc_126.drop 0).take 20).all (mm_f mM_126) = true := by decide +kernel
theorem ch_126 : mm_hd mM_126 = true := by decide +kernel
set_option maxRecDepth 20000 in
theorem cm_126 : Cond.code mM_126.1 mM_126.2.1 mM_126.2.2.1 mM_126.2.2.2.1 ∈ mk_LT := List.mem_cons_of_mem _ (List.mem_append_right _ (List.mem_append_right _ (List.mem_append_right _ (List.mem_append_right _ (List.mem_append_right _ (List.mem_append_right _ (List.mem_append_right _ (List.mem_of_getElem? (i := 139) rfl))))))))
theorem ce_126 : (mc_126.drop 20).all (mm_f mM_126) = true := by decide +kernel
theorem ck_126 : mm_OKM mM_126 := ⟨ch_126, cm_126, (mm_j 0 20 cs_126_0 ce_126)⟩
theorem cs_127_0 : ((mc_127.drop 0).take 37).all (mm_f mM_127) = true := by decide +kernel
theorem ch_127 : mm_hd mM_127 = true := by decide +kernel
set_option maxRecDepth 20000 in
theorem cm_127 : Cond.code mM_127.1 mM_127.2.1 mM_127.2.2.1 mM_127.2.2.2.1 ∈ mk_LT := List.mem_cons_of_mem _ (List.mem_append_right _ (List.mem_append_right _ (List.mem_append_right _ (List.mem_append_right _ (List.mem_append_right _ (List.mem_append_left _ (List.mem_of_getElem? (i := 98) rfl)))))))
theorem ce_127 : (mc_127.drop 37).all (mm_f mM_127) = true := by decide +kernel
theorem ck_127 : mm_OKM mM_127 := ⟨ch_127, cm_127, (mm_j 0 37 cs_127_0 ce_127)⟩
theorem cs_128_0 : ((mc_128.drop 0).take 41).all (mm_f mM_128) = true := by decide +kernel
theorem ch_128 : mm_hd mM_128 = true := by decide +kernel
set_option maxRecDepth 20000 in
theorem cm_128 : Cond.code mM_128.1 mM_128.2.1 mM_128.2.2.1 mM_128.2.2.2.1 ∈ mk_LT := List.mem_cons_of_mem _ (List.mem_append_right _ (List.mem_append_right _ (List.mem_append_right _ (List.mem_append_right _ (List.mem_append_right _ (List.mem_append_left _ (List.mem_of_getElem? (i := 113) rfl)))))))
theorem ce_128 : (mc_128.drop 41).all (mm_f mM_128) = true := by decide +kernel
theorem ck_128 : mm_OKM mM_128 := ⟨ch_128, cm_128, (mm_j 0 41 cs_128_0 ce_128)⟩
theorem cs_129_0 : ((mc_129.drop 0).take 5).all (mm_f mM_129) = true := by decide +kernel
theorem ch_129 : mm_hd mM_129 = true := by decide +kernel
set_option maxRecDepth 20000 in
theorem cm_129 : Cond.code mM_129.1 mM_129.2.1 mM_129.2.2.1 mM_129.2.2.2.1 ∈ mk_LT := List.mem_cons_of_mem _ (List.mem_append_right _ (List.mem_append_right _ (List.mem_append_right _ (List.mem_append_right _ (List.mem_append_right _ (List.mem_append_left _ (List.mem_of_getElem? (i := 132) rfl)))))))
theorem ce_129 : (mc_129.drop 5).all (mm_f mM_129) = true := by decide +kernel
theorem ck_129 : mm_OKM mM_129 := ⟨ch_129, cm_129, (mm_j 0 5 cs_129_0 ce_129)⟩
theorem cs_130_0 : ((mc_130.drop 0).take 5).all (mm_f mM_130) = true := by decide +kernel
theorem ch_130 : mm_hd mM_130 = true := by decide +kernel
set_option maxRecDepth 20000 in
theorem cm_130 : Cond.code mM_130.1 mM_130.2.1 mM_130.2.2.1 mM_130.2.2.2.1 ∈ mk_LT := List.mem_cons_of_mem _ (List.mem_append_right _ (List.mem_append_right _ (List.mem_append_right _ (List.mem_append_right _ (List.mem_append_right _ (List.mem_append_left _ (List.mem_of_getElem? (i := 207) rfl)))))))
theorem ce_130 : (mc_130.drop 5).all (mm_f mM_130) = true := by decide +kernel
theorem ck_130 : mm_OKM mM_130 := ⟨ch_130, cm_130, (mm_j 0 5 cs_130_0 ce_130)⟩
theorem cs_131_0 : ((mc_131.drop 0).take 8).all (mm_f mM_131) = true := by decide +kernel
theorem ch_131 : mm_hd mM_131 = true := by decide +kernel
set_option maxRecDepth 20000 in
theorem cm_131 : Cond.code mM_131.1 mM_131.2.1 mM_131.2.2.1 mM_131.2.2.2.1 ∈ mk_LT := List.mem_cons_of_mem _ (List.mem_append_right _ (List.mem_append_right _ (List.mem_append_right _ (List.mem_append_right _ (List.mem_append_right _ (List.mem_append_left _ (List.mem_of_getElem? (i := 144) rfl)))))))
theorem ce_131 : (mc_131.drop 8).all (mm_f mM_131) = true := by decide +kernel
theorem ck_131 : mm_OKM mM_131 := ⟨ch_131, cm_131, (mm_j 0 8 cs_131_0 ce_131)⟩
theorem cs_132_0 : ((mc_132.drop 0).take 10).all (mm_f mM_132) = true := by decide +kernel
theorem ch_132 : mm_hd mM_132 = true := by decide +kernel
set_option maxRecDepth 20000 in
theorem cm_132 : Cond.code mM_132.1 mM_132.2.1 mM_132.2.2.1 mM_132.2.2.2.1 ∈ mk_LT := List.mem_cons_of_mem _ (List.mem_append_right _ (List.mem_append_right _ (List.mem_append_right _ (List.mem_append_right _ (List.mem_append_right _ (List.mem_append_left _ (List.mem_of_getElem? (i := 160) rfl)))))))
theorem ce_132 : (mc_132.drop 10).all (mm_f mM_132) = true := by decide +kernel
theorem ck_132 : mm_OKM mM_132 := ⟨ch_132, cm_132, (mm_j 0 10 cs_132_0 ce_132)⟩
theorem cs_133_0 : ((mc_133.drop 0).take 40).all (mm_f mM_133) = true := by decide +kernel
theorem ch_133 : mm_hd mM_133 = true := by decide +kernel
set_option maxRecDepth 20000 in
theorem cm_133 : Cond.code mM_133.1 mM_133.2.1 mM_133.2.2.1 mM_133.2.2.2.1 ∈ mk_LT := List.mem_cons_of_mem _ (List.mem_append_right _ (List.mem_append_right _ (List.mem_append_right _ (List.mem_append_right _ (List.mem_append_right _ (List.mem_append_left _ (List.mem_of_getElem? (i := 124) rfl)))))))
theorem ce_133 : (mc_133.drop 40).all (mm_f mM_133) = true := by decide +kernel
theorem ck_133 : mm_OKM mM_133 := ⟨ch_133, cm_133, (mm_j 0 40 cs_133_0 ce_133)⟩
theorem cs_134_0 : ((mc_134.drop 0).take 34).all (mm_f mM_134) = true := by decide +kernel
theorem ch_134 : mm_hd mM_134 = true := by decide +kernel
set_option maxRecDepth 20000 in
theorem cm_134 : Cond.code mM_134.1 mM_134.2.1 mM_134.2.2.1 mM_134.2.2.2.1 ∈ mk_LT := List.mem_cons_of_mem _ (List.mem_append_right _ (List.mem_append_right _ (List.mem_append_right _ (List.mem_append_right _ (List.mem_append_right _ (List.mem_append_left _ (List.mem_of_getElem? (i := 136) rfl)))))))
theorem ce_134 : (mc_134.drop 34).all (mm_f mM_134) = true := by decide +kernel
theorem ck_134 : mm_OKM mM_134 := ⟨ch_134, cm_134, (mm_j 0 34 cs_134_0 ce_134)⟩
theorem cs_135_0 : ((mc_135.drop 0).take 26).all (mm_f mM_135) = true := by decide +kernel
theorem ch_135 : mm_hd mM_135 = true := by decide +kernel
set_option maxRecDepth 20000 in
theorem cm_135 : Cond.code mM_135.1 mM_135.2.1 mM_135.2.2.1 mM_135.2.2.2.1 ∈ mk_LT := List.mem_cons_of_mem _ (List.mem_append_right _ (List.mem_append_right _ (List.mem_append_right _ (List.mem_append_right _ (List.mem_append_right _ (List.mem_append_left _ (List.mem_of_getElem? (i := 128) rfl)))))))
theorem ce_135 : (mc_135.drop 26).all (mm_f mM_135) = true := by decide +kernel
theorem ck_135 : mm_OKM mM_135 := ⟨ch_135, cm_135, (mm_j 0 26 cs_135_0 ce_135)⟩
theorem cs_136_0 : ((mc_136.drop 0).take 40).all (mm_f mM_136) = true := by decide +kernel
theorem ch_136 : mm_hd mM_136 = true := by decide +kernel
set_option maxRecDepth 20000 in
theorem cm_136 : Cond.code mM_136.1 mM_136.2.1 mM_136.2.2.1 mM_136.2.2.2.1 ∈ mk_LT := List.mem_cons_of_mem _ (List.mem_append_right _ (List.mem_append_right _ (List.mem_append_right _ (List.mem_append_right _ (List.mem_append_right _ (List.mem_append_left _ (List.mem_of_getElem? (i := 121) rfl)))))))
theorem ce_136 : (mc_136.drop 40).all (mm_f mM_136) = true := by decide +kernel
theorem ck_136 : mm_OKM mM_136 := ⟨ch_136, cm_136, (mm_j 0 40 cs_136_0 ce_136)⟩
theorem cs_137_0 : ((mc_137.drop 0).take 31).all (mm_f mM_137) = true := by decide +kernel
theorem ch_137 : mm_hd mM_137 = true := by decide +kernel
set_option maxRecDepth 20000 in
theorem cm_137 : Cond.code mM_137.1 mM_137.2.1 mM_137.2.2.1 mM_137.2.2.2.1 ∈ mk_LT := List.mem_cons_of_mem _ (List.mem_append_right _ (List.mem_append_right _ (List.mem_append_right _ (List.mem_append_right _ (List.mem_append_right _ (List.mem_append_left _ (List.mem_of_getElem? (i := 148) rfl)))))))
theorem ce_137 : (mc_137.drop 31).all (mm_f mM_137) = true := by decide +kernel
theorem ck_137 : mm_OKM mM_137 := ⟨ch_137, cm_137, (mm_j 0 31 cs_137_0 ce_137)⟩
theorem cs_138_0 : ((mc_138.drop 0).take 43).all (mm_f mM_138) = true := by decide +kernel
theorem ch_138 : mm_hd mM_138 = true := by decide +kernel
set_option maxRecDepth 20000 in
theorem cm_138 : Cond.code mM_138.1 mM_138.2.1 mM_138.2.2.1 mM_138.2.2.2.1 ∈ mk_LT := List.mem_cons_of_mem _ (List.mem_append_right _ (List.mem_append_right _ (List.mem_append_right _ (List.mem_append_right _ (List.mem_append_right _ (List.mem_append_left _ (List.mem_of_getElem? (i := 140) rfl)))))))
theorem ce_138 : (mc_138.drop 43).all (mm_f mM_138) = true := by decide +kernel
theorem ck_138 : mm_OKM mM_138 := ⟨ch_138, cm_138, (mm_j 0 43 cs_138_0 ce_138)⟩
theorem cs_139_0 : ((mc_139.drop 0).take 59).all (mm_f mM_139) = true := by decide +kernel
theorem cs_139_59 : ((mc_139.drop 59).take 5).all (mm_f mM_139) = true := by decide +kernel
theorem ch_139 : mm_hd mM_139 = true := by decide +kernel
set_option maxRecDepth 20000 in
theorem cm_139 : Cond.code mM_139.1 mM_139.2.1 mM_139.2.2.1 mM_139.2.2.2.1 ∈ mk_LT := List.mem_cons_of_mem _ (List.mem_append_right _ (List.mem_append_right _ (List.mem_append_right _ (List.mem_append_right _ (List.mem_append_right _ (List.mem_append_left _ (List.mem_of_getElem? (i := 152) rfl)))))))
theorem ce_139 : (mc_139.drop 64).all (mm_f mM_139) = true := by decide +kernel
theorem ck_139 : mm_OKM mM_139 := ⟨ch_139, cm_139, (mm_j 0 59 cs_139_0 (mm_j 59 5 cs_139_59 ce_139))⟩
theorem cs_140_0 : ((mc_140.drop 0).take 31).all (mm_f mM_140) = true := by decide +kernel
theorem ch_140 : mm_hd mM_140 = true := by decide +kernel
set_option maxRecDepth 20000 in
theorem cm_140 : Cond.code mM_140.1 mM_140.2.1 mM_140.2.2.1 mM_140.2.2.2.1 ∈ mk_LT := List.mem_cons_of_mem _ (List.mem_append_right _ (List.mem_append_right _ (List.mem_append_right _ (List.mem_append_right _ (List.mem_append_right _ (List.mem_append_left _ (List.mem_of_getElem? (i := 156) rfl)))))))
theorem ce_140 : (mc_140.drop 31).all (mm_f mM_140) = true := by decide +kernel
theorem ck_140 : mm_OKM mM_140 := ⟨ch_140, cm_140, (mm_j 0 31 cs_140_0 ce_140)⟩
theorem cs_141_0 : ((mc_141.drop 0).take 54).all (mm_f mM_141) = true := by decide +kernel
theorem cs_141_54 : ((mc_141.drop 54).take 11).all (mm_f mM_141) = true := by decide +kernel
theorem ch_141 : mm_hd mM_141 = true := by decide +kernel
set_option maxRecDepth 20000 in
theorem cm_141 : Cond.code mM_141.1 mM_141.2.1 mM_141.2.2.1 mM_141.2.2.2.1 ∈ mk_LT := List.mem_cons_of_mem _ (List.mem_append_right _ (List.mem_append_right _ (List.mem_append_right _ (List.mem_append_right _ (List.mem_append_right _ (List.mem_append_left _ (List.mem_of_getElem? (i := 164) rfl)))))))
theorem ce_141 : (mc_141.drop 65).all (mm_f mM_141) = true := by decide +kernel
theorem ck_141 : mm_OKM mM_141 := ⟨ch_141, cm_141, (mm_j 0 54 cs_141_0 (mm_j 54 11 cs_141_54 ce_141))⟩
theorem cs_142_0 : ((mc_142.drop 0).take 17).all (mm_f mM_142) = true := by decide +kernel
theorem ch_142 : mm_hd mM_142 = true := by decide +kernel
set_option maxRecDepth 20000 in
theorem cm_142 : Cond.code mM_142.1 mM_142.2.1 mM_142.2.2.1 mM_142.2.2.2.1 ∈ mk_LT := List.mem_cons_of_mem _ (List.mem_append_right _ (List.mem_append_right _ (List.mem_append_right _ (List.mem_append_right _ (List.mem_append_right _ (List.mem_append_right _ (List.mem_append_left _ (List.mem_of_getElem? (i := 10) rfl))))))))
theorem ce_142 : (mc_142.drop 17).all (mm_f mM_142) = true := by decide +kernel
theorem ck_142 : mm_OKM mM_142 := ⟨ch_142, cm_142, (mm_j 0 17 cs_142_0 ce_142)⟩
theorem cs_143_0 : ((mc_143.drop 0).take 19).all (mm_f mM_143) = true := by decide +kernel
theorem ch_143 : mm_hd mM_143 = true := by decide +kernel
set_option maxRecDepth 20000 in
theorem cm_143 : Cond.code mM_143.1 mM_143.2.1 mM_143.2.2.1 mM_143.2.2.2.1 ∈ mk_LT := List.mem_cons_of_mem _ (List.mem_append_right _ (List.mem_append_right _ (List.mem_append_right _ (List.mem_append_right _ (List.mem_append_right _ (List.mem_append_right _ (List.mem_append_left _ (List.mem_of_getElem? (i := 17) rfl))))))))
theorem ce_143 : (mc_143.drop 19).all (mm_f mM_143) = true := by decide +kernel
theorem ck_143 : mm_OKM mM_143 := ⟨ch_143, cm_143, (mm_j 0 19 cs_143_0 ce_143)⟩
theorem cs_144_0 : ((mc_144.drop 0).take 11).all (mm_f mM_144) = true := by decide +kernel
theorem ch_144 : mm_hd mM_144 = true := by decide +kernel
set_option maxRecDepth 20000 in
theorem cm_144 : Cond.code mM_144.1 mM_144.2.1 mM_144.2.2.1 mM_144.2.2.2.1 ∈ mk_LT := List.mem_cons_of_mem _ (List.mem_append_right _ (List.mem_append_right _ (List.mem_append_right _ (List.mem_append_right _ (List.mem_append_right _ (List.mem_append_right _ (List.mem_append_left _ (List.mem_of_getElem? (i := 20) rfl))))))))
theorem ce_144 : (mc_144.drop 11).all (mm_f mM_144) = true := by decide +kernel
theorem ck_144 : mm_OKM mM_144 := ⟨ch_144, cm_144, (mm_j 0 11 cs_144_0 ce_144)⟩
theorem cs_145_0 : ((mc_145.drop 0).take 24).all (mm_f mM_145) = true := by decide +kernel
theorem ch_145 : mm_hd mM_145 = true := by decide +kernel
set_option maxRecDepth 20000 in
theorem cm_145 : Cond.code mM_145.1 mM_145.2.1 mM_145.2.2.1 mM_145.2.2.2.1 ∈ mk_LT := List.mem_cons_of_mem _ (List.mem_append_right _ (List.mem_append_right _ (List.mem_append_right _ (List.mem_append_right _ (List.mem_append_right _ (List.mem_append_right _ (List.mem_append_left _ (List.mem_of_getElem? (i := 14) rfl))))))))
theorem ce_145 : (mc_145.drop 24).all (mm_f mM_145) = true := by decide +kernel
theorem ck_145 : mm_OKM mM_145 := ⟨ch_145, cm_145, (mm_j 0 24 cs_145_0 ce_145)⟩
theorem cs_146_0 : ((mc_146.drop 0).take 60).all (mm_f mM_146) = true := by decide +kernel
theorem cs_146_60 : ((mc_146.drop 60).take 2).all (mm_f mM_146) = true := by decide +kernel
theorem ch_146 : mm_hd mM_146 = true := by decide +kernel
set_option maxRecDepth 20000 in
theorem cm_146 : Cond.code mM_146.1 mM_146.2.1 mM_146.2.2.1 mM_146.2.2.2.1 ∈ mk_LT := List.mem_cons_of_mem _ (List.mem_append_right _ (List.mem_append_right _ (List.mem_append_right _ (List.mem_append_right _ (List.mem_append_right _ (List.mem_append_right _ (List.mem_append_left _ (List.mem_of_getElem? (i := 28) rfl))))))))
theorem ce_146 : (mc_146.drop 62).all (mm_f mM_146) = true := by decide +kernel
theorem ck_146 : mm_OKM mM_146 := ⟨ch_146, cm_146, (mm_j 0 60 cs_146_0 (mm_j 60 2 cs_146_60 ce_146))⟩
theorem cs_147_0 : ((mc_147.drop 0).take 61).all (mm_f mM_147) = true := by decide +kernel
theorem cs_147_61 : ((mc_147.drop 61).take 34).all (mm_f mM_147) = true := by decide +kernel
theorem cs_147_95 : ((mc_147.drop 95).take 3).all (mm_f mM_147) = true := by decide +kernel
theorem ch_147 : mm_hd mM_147 = true := by decide +kernel
set_option maxRecDepth 20000 in
theorem cm_147 : Cond.code mM_147.1 mM_147.2.1 mM_147.2.2.1 mM_147.2.2.2.1 ∈ mk_LT := List.mem_cons_of_mem _ (List.mem_append_right _ (List.mem_append_right _ (List.mem_append_right _ (List.mem_append_right _ (List.mem_append_right _ (List.mem_append_right _ (List.mem_append_left _ (List.mem_of_getElem? (i := 24) rfl))))))))
theorem ce_147 : (mc_147.drop 98).all (mm_f mM_147) = true := by decide +kernel
theorem ck_147 : mm_OKM mM_147 := ⟨ch_147, cm_147, (mm_j 0 61 cs_147_0 (mm_j 61 34 cs_147_61 (mm_j 95 3 cs_147_95 ce_147)))⟩
theorem cs_148_0 : ((mc_148.drop 0).take 3).all (mm_f mM_148) = true := by decide +kernel
theorem ch_148 : mm_hd mM_148 = true := by decide +kernel
set_option maxRecDepth 20000 in
theorem cm_148 : Cond.code mM_148.1 mM_148.2.1 mM_148.2.2.1 mM_148.2.2.2.1 ∈ mk_LT := List.mem_cons_of_mem _ (List.mem_append_right _ (List.mem_append_right _ (List.mem_append_right _ (List.mem_append_right _ (List.mem_append_right _ (List.mem_append_right _ (List.mem_append_left _ (List.mem_of_getElem? (i := 32) rfl))))))))
theorem ce_148 : (mc_148.drop 3).all (mm_f mM_148) = true := by decide +kernel
theorem ck_148 : mm_OKM mM_148 := ⟨ch_148, cm_148, (mm_j 0 3 cs_148_0 ce_148)⟩
theorem cs_149_0 : ((mc_149.drop 0).take 61).all (mm_f mM_149) = true := by decide +kernel
theorem cs_149_61 : ((mc_149.drop 61).take 10).all (mm_f mM_149) = true := by decide +kernel
theorem ch_149 : mm_hd mM_149 = true := by decide +kernel
set_option maxRecDepth 20000 in
theorem cm_149 : Cond.code mM_149.1 mM_149.2.1 mM_149.2.2.1 mM_149.2.2.2.1 ∈ mk_LT := List.mem_cons_of_mem _ (List.mem_append_right _ (List.mem_append_right _ (List.mem_append_right _ (List.mem_append_right _ (List.mem_append_right _ (List.mem_append_right _ (List.mem_append_left _ (List.mem_of_getElem? (i := 36) rfl))))))))
theorem ce_149 : (mc_149.drop 71).all (mm_f mM_149) = true := by decide +kernel
theorem ck_149 : mm_OKM mM_149 := ⟨ch_149, cm_149, (mm_j 0 61 cs_149_0 (mm_j 61 10 cs_149_61 ce_149))⟩
theorem cs_150_0 : ((mc_150.drop 0).take 13).all (mm_f mM_150) = true := by decide +kernel
theorem ch_150 : mm_hd mM_150 = true := by decide +kernel
set_option maxRecDepth 20000 in
theorem cm_150 : Cond.code mM_150.1 mM_150.2.1 mM_150.2.2.1 mM_150.2.2.2.1 ∈ mk_LT := List.mem_cons_of_mem _ (List.mem_append_right _ (List.mem_append_right _ (List.mem_append_right _ (List.mem_append_right _ (List.mem_append_right _ (List.mem_append_right _ (List.mem_append_left _ (List.mem_of_getElem? (i := 40) rfl))))))))
theorem ce_150 : (mc_150.drop 13).all (mm_f mM_150) = true := by decide +kernel
theorem ck_150 : mm_OKM mM_150 := ⟨ch_150, cm_150, (mm_j 0 13 cs_150_0 ce_150)⟩
theorem cs_151_0 : ((mc_151.drop 0).take 10).all (mm_f mM_151) = true := by decide +kernel
theorem ch_151 : mm_hd mM_151 = true := by decide +kernel
set_option maxRecDepth 20000 in
theorem cm_151 : Cond.code mM_151.1 mM_151.2.1 mM_151.2.2.1 mM_151.2.2.2.1 ∈ mk_LT := List.mem_cons_of_mem _ (List.mem_append_right _ (List.mem_append_right _ (List.mem_append_right _ (List.mem_append_right _ (List.mem_append_right _ (List.mem_append_right _ (List.mem_append_left _ (List.mem_of_getElem? (i := 59) rfl))))))))
theorem ce_151 : (mc_151.drop 10).all (mm_f mM_151) = true := by decide +kernel
theorem ck_151 : mm_OKM mM_151 := ⟨ch_151, cm_151, (mm_j 0 10 cs_151_0 ce_151)⟩
theorem cs_152_0 : ((mc_152.drop 0).take 10).all (mm_f mM_152) = true := by decide +kernel
theorem ch_152 : mm_hd mM_152 = true := by decide +kernel
set_option maxRecDepth 20000 in
theorem cm_152 : Cond.code mM_152.1 mM_152.2.1 mM_152.2.2.1 mM_152.2.2.2.1 ∈ mk_LT := List.mem_cons_of_mem _ (List.mem_append_right _ (List.mem_append_right _ (List.mem_append_right _ (List.mem_append_right _ (List.mem_append_right _ (List.mem_append_right _ (List.mem_append_left _ (List.mem_of_getElem? (i := 62) rfl))))))))
theorem ce_152 : (mc_152.drop 10).all (mm_f mM_152) = true := by decide +kernel
theorem ck_152 : mm_OKM mM_152 := ⟨ch_152, cm_152, (mm_j 0 10 cs_152_0 ce_152)⟩
theorem cs_153_0 : ((mc_153.drop 0).take 59).all (mm_f mM_153) = true := by decide +kernel
theorem cs_153_59 : ((mc_153.drop 59).take 11).all (mm_f mM_153) = true := by decide +kernel
theorem ch_153 : mm_hd mM_153 = true := by decide +kernel
set_option maxRecDepth 20000 in
theorem cm_153 : Cond.code mM_153.1 mM_153.2.1 mM_153.2.2.1 mM_153.2.2.2.1 ∈ mk_LT := List.mem_cons_of_mem _ (List.mem_append_right _ (List.mem_append_right _ (List.mem_append_right _ (List.mem_append_right _ (List.mem_append_right _ (List.mem_append_right _ (List.mem_append_left _ (List.mem_of_getElem? (i := 66) rfl))))))))
theorem ce_153 : (mc_153.drop 70).all (mm_f mM_153) = true := by decide +kernel
theorem ck_153 : mm_OKM mM_153 := ⟨ch_153, cm_153, (mm_j 0 59 cs_153_0 (mm_j 59 11 cs_153_59 ce_153))⟩
theorem cs_154_0 : ((mc_154.drop 0).take 59).all (mm_f mM_154) = true := by decide +kernel
theorem cs_154_59 : ((mc_154.drop 59).take 31).all (mm_f mM_154) = true := by decide +kernel
theorem cs_154_90 : ((mc_154.drop 90).take 25).all (mm_f mM_154) = true := by decide +kernel
theorem cs_154_115 : ((mc_154.drop 115).take 21).all (mm_f mM_154) = true := by decide +kernel
theorem cs_154_136 : ((mc_154.drop 136).take 19).all (mm_f mM_154) = true := by decide +kernel
theorem ch_154 : mm_hd mM_154 = true := by decide +kernel
set_option maxRecDepth 20000 in
theorem cm_154 : Cond.code mM_154.1 mM_154.2.1 mM_154.2.2.1 mM_154.2.2.2.1 ∈ mk_LT := List.mem_cons_of_mem _ (List.mem_append_right _ (List.mem_append_right _ (List.mem_append_right _ (List.mem_append_right _ (List.mem_append_right _ (List.mem_append_right _ (List.mem_append_left _ (List.mem_of_getElem? (i := 56) rfl))))))))
theorem ce_154 : (mc_154.drop 155).all (mm_f mM_154) = true := by decide +kernel
theorem ck_154 : mm_OKM mM_154 := ⟨ch_154, cm_154, (mm_j 0 59 cs_154_0 (mm_j 59 31 cs_154_59 (mm_j 90 25 cs_154_90 (mm_j 115 21 cs_154_115 (mm_j 136 19 cs_154_136 ce_154)))))⟩
theorem cs_155_0 : ((mc_155.drop 0).take 8).all (mm_f mM_155) = true := by decide +kernel
theorem ch_155 : mm_hd mM_155 = true := by decide +kernel
set_option maxRecDepth 20000 in
theorem cm_155 : Cond.code mM_155.1 mM_155.2.1 mM_155.2.2.1 mM_155.2.2.2.1 ∈ mk_LT := List.mem_cons_of_mem _ (List.mem_append_right _ (List.mem_append_right _ (List.mem_append_right _ (List.mem_append_right _ (List.mem_append_right _ (List.mem_append_right _ (List.mem_append_left _ (List.mem_of_getElem? (i := 82) rfl))))))))
theorem ce_155 : (mc_155.drop 8).all (mm_f mM_155) = true := by decide +kernel
theorem ck_155 : mm_OKM mM_155 := ⟨ch_155, cm_155, (mm_j 0 8 cs_155_0 ce_155)⟩
theorem cs_156_0 : ((mc_156.drop 0).take 11).all (mm_f mM_156) = true := by decide +kernel
theorem ch_156 : mm_hd mM_156 = true := by decide +kernel
set_option maxRecDepth 20000 in
theorem cm_156 : Cond.code mM_156.1 mM_156.2.1 mM_156.2.2.1 mM_156.2.2.2.1 ∈ mk_LT := List.mem_cons_of_mem _ (List.mem_append_right _ (List.mem_append_right _ (List.mem_append_right _ (List.mem_append_right _ (List.mem_append_right _ (List.mem_append_right _ (List.mem_append_left _ (List.mem_of_getElem? (i := 98) rfl))))))))
theorem ce_156 : (mc_156.drop 11).all (mm_f mM_156) = true := by decide +kernel
theorem ck_156 : mm_OKM mM_156 := ⟨ch_156, cm_156, (mm_j 0 11 cs_156_0 ce_156)⟩
theorem cs_157_0 : ((mc_157.drop 0).take 24).all (mm_f mM_157) = true := by decide +kernel
theorem ch_157 : mm_hd mM_157 = true := by decide +kernel
set_option maxRecDepth 20000 in
theorem cm_157 : Cond.code mM_157.1 mM_157.2.1 mM_157.2.2.1 mM_157.2.2.2.1 ∈ mk_LT := List.mem_cons_of_mem _ (List.mem_append_right _ (List.mem_append_right _ (List.mem_append_right _ (List.mem_append_right _ (List.mem_append_right _ (List.mem_append_right _ (List.mem_append_left _ (List.mem_of_getElem? (i := 78) rfl))))))))
theorem ce_157 : (mc_157.drop 24).all (mm_f mM_157) = true := by decide +kernel
theorem ck_157 : mm_OKM mM_157 := ⟨ch_157, cm_157, (mm_j 0 24 cs_157_0 ce_157)⟩
theorem cs_158_0 : ((mc_158.drop 0).take 7).all (mm_f mM_158) = true := by decide +kernel
theorem ch_158 : mm_hd mM_158 = true := by decide +kernel
set_option maxRecDepth 20000 in
theorem cm_158 : Cond.code mM_158.1 mM_158.2.1 mM_158.2.2.1 mM_158.2.2.2.1 ∈ mk_LT := List.mem_cons_of_mem _ (List.mem_append_right _ (List.mem_append_right _ (List.mem_append_right _ (List.mem_append_right _ (List.mem_append_right _ (List.mem_append_right _ (List.mem_append_left _ (List.mem_of_getElem? (i := 102) rfl))))))))
theorem ce_158 : (mc_158.drop 7).all (mm_f mM_158) = true := by decide +kernel
theorem ck_158 : mm_OKM mM_158 := ⟨ch_158, cm_158, (mm_j 0 7 cs_158_0 ce_158)⟩
theorem cs_159_0 : ((mc_159.drop 0).take 22).all (mm_f mM_159) = true := by decide +kernel
theorem ch_159 : mm_hd mM_159 = true := by decide +kernel
set_option maxRecDepth 20000 in
theorem cm_159 : Cond.code mM_159.1 mM_159.2.1 mM_159.2.2.1 mM_159.2.2.2.1 ∈ mk_LT := List.mem_cons_of_mem _ (List.mem_append_right _ (List.mem_append_right _ (List.mem_append_right _ (List.mem_append_right _ (List.mem_append_right _ (List.mem_append_right _ (List.mem_append_left _ (List.mem_of_getElem? (i := 106) rfl))))))))
theorem ce_159 : (mc_159.drop 22).all (mm_f mM_159) = true := by decide +kernel
theorem ck_159 : mm_OKM mM_159 := ⟨ch_159, cm_159, (mm_j 0 22 cs_159_0 ce_159)⟩
theorem cs_160_0 : ((mc_160.drop 0).take 4).all (mm_f mM_160) = true := by decide +kernel
theorem ch_160 : mm_hd mM_160 = true := by decide +kernel
set_option maxRecDepth 20000 in
theorem cm_160 : Cond.code mM_160.1 mM_160.2.1 mM_160.2.2.1 mM_160.2.2.2.1 ∈ mk_LT := List.mem_cons_of_mem _ (List.mem_append_right _ (List.mem_append_right _ (List.mem_append_right _ (List.mem_append_right _ (List.mem_append_right _ (List.mem_append_left _ (List.mem_of_getElem? (i := 195) rfl)))))))
theorem ce_160 : (mc_160.drop 4).all (mm_f mM_160) = true := by decide +kernel
theorem ck_160 : mm_OKM mM_160 := ⟨ch_160, cm_160, (mm_j 0 4 cs_160_0 ce_160)⟩
theorem cs_161_0 : ((mc_161.drop 0).take 31).all (mm_f mM_161) = true := by decide +kernel
theorem ch_161 : mm_hd mM_161 = true := by decide +kernel
set_option maxRecDepth 20000 in
theorem cm_161 : Cond.code mM_161.1 mM_161.2.1 mM_161.2.2.1 mM_161.2.2.2.1 ∈ mk_LT := List.mem_cons_of_mem _ (List.mem_append_right _ (List.mem_append_right _ (List.mem_append_right _ (List.mem_append_right _ (List.mem_append_right _ (List.mem_append_right _ (List.mem_append_left _ (List.mem_of_getElem? (i := 110) rfl))))))))
theorem ce_161 : (mc_161.drop 31).all (mm_f mM_161) = true := by decide +kernel
theorem ck_161 : mm_OKM mM_161 := ⟨ch_161, cm_161, (mm_j 0 31 cs_161_0 ce_161)⟩
theorem cs_162_0 : ((mc_162.drop 0).take 23).all (mm_f mM_162) = true := by decide +kernel
theorem ch_162 : mm_hd mM_162 = true := by decide +kernel
set_option maxRecDepth 20000 in
theorem cm_162 : Cond.code mM_162.1 mM_162.2.1 mM_162.2.2.1 mM_162.2.2.2.1 ∈ mk_LT := List.mem_cons_of_mem _ (List.mem_append_right _ (List.mem_append_right _ (List.mem_append_right _ (List.mem_append_right _ (List.mem_append_right _ (List.mem_append_right _ (List.mem_append_left _ (List.mem_of_getElem? (i := 126) rfl))))))))
theorem ce_162 : (mc_162.drop 23).all (mm_f mM_162) = true := by decide +kernel
theorem ck_162 : mm_OKM mM_162 := ⟨ch_162, cm_162, (mm_j 0 23 cs_162_0 ce_162)⟩
theorem cs_163_0 : ((mc_163.drop 0).take 35).all (mm_f mM_163) = true := by decide +kernel
theorem ch_163 : mm_hd mM_163 = true := by decide +kernel
set_option maxRecDepth 20000 in
theorem cm_163 : Cond.code mM_163.1 mM_163.2.1 mM_163.2.2.1 mM_163.2.2.2.1 ∈ mk_LT := List.mem_cons_of_mem _ (List.mem_append_right _ (List.mem_append_right _ (List.mem_append_right _ (List.mem_append_right _ (List.mem_append_right _ (List.mem_append_right _ (List.mem_append_left _ (List.mem_of_getElem? (i := 74) rfl))))))))
theorem ce_163 : (mc_163.drop 35).all (mm_f mM_163) = true := by decide +kernel
theorem ck_163 : mm_OKM mM_163 := ⟨ch_163, cm_163, (mm_j 0 35 cs_163_0 ce_163)⟩
theorem cs_164_0 : ((mc_164.drop 0).take 9).all (mm_f mM_164) = true := by decide +kernel
theorem ch_164 : mm_hd mM_164 = true := by decide +kernel
set_option maxRecDepth 20000 in
theorem cm_164 : Cond.code mM_164.1 mM_164.2.1 mM_164.2.2.1 mM_164.2.2.2.1 ∈ mk_LT := List.mem_cons_of_mem _ (List.mem_append_right _ (List.mem_append_right _ (List.mem_append_right _ (List.mem_append_right _ (List.mem_append_right _ (List.mem_append_right _ (List.mem_append_left _ (List.mem_of_getElem? (i := 70) rfl))))))))
theorem ce_164 : (mc_164.drop 9).all (mm_f mM_164) = true := by decide +kernel
theorem ck_164 : mm_OKM mM_164 := ⟨ch_164, cm_164, (mm_j 0 9 cs_164_0 ce_164)⟩
theorem cs_165_0 : ((mc_165.drop 0).take 12).all (mm_f mM_165) = true := by decide +kernel
theorem ch_165 : mm_hd mM_165 = true := by decide +kernel
set_option maxRecDepth 20000 in
theorem cm_165 : Cond.code mM_165.1 mM_165.2.1 mM_165.2.2.1 mM_165.2.2.2.1 ∈ mk_LT := List.mem_cons_of_mem _ (List.mem_append_right _ (List.mem_append_right _ (List.mem_append_right _ (List.mem_append_right _ (List.mem_append_right _ (List.mem_append_right _ (List.mem_append_left _ (List.mem_of_getElem? (i := 114) rfl))))))))
theorem ce_165 : (mc_165.drop 12).all (mm_f mM_165) = true := by decide +kernel
theorem ck_165 : mm_OKM mM_165 := ⟨ch_165, cm_165, (mm_j 0 12 cs_165_0 ce_165)⟩
theorem cs_166_0 : ((mc_166.drop 0).take 12).all (mm_f mM_166) = true := by decide +kernel
theorem ch_166 : mm_hd mM_166 = true := by decide +kernel
set_option maxRecDepth 20000 in
theorem cm_166 : Cond.code mM_166.1 mM_166.2.1 mM_166.2.2.1 mM_166.2.2.2.1 ∈ mk_LT := List.mem_cons_of_mem _ (List.mem_append_right _ (List.mem_append_right _ (List.mem_append_right _ (List.mem_append_right _ (List.mem_append_right _ (List.mem_append_right _ (List.mem_append_left _ (List.mem_of_getElem? (i := 118) rfl))))))))
theorem ce_166 : (mc_166.drop 12).all (mm_f mM_166) = true := by decide +kernel
theorem ck_166 : mm_OKM mM_166 := ⟨ch_166, cm_166, (mm_j 0 12 cs_166_0 ce_166)⟩
theorem cs_167_0 : ((mc_167.drop 0).take 59).all (mm_f mM_167) = true := by decide +kernel
theorem cs_167_59 : ((mc_167.drop 59).take 10).all (mm_f mM_167) = true := by decide +kernel
theorem ch_167 : mm_hd mM_167 = true := by decide +kernel
set_option maxRecDepth 20000 in
theorem cm_167 : Cond.code mM_167.1 mM_167.2.1 mM_167.2.2.1 mM_167.2.2.2.1 ∈ mk_LT := List.mem_cons_of_mem _ (List.mem_append_right _ (List.mem_append_right _ (List.mem_append_right _ (List.mem_append_right _ (List.mem_append_right _ (List.mem_append_right _ (List.mem_append_left _ (List.mem_of_getElem? (i := 122) rfl))))))))
theorem ce_167 : (mc_167.drop 69).all (mm_f mM_167) = true := by decide +kernel
theorem ck_167 : mm_OKM mM_167 := ⟨ch_167, cm_167, (mm_j 0 59 cs_167_0 (mm_j 59 10 cs_167_59 ce_167))⟩
theorem cs_168_0 : ((mc_168.drop 0).take 18).all (mm_f mM_168) = true := by decide +kernel
theorem ch_168 : mm_hd mM_168 = true := by decide +kernel
set_option maxRecDepth 20000 in
theorem cm_168 : Cond.code mM_168.1 mM_168.2.1 mM_168.2.2.1 mM_168.2.2.2.1 ∈ mk_LT := List.mem_cons_of_mem _ (List.mem_append_right _ (List.mem_append_right _ (List.mem_append_right _ (List.mem_append_right _ (List.mem_append_right _ (List.mem_append_right _ (List.mem_append_left _ (List.mem_of_getElem? (i := 86) rfl))))))))
theorem ce_168 : (mc_168.drop 18).all (mm_f mM_168) = true := by decide +kernel
theorem ck_168 : mm_OKM mM_168 := ⟨ch_168, cm_168, (mm_j 0 18 cs_168_0 ce_168)⟩
theorem cs_169_0 : ((mc_169.drop 0).take 23).all (mm_f mM_169) = true := by decide +kernel
theorem ch_169 : mm_hd mM_169 = true := by decide +kernel
set_option maxRecDepth 20000 in
theorem cm_169 : Cond.code mM_169.1 mM_169.2.1 mM_169.2.2.1 mM_169.2.2.2.1 ∈ mk_LT := List.mem_cons_of_mem _ (List.mem_append_right _ (List.mem_append_right _ (List.mem_append_right _ (List.mem_append_right _ (List.mem_append_right _ (List.mem_append_right _ (List.mem_append_left _ (List.mem_of_getElem? (i := 90) rfl))))))))
theorem ce_169 : (mc_169.drop 23).all (mm_f mM_169) = true := by decide +kernel
theorem ck_169 : mm_OKM mM_169 := ⟨ch_169, cm_169, (mm_j 0 23 cs_169_0 ce_169)⟩
theorem cs_170_0 : ((mc_170.drop 0).take 58).all (mm_f mM_170) = true := by decide +kernel
theorem cs_170_58 : ((mc_170.drop 58).take 18).all (mm_f mM_170) = true := by decide +kernel
theorem ch_170 : mm_hd mM_170 = true := by decide +kernel
set_option maxRecDepth 20000 in
theorem cm_170 : Cond.code mM_170.1 mM_170.2.1 mM_170.2.2.1 mM_170.2.2.2.1 ∈ mk_LT := List.mem_cons_of_mem _ (List.mem_append_right _ (List.mem_append_right _ (List.mem_append_right _ (List.mem_append_right _ (List.mem_append_right _ (List.mem_append_right _ (List.mem_append_left _ (List.mem_of_getElem? (i := 94) rfl))))))))
theorem ce_170 : (mc_170.drop 76).all (mm_f mM_170) = true := by decide +kernel
theorem ck_170 : mm_OKM mM_170 := ⟨ch_170, cm_170, (mm_j 0 58 cs_170_0 (mm_j 58 18 cs_170_58 ce_170))⟩
theorem cs_171_0 : ((mc_171.drop 0).take 54).all (mm_f mM_171) = true := by decide +kernel
theorem ch_171 : mm_hd mM_171 = true := by decide +kernel
set_option maxRecDepth 20000 in
theorem cm_171 : Cond.code mM_171.1 mM_171.2.1 mM_171.2.2.1 mM_171.2.2.2.1 ∈ mk_LT := List.mem_cons_of_mem _ (List.mem_append_right _ (List.mem_append_right _ (List.mem_append_right _ (List.mem_append_right _ (List.mem_append_right _ (List.mem_append_right _ (List.mem_append_left _ (List.mem_of_getElem? (i := 52) rfl))))))))
theorem ce_171 : (mc_171.drop 54).all (mm_f mM_171) = true := by decide +kernel
theorem ck_171 : mm_OKM mM_171 := ⟨ch_171, cm_171, (mm_j 0 54 cs_171_0 ce_171)⟩
theorem cs_172_0 : ((mc_172.drop 0).take 20).all (mm_f mM_172) = true := by decide +kernel
theorem ch_172 : mm_hd mM_172 = true := by decide +kernel
set_option maxRecDepth 20000 in
theorem cm_172 : Cond.code mM_172.1 mM_172.2.1 mM_172.2.2.1 mM_172.2.2.2.1 ∈ mk_LT := List.mem_cons_of_mem _ (List.mem_append_right _ (List.mem_append_right _ (List.mem_append_right _ (List.mem_append_right _ (List.mem_append_right _ (List.mem_append_right _ (List.mem_append_left _ (List.mem_of_getElem? (i := 48) rfl))))))))
theorem ce_172 : (mc_172.drop 20).all (mm_f mM_172) = true := by decide +kernel
theorem ck_172 : mm_OKM mM_172 := ⟨ch_172, cm_172, (mm_j 0 20 cs_172_0 ce_172)⟩
theorem cs_173_0 : ((mc_173.drop 0).take 45).all (mm_f mM_173) = true := by decide +kernel
theorem ch_173 : mm_hd mM_173 = true := by decide +kernel
set_option maxRecDepth 20000 in
theorem cm_173 : Cond.code mM_173.1 mM_173.2.1 mM_173.2.2.1 mM_173.2.2.2.1 ∈ mk_LT := List.mem_cons_of_mem _ (List.mem_append_right _ (List.mem_append_right _ (List.mem_append_right _ (List.mem_append_right _ (List.mem_append_right _ (List.mem_append_right _ (List.mem_append_left _ (List.mem_of_getElem? (i := 130) rfl))))))))
theorem ce_173 : (mc_173.drop 45).all (mm_f mM_173) = true := by decide +kernel
theorem ck_173 : mm_OKM mM_173 := ⟨ch_173, cm_173, (mm_j 0 45 cs_173_0 ce_173)⟩
theorem cs_174_0 : ((mc_174.drop 0).take 44).all (mm_f mM_174) = true := by decide +kernel
theorem ch_174 : mm_hd mM_174 = true := by decide +kernel
set_option maxRecDepth 20000 in
theorem cm_174 : Cond.code mM_174.1 mM_174.2.1 mM_174.2.2.1 mM_174.2.2.2.1 ∈ mk_LT := List.mem_cons_of_mem _ (List.mem_append_right _ (List.mem_append_right _ (List.mem_append_right _ (List.mem_append_right _ (List.mem_append_right _ (List.mem_append_right _ (List.mem_append_left _ (List.mem_of_getElem? (i := 44) rfl))))))))
theorem ce_174 : (mc_174.drop 44).all (mm_f mM_174) = true := by decide +kernel
theorem ck_174 : mm_OKM mM_174 := ⟨ch_174, cm_174, (mm_j 0 44 cs_174_0 ce_174)⟩
theorem cs_175_0 : ((mc_175.drop 0).take 3).all (mm_f mM_175) = true := by decide +kernel
theorem ch_175 : mm_hd mM_175 = true := by decide +kernel
set_option maxRecDepth 20000 in
theorem cm_175 : Cond.code mM_175.1 mM_175.2.1 mM_175.2.2.1 mM_175.2.2.2.1 ∈ mk_LT := List.mem_cons_of_mem _ (List.mem_append_right _ (List.mem_append_right _ (List.mem_append_right _ (List.mem_append_right _ (List.mem_append_right _ (List.mem_append_right _ (List.mem_append_left _ (List.mem_of_getElem? (i := 134) rfl))))))))
theorem ce_175 : (mc_175.drop 3).all (mm_f mM_175) = true := by decide +kernel
theorem ck_175 : mm_OKM mM_175 := ⟨ch_175, cm_175, (mm_j 0 3 cs_175_0 ce_175)⟩
theorem cs_176_0 : ((mc_176.drop 0).take 10).all (mm_f mM_176) = true := by decide +kernel
theorem ch_176 : mm_hd mM_176 = true := by decide +kernel
set_option maxRecDepth 20000 in
theorem cm_176 : Cond.code mM_176.1 mM_176.2.1 mM_176.2.2.1 mM_176.2.2.2.1 ∈ mk_LT := List.mem_cons_of_mem _ (List.mem_append_right _ (List.mem_append_right _ (List.mem_append_right _ (List.mem_append_right _ (List.mem_append_right _ (List.mem_append_right _ (List.mem_append_left _ (List.mem_of_getElem? (i := 142) rfl))))))))
theorem ce_176 : (mc_176.drop 10).all (mm_f mM_176) = true := by decide +kernel
theorem ck_176 : mm_OKM mM_176 := ⟨ch_176, cm_176, (mm_j 0 10 cs_176_0 ce_176)⟩
theorem cs_177_0 : ((mc_177.drop 0).take 22).all (mm_f mM_177) = true := by decide +kernel
theorem ch_177 : mm_hd mM_177 = true := by decide +kernel
set_option maxRecDepth 20000 in
theorem cm_177 : Cond.code mM_177.1 mM_177.2.1 mM_177.2.2.1 mM_177.2.2.2.1 ∈ mk_LT := List.mem_cons_of_mem _ (List.mem_append_right _ (List.mem_append_right _ (List.mem_append_right _ (List.mem_append_right _ (List.mem_append_right _ (List.mem_append_right _ (List.mem_append_left _ (List.mem_of_getElem? (i := 138) rfl))))))))
theorem ce_177 : (mc_177.drop 22).all (mm_f mM_177) = true := by decide +kernel
theorem ck_177 : mm_OKM mM_177 := ⟨ch_177, cm_177, (mm_j 0 22 cs_177_0 ce_177)⟩
theorem cs_178_0 : ((mc_178.drop 0).take 13).all (mm_f mM_178) = true := by decide +kernel
theorem ch_178 : mm_hd mM_178 = true := by decide +kernel
set_option maxRecDepth 20000 in
theorem cm_178 : Cond.code mM_178.1 mM_178.2.1 mM_178.2.2.1 mM_178.2.2.2.1 ∈ mk_LT := List.mem_cons_of_mem _ (List.mem_append_right _ (List.mem_append_right _ (List.mem_append_right _ (List.mem_append_right _ (List.mem_append_right _ (List.mem_append_left _ (List.mem_of_getElem? (i := 180) rfl)))))))
theorem ce_178 : (mc_178.drop 13).all (mm_f mM_178) = true := by decide +kernel
theorem ck_178 : mm_OKM mM_178 := ⟨ch_178, cm_178, (mm_j 0 13 cs_178_0 ce_178)⟩
theorem cs_179_0 : ((mc_179.drop 0).take 20).all (mm_f mM_179) = true := by decide +kernel
theorem ch_179 : mm_hd mM_179 = true := by decide +kernel
set_option maxRecDepth 20000 in
theorem cm_179 : Cond.code mM_179.1 mM_179.2.1 mM_179.2.2.1 mM_179.2.2.2.1 ∈ mk_LT := List.mem_cons_of_mem _ (List.mem_append_right _ (List.mem_append_right _ (List.mem_append_right _ (List.mem_append_right _ (List.mem_append_right _ (List.mem_append_left _ (List.mem_of_getElem? (i := 199) rfl)))))))
theorem ce_179 : (mc_179.drop 20).all (mm_f mM_179) = true := by decide +kernel
theorem ck_179 : mm_OKM mM_179 := ⟨ch_179, cm_179, (mm_j 0 20 cs_179_0 ce_179)⟩
theorem cs_180_0 : ((mc_180.drop 0).take 20).all (mm_f mM_180) = true := by decide +kernel
theorem ch_180 : mm_hd mM_180 = true := by decide +kernel
set_option maxRecDepth 20000 in
theorem cm_180 : Cond.code mM_180.1 mM_180.2.1 mM_180.2.2.1 mM_180.2.2.2.1 ∈ mk_LT := List.mem_cons_of_mem _ (List.mem_append_right _ (List.mem_append_right _ (List.mem_append_right _ (List.mem_append_right _ (List.mem_append_right _ (List.mem_append_left _ (List.mem_of_getElem? (i := 220) rfl)))))))
theorem ce_180 : (mc_180.drop 20).all (mm_f mM_180) = true := by decide +kernel
theorem ck_180 : mm_OKM mM_180 := ⟨ch_180, cm_180, (mm_j 0 20 cs_180_0 ce_180)⟩
theorem cs_181_0 : ((mc_181.drop 0).take 55).all (mm_f mM_181) = true := by decide +kernel
theorem ch_181 : mm_hd mM_181 = true := by decide +kernel
set_option maxRecDepth 20000 in
theorem cm_181 : Cond.code mM_181.1 mM_181.2.1 mM_181.2.2.1 mM_181.2.2.2.1 ∈ mk_LT := List.mem_cons_of_mem _ (List.mem_append_right _ (List.mem_append_right _ (List.mem_append_right _ (List.mem_append_right _ (List.mem_append_right _ (List.mem_append_left _ (List.mem_of_getElem? (i := 184) rfl)))))))
theorem ce_181 : (mc_181.drop 55).all (mm_f mM_181) = true := by decide +kernel
theorem ck_181 : mm_OKM mM_181 := ⟨ch_181, cm_181, (mm_j 0 55 cs_181_0 ce_181)⟩
theorem cs_182_0 : ((mc_182.drop 0).take 57).all (mm_f mM_182) = true := by decide +kernel
theorem cs_182_57 : ((mc_182.drop 57).take 29).all (mm_f mM_182) = true := by decide +kernel
theorem ch_182 : mm_hd mM_182 = true := by decide +kernel
set_option maxRecDepth 20000 in
theorem cm_182 : Cond.code mM_182.1 mM_182.2.1 mM_182.2.2.1 mM_182.2.2.2.1 ∈ mk_LT := List.mem_cons_of_mem _ (List.mem_append_right _ (List.mem_append_right _ (List.mem_append_right _ (List.mem_append_right _ (List.mem_append_right _ (List.mem_append_left _ (List.mem_of_getElem? (i := 188) rfl)))))))
theorem ce_182 : (mc_182.drop 86).all (mm_f mM_182) = true := by decide +kernel
theorem ck_182 : mm_OKM mM_182 := ⟨ch_182, cm_182, (mm_j 0 57 cs_182_0 (mm_j 57 29 cs_182_57 ce_182))⟩
theorem cs_183_0 : ((mc_183.drop 0).take 60).all (mm_f mM_183) = true := by decide +kernel
theorem cs_183_60 : ((mc_183.drop 60).take 31).all (mm_f mM_183) = true := by decide +kernel
theorem ch_183 : mm_hd mM_183 = true := by decide +kernel
set_option maxRecDepth 20000 in
theorem cm_183 : Cond.code mM_183.1 mM_183.2.1 mM_183.2.2.1 mM_183.2.2.2.1 ∈ mk_LT := List.mem_cons_of_mem _ (List.mem_append_right _ (List.mem_append_right _ (List.mem_append_right _ (List.mem_append_right _ (List.mem_append_right _ (List.mem_append_left _ (List.mem_of_getElem? (i := 192) rfl)))))))
theorem ce_183 : (mc_183.drop 91).all (mm_f mM_183) = true := by decide +kernel
theorem ck_183 : mm_OKM mM_183 := ⟨ch_183, cm_183, (mm_j 0 60 cs_183_0 (mm_j 60 31 cs_183_60 ce_183))⟩
theorem cs_184_0 : ((mc_184.drop 0).take 45).all (mm_f mM_184) = true := by decide +kernel
theorem ch_184 : mm_hd mM_184 = true := by decide +kernel
set_option maxRecDepth 20000 in
theorem cm_184 : Cond.code mM_184.1 mM_184.2.1 mM_184.2.2.1 mM_184.2.2.2.1 ∈ mk_LT := List.mem_cons_of_mem _ (List.mem_append_right _ (List.mem_append_right _ (List.mem_append_right _ (List.mem_append_right _ (List.mem_append_right _ (List.mem_append_left _ (List.mem_of_getElem? (i := 203) rfl)))))))
theorem ce_184 : (mc_184.drop 45).all (mm_f mM_184) = true := by decide +kernel
theorem ck_184 : mm_OKM mM_184 := ⟨ch_184, cm_184, (mm_j 0 45 cs_184_0 ce_184)⟩
theorem cs_185_0 : ((mc_185.drop 0).take 29).all (mm_f mM_185) = true := by decide +kernel
theorem ch_185 : mm_hd mM_185 = true := by decide +kernel
set_option maxRecDepth 20000 in
theorem cm_185 : Cond.code mM_185.1 mM_185.2.1 mM_185.2.2.1 mM_185.2.2.2.1 ∈ mk_LT := List.mem_cons_of_mem _ (List.mem_append_right _ (List.mem_append_right _ (List.mem_append_right _ (List.mem_append_right _ (List.mem_append_right _ (List.mem_append_left _ (List.mem_of_getElem? (i := 226) rfl)))))))
theorem ce_185 : (mc_185.drop 29).all (mm_f mM_185) = true := by decide +kernel
theorem ck_185 : mm_OKM mM_185 := ⟨ch_185, cm_185, (mm_j 0 29 cs_185_0 ce_185)⟩
