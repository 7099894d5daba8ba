theorem cs_186_0 : ((mc_186.drop 0).take 29).all (mm_f mM_186) = true := by decide +kernel
theorem ch_186 : mm_hd mM_186 = true := by decide +kernel
set_option maxRecDepth 20000 in
theorem cm_186 : Cond.code mM_186.1 mM_186.2.1 mM_186.2.2.1 mM_186.2.2.2.1 ∈ mk_LT := List.mem_cons_of_mem _ (List.mem_append_right _ (List.mem_append_right _ (List.mem_append_right _ (List.mem_append_right _ (List.mem_append_right _ (List.mem_append_left _ (List.mem_of_getElem? (i := 230) rfl)))))))
theorem ce_186 : (mc_186.drop 29).all (mm_f mM_186) = true := by decide +kernel
theorem ck_186 : mm_OKM mM_186 := ⟨ch_186, cm_186, (mm_j 0 29 cs_186_0 ce_186)⟩
theorem cs_187_0 : ((mc_187.drop 0).take 22).all (mm_f mM_187) = true := by decide +kernel
theorem ch_187 : mm_hd mM_187 = true := by decide +kernel
set_option maxRecDepth 20000 in
theorem cm_187 : Cond.code mM_187.1 mM_187.2.1 mM_187.2.2.1 mM_187.2.2.2.1 ∈ mk_LT := List.mem_cons_of_mem _ (List.mem_append_right _ (List.mem_append_right _ (List.mem_append_right _ (List.mem_append_right _ (List.mem_append_right _ (List.mem_append_left _ (List.mem_of_getElem? (i := 234) rfl)))))))
theorem ce_187 : (mc_187.drop 22).all (mm_f mM_187) = true := by decide +kernel
theorem ck_187 : mm_OKM mM_187 := ⟨ch_187, cm_187, (mm_j 0 22 cs_187_0 ce_187)⟩
theorem cs_188_0 : ((mc_188.drop 0).take 59).all (mm_f mM_188) = true := by decide +kernel
theorem cs_188_59 : ((mc_188.drop 59).take 8).all (mm_f mM_188) = true := by decide +kernel
theorem ch_188 : mm_hd mM_188 = true := by decide +kernel
set_option maxRecDepth 20000 in
theorem cm_188 : Cond.code mM_188.1 mM_188.2.1 mM_188.2.2.1 mM_188.2.2.2.1 ∈ mk_LT := List.mem_cons_of_mem _ (List.mem_append_right _ (List.mem_append_right _ (List.mem_append_right _ (List.mem_append_right _ (List.mem_append_right _ (List.mem_append_left _ (List.mem_of_getElem? (i := 238) rfl)))))))
theorem ce_188 : (mc_188.drop 67).all (mm_f mM_188) = true := by decide +kernel
theorem ck_188 : mm_OKM mM_188 := ⟨ch_188, cm_188, (mm_j 0 59 cs_188_0 (mm_j 59 8 cs_188_59 ce_188))⟩
theorem cs_189_0 : ((mc_189.drop 0).take 57).all (mm_f mM_189) = true := by decide +kernel
theorem ch_189 : mm_hd mM_189 = true := by decide +kernel
set_option maxRecDepth 20000 in
theorem cm_189 : Cond.code mM_189.1 mM_189.2.1 mM_189.2.2.1 mM_189.2.2.2.1 ∈ mk_LT := List.mem_cons_of_mem _ (List.mem_append_right _ (List.mem_append_right _ (List.mem_append_right _ (List.mem_append_right _ (List.mem_append_right _ (List.mem_append_left _ (List.mem_of_getElem? (i := 172) rfl)))))))
theorem ce_189 : (mc_189.drop 57).all (mm_f mM_189) = true := by decide +kernel
theorem ck_189 : mm_OKM mM_189 := ⟨ch_189, cm_189, (mm_j 0 57 cs_189_0 ce_189)⟩
theorem cs_190_0 : ((mc_190.drop 0).take 60).all (mm_f mM_190) = true := by decide +kernel
theorem cs_190_60 : ((mc_190.drop 60).take 33).all (mm_f mM_190) = true := by decide +kernel
theorem cs_190_93 : ((mc_190.drop 93).take 25).all (mm_f mM_190) = true := by decide +kernel
theorem ch_190 : mm_hd mM_190 = true := by decide +kernel
set_option maxRecDepth 20000 in
theorem cm_190 : Cond.code mM_190.1 mM_190.2.1 mM_190.2.2.1 mM_190.2.2.2.1 ∈ mk_LT := List.mem_cons_of_mem _ (List.mem_append_right _ (List.mem_append_right _ (List.mem_append_right _ (List.mem_append_right _ (List.mem_append_right _ (List.mem_append_left _ (List.mem_of_getElem? (i := 176) rfl)))))))
theorem ce_190 : (mc_190.drop 118).all (mm_f mM_190) = true := by decide +kernel
theorem ck_190 : mm_OKM mM_190 := ⟨ch_190, cm_190, (mm_j 0 60 cs_190_0 (mm_j 60 33 cs_190_60 (mm_j 93 25 cs_190_93 ce_190)))⟩
theorem cs_191_0 : ((mc_191.drop 0).take 33).all (mm_f mM_191) = true := by decide +kernel
theorem ch_191 : mm_hd mM_191 = true := by decide +kernel
set_option maxRecDepth 20000 in
theorem cm_191 : Cond.code mM_191.1 mM_191.2.1 mM_191.2.2.1 mM_191.2.2.2.1 ∈ mk_LT := List.mem_cons_of_mem _ (List.mem_append_right _ (List.mem_append_right _ (List.mem_append_right _ (List.mem_append_right _ (List.mem_append_right _ (List.mem_append_left _ (List.mem_of_getElem? (i := 168) rfl)))))))
theorem ce_191 : (mc_191.drop 33).all (mm_f mM_191) = true := by decide +kernel
theorem ck_191 : mm_OKM mM_191 := ⟨ch_191, cm_191, (mm_j 0 33 cs_191_0 ce_191)⟩
theorem cs_192_0 : ((mc_192.drop 0).take 13).all (mm_f mM_192) = true := by decide +kernel
theorem ch_192 : mm_hd mM_192 = true := by decide +kernel
set_option maxRecDepth 20000 in
theorem cm_192 : Cond.code mM_192.1 mM_192.2.1 mM_192.2.2.1 mM_192.2.2.2.1 ∈ mk_LT := List.mem_cons_of_mem _ (List.mem_append_right _ (List.mem_append_right _ (List.mem_append_right _ (List.mem_append_right _ (List.mem_append_right _ (List.mem_append_right _ (List.mem_append_left _ (List.mem_of_getElem? (i := 2) rfl))))))))
theorem ce_192 : (mc_192.drop 13).all (mm_f mM_192) = true := by decide +kernel
theorem ck_192 : mm_OKM mM_192 := ⟨ch_192, cm_192, (mm_j 0 13 cs_192_0 ce_192)⟩
theorem cs_193_0 : ((mc_193.drop 0).take 18).all (mm_f mM_193) = true := by decide +kernel
theorem ch_193 : mm_hd mM_193 = true := by decide +kernel
set_option maxRecDepth 20000 in
theorem cm_193 : Cond.code mM_193.1 mM_193.2.1 mM_193.2.2.1 mM_193.2.2.2.1 ∈ mk_LT := List.mem_cons_of_mem _ (List.mem_append_right _ (List.mem_append_right _ (List.mem_append_right _ (List.mem_append_right _ (List.mem_append_right _ (List.mem_append_right _ (List.mem_append_left _ (List.mem_of_getElem? (i := 6) rfl))))))))
theorem ce_193 : (mc_193.drop 18).all (mm_f mM_193) = true := by decide +kernel
theorem ck_193 : mm_OKM mM_193 := ⟨ch_193, cm_193, (mm_j 0 18 cs_193_0 ce_193)⟩
theorem cs_194_0 : ((mc_194.drop 0).take 48).all (mm_f mM_194) = true := by decide +kernel
theorem ch_194 : mm_hd mM_194 = true := by decide +kernel
set_option maxRecDepth 20000 in
theorem cm_194 : Cond.code mM_194.1 mM_194.2.1 mM_194.2.2.1 mM_194.2.2.2.1 ∈ mk_LT := List.mem_cons_of_mem _ (List.mem_append_right _ (List.mem_append_right _ (List.mem_append_right _ (List.mem_append_right _ (List.mem_append_right _ (List.mem_append_left _ (List.mem_of_getElem? (i := 215) rfl)))))))
theorem ce_194 : (mc_194.drop 48).all (mm_f mM_194) = true := by decide +kernel
theorem ck_194 : mm_OKM mM_194 := ⟨ch_194, cm_194, (mm_j 0 48 cs_194_0 ce_194)⟩
theorem cs_195_0 : ((mc_195.drop 0).take 58).all (mm_f mM_195) = true := by decide +kernel
theorem ch_195 : mm_hd mM_195 = true := by decide +kernel
set_option maxRecDepth 20000 in
theorem cm_195 : Cond.code mM_195.1 mM_195.2.1 mM_195.2.2.1 mM_195.2.2.2.1 ∈ mk_LT := List.mem_cons_of_mem _ (List.mem_append_right _ (List.mem_append_right _ (List.mem_append_right _ (List.mem_append_right _ (List.mem_append_right _ (List.mem_append_left _ (List.mem_of_getElem? (i := 211) rfl)))))))
theorem ce_195 : (mc_195.drop 58).all (mm_f mM_195) = true := by decide +kernel
theorem ck_195 : mm_OKM mM_195 := ⟨ch_195, cm_195, (mm_j 0 58 cs_195_0 ce_195)⟩
theorem cs_196_0 : ((mc_196.drop 0).take 43).all (mm_f mM_196) = true := by decide +kernel
theorem ch_196 : mm_hd mM_196 = true := by decide +kernel
set_option maxRecDepth 20000 in
theorem cm_196 : Cond.code mM_196.1 mM_196.2.1 mM_196.2.2.1 mM_196.2.2.2.1 ∈ mk_LT := List.mem_cons_of_mem _ (List.mem_append_right _ (List.mem_append_right _ (List.mem_append_right _ (List.mem_append_right _ (List.mem_append_right _ (List.mem_append_right _ (List.mem_append_left _ (List.mem_of_getElem? (i := 155) rfl))))))))
theorem ce_196 : (mc_196.drop 43).all (mm_f mM_196) = true := by decide +kernel
theorem ck_196 : mm_OKM mM_196 := ⟨ch_196, cm_196, (mm_j 0 43 cs_196_0 ce_196)⟩
theorem cs_197_0 : ((mc_197.drop 0).take 37).all (mm_f mM_197) = true := by decide +kernel
theorem ch_197 : mm_hd mM_197 = true := by decide +kernel
set_option maxRecDepth 20000 in
theorem cm_197 : Cond.code mM_197.1 mM_197.2.1 mM_197.2.2.1 mM_197.2.2.2.1 ∈ mk_LT := List.mem_cons_of_mem _ (List.mem_append_right _ (List.mem_append_right _ (List.mem_append_right _ (List.mem_append_right _ (List.mem_append_right _ (List.mem_append_right _ (List.mem_append_left _ (List.mem_of_getElem? (i := 159) rfl))))))))
theorem ce_197 : (mc_197.drop 37).all (mm_f mM_197) = true := by decide +kernel
theorem ck_197 : mm_OKM mM_197 := ⟨ch_197, cm_197, (mm_j 0 37 cs_197_0 ce_197)⟩
theorem cs_198_0 : ((mc_198.drop 0).take 16).all (mm_f mM_198) = true := by decide +kernel
theorem ch_198 : mm_hd mM_198 = true := by decide +kernel
set_option maxRecDepth 20000 in
theorem cm_198 : Cond.code mM_198.1 mM_198.2.1 mM_198.2.2.1 mM_198.2.2.2.1 ∈ mk_LT := List.mem_cons_of_mem _ (List.mem_append_right _ (List.mem_append_right _ (List.mem_append_right _ (List.mem_append_right _ (List.mem_append_right _ (List.mem_append_right _ (List.mem_append_left _ (List.mem_of_getElem? (i := 170) rfl))))))))
theorem ce_198 : (mc_198.drop 16).all (mm_f mM_198) = true := by decide +kernel
theorem ck_198 : mm_OKM mM_198 := ⟨ch_198, cm_198, (mm_j 0 16 cs_198_0 ce_198)⟩
theorem cs_199_0 : ((mc_199.drop 0).take 36).all (mm_f mM_199) = true := by decide +kernel
theorem ch_199 : mm_hd mM_199 = true := by decide +kernel
set_option maxRecDepth 20000 in
theorem cm_199 : Cond.code mM_199.1 mM_199.2.1 mM_199.2.2.1 mM_199.2.2.2.1 ∈ mk_LT := List.mem_cons_of_mem _ (List.mem_append_right _ (List.mem_append_right _ (List.mem_append_right _ (List.mem_append_right _ (List.mem_append_right _ (List.mem_append_right _ (List.mem_append_left _ (List.mem_of_getElem? (i := 174) rfl))))))))
theorem ce_199 : (mc_199.drop 36).all (mm_f mM_199) = true := by decide +kernel
theorem ck_199 : mm_OKM mM_199 := ⟨ch_199, cm_199, (mm_j 0 36 cs_199_0 ce_199)⟩
theorem cs_200_0 : ((mc_200.drop 0).take 24).all (mm_f mM_200) = true := by decide +kernel
theorem ch_200 : mm_hd mM_200 = true := by decide +kernel
set_option maxRecDepth 20000 in
theorem cm_200 : Cond.code mM_200.1 mM_200.2.1 mM_200.2.2.1 mM_200.2.2.2.1 ∈ mk_LT := List.mem_cons_of_mem _ (List.mem_append_right _ (List.mem_append_right _ (List.mem_append_right _ (List.mem_append_right _ (List.mem_append_right _ (List.mem_append_right _ (List.mem_append_left _ (List.mem_of_getElem? (i := 166) rfl))))))))
theorem ce_200 : (mc_200.drop 24).all (mm_f mM_200) = true := by decide +kernel
theorem ck_200 : mm_OKM mM_200 := ⟨ch_200, cm_200, (mm_j 0 24 cs_200_0 ce_200)⟩
theorem cs_201_0 : ((mc_201.drop 0).take 29).all (mm_f mM_201) = true := by decide +kernel
theorem ch_201 : mm_hd mM_201 = true := by decide +kernel
set_option maxRecDepth 20000 in
theorem cm_201 : Cond.code mM_201.1 mM_201.2.1 mM_201.2.2.1 mM_201.2.2.2.1 ∈ mk_LT := List.mem_cons_of_mem _ (List.mem_append_right _ (List.mem_append_right _ (List.mem_append_right _ (List.mem_append_right _ (List.mem_append_right _ (List.mem_append_right _ (List.mem_append_left _ (List.mem_of_getElem? (i := 151) rfl))))))))
theorem ce_201 : (mc_201.drop 29).all (mm_f mM_201) = true := by decide +kernel
theorem ck_201 : mm_OKM mM_201 := ⟨ch_201, cm_201, (mm_j 0 29 cs_201_0 ce_201)⟩
theorem cs_202_0 : ((mc_202.drop 0).take 25).all (mm_f mM_202) = true := by decide +kernel
theorem ch_202 : mm_hd mM_202 = true := by decide +kernel
set_option maxRecDepth 20000 in
theorem cm_202 : Cond.code mM_202.1 mM_202.2.1 mM_202.2.2.1 mM_202.2.2.2.1 ∈ mk_LT := List.mem_cons_of_mem _ (List.mem_append_right _ (List.mem_append_right _ (List.mem_append_right _ (List.mem_append_right _ (List.mem_append_right _ (List.mem_append_right _ (List.mem_append_left _ (List.mem_of_getElem? (i := 147) rfl))))))))
theorem ce_202 : (mc_202.drop 25).all (mm_f mM_202) = true := by decide +kernel
theorem ck_202 : mm_OKM mM_202 := ⟨ch_202, cm_202, (mm_j 0 25 cs_202_0 ce_202)⟩
theorem cs_203_0 : ((mc_203.drop 0).take 38).all (mm_f mM_203) = true := by decide +kernel
theorem ch_203 : mm_hd mM_203 = true := by decide +kernel
set_option maxRecDepth 20000 in
theorem cm_203 : Cond.code mM_203.1 mM_203.2.1 mM_203.2.2.1 mM_203.2.2.2.1 ∈ mk_LT := List.mem_cons_of_mem _ (List.mem_append_right _ (List.mem_append_right _ (List.mem_append_right _ (List.mem_append_right _ (List.mem_append_right _ (List.mem_append_right _ (List.mem_append_left _ (List.mem_of_getElem? (i := 178) rfl))))))))
theorem ce_203 : (mc_203.drop 38).all (mm_f mM_203) = true := by decide +kernel
theorem ck_203 : mm_OKM mM_203 := ⟨ch_203, cm_203, (mm_j 0 38 cs_203_0 ce_203)⟩
theorem cs_204_0 : ((mc_204.drop 0).take 29).all (mm_f mM_204) = true := by decide +kernel
theorem ch_204 : mm_hd mM_204 = true := by decide +kernel
set_option maxRecDepth 20000 in
theorem cm_204 : Cond.code mM_204.1 mM_204.2.1 mM_204.2.2.1 mM_204.2.2.2.1 ∈ mk_LT := List.mem_cons_of_mem _ (List.mem_append_right _ (List.mem_append_right _ (List.mem_append_right _ (List.mem_append_right _ (List.mem_append_right _ (List.mem_append_right _ (List.mem_append_left _ (List.mem_of_getElem? (i := 182) rfl))))))))
theorem ce_204 : (mc_204.drop 29).all (mm_f mM_204) = true := by decide +kernel
theorem ck_204 : mm_OKM mM_204 := ⟨ch_204, cm_204, (mm_j 0 29 cs_204_0 ce_204)⟩
theorem cs_205_0 : ((mc_205.drop 0).take 50).all (mm_f mM_205) = true := by decide +kernel
theorem ch_205 : mm_hd mM_205 = true := by decide +kernel
set_option maxRecDepth 20000 in
theorem cm_205 : Cond.code mM_205.1 mM_205.2.1 mM_205.2.2.1 mM_205.2.2.2.1 ∈ mk_LT := List.mem_cons_of_mem _ (List.mem_append_right _ (List.mem_append_right _ (List.mem_append_right _ (List.mem_append_right _ (List.mem_append_right _ (List.mem_append_right _ (List.mem_append_left _ (List.mem_of_getElem? (i := 204) rfl))))))))
theorem ce_205 : (mc_205.drop 50).all (mm_f mM_205) = true := by decide +kernel
theorem ck_205 : mm_OKM mM_205 := ⟨ch_205, cm_205, (mm_j 0 50 cs_205_0 ce_205)⟩
theorem cs_206_0 : ((mc_206.drop 0).take 10).all (mm_f mM_206) = true := by decide +kernel
theorem ch_206 : mm_hd mM_206 = true := by decide +kernel
set_option maxRecDepth 20000 in
theorem cm_206 : Cond.code mM_206.1 mM_206.2.1 mM_206.2.2.1 mM_206.2.2.2.1 ∈ mk_LT := List.mem_cons_of_mem _ (List.mem_append_right _ (List.mem_append_right _ (List.mem_append_right _ (List.mem_append_right _ (List.mem_append_right _ (List.mem_append_right _ (List.mem_append_left _ (List.mem_of_getElem? (i := 197) rfl))))))))
theorem ce_206 : (mc_206.drop 10).all (mm_f mM_206) = true := by decide +kernel
theorem ck_206 : mm_OKM mM_206 := ⟨ch_206, cm_206, (mm_j 0 10 cs_206_0 ce_206)⟩
theorem cs_207_0 : ((mc_207.drop 0).take 56).all (mm_f mM_207) = true := by decide +kernel
theorem cs_207_56 : ((mc_207.drop 56).take 21).all (mm_f mM_207) = true := by decide +kernel
theorem ch_207 : mm_hd mM_207 = true := by decide +kernel
set_option maxRecDepth 20000 in
theorem cm_207 : Cond.code mM_207.1 mM_207.2.1 mM_207.2.2.1 mM_207.2.2.2.1 ∈ mk_LT := List.mem_cons_of_mem _ (List.mem_append_right _ (List.mem_append_right _ (List.mem_append_right _ (List.mem_append_right _ (List.mem_append_right _ (List.mem_append_right _ (List.mem_append_left _ (List.mem_of_getElem? (i := 201) rfl))))))))
theorem ce_207 : (mc_207.drop 77).all (mm_f mM_207) = true := by decide +kernel
theorem ck_207 : mm_OKM mM_207 := ⟨ch_207, cm_207, (mm_j 0 56 cs_207_0 (mm_j 56 21 cs_207_56 ce_207))⟩
theorem cs_208_0 : ((mc_208.drop 0).take 20).all (mm_f mM_208) = true := by decide +kernel
theorem ch_208 : mm_hd mM_208 = true := by decide +kernel
set_option maxRecDepth 20000 in
theorem cm_208 : Cond.code mM_208.1 mM_208.2.1 mM_208.2.2.1 mM_208.2.2.2.1 ∈ mk_LT := List.mem_cons_of_mem _ (List.mem_append_right _ (List.mem_append_right _ (List.mem_append_right _ (List.mem_append_right _ (List.mem_append_right _ (List.mem_append_right _ (List.mem_append_left _ (List.mem_of_getElem? (i := 194) rfl))))))))
theorem ce_208 : (mc_208.drop 20).all (mm_f mM_208) = true := by decide +kernel
theorem ck_208 : mm_OKM mM_208 := ⟨ch_208, cm_208, (mm_j 0 20 cs_208_0 ce_208)⟩
theorem cs_209_0 : ((mc_209.drop 0).take 62).all (mm_f mM_209) = true := by decide +kernel
theorem cs_209_62 : ((mc_209.drop 62).take 3).all (mm_f mM_209) = true := by decide +kernel
theorem ch_209 : mm_hd mM_209 = true := by decide +kernel
set_option maxRecDepth 20000 in
theorem cm_209 : Cond.code mM_209.1 mM_209.2.1 mM_209.2.2.1 mM_209.2.2.2.1 ∈ mk_LT := List.mem_cons_of_mem _ (List.mem_append_right _ (List.mem_append_right _ (List.mem_append_right _ (List.mem_append_right _ (List.mem_append_right _ (List.mem_append_right _ (List.mem_append_left _ (List.mem_of_getElem? (i := 190) rfl))))))))
theorem ce_209 : (mc_209.drop 65).all (mm_f mM_209) = true := by decide +kernel
theorem ck_209 : mm_OKM mM_209 := ⟨ch_209, cm_209, (mm_j 0 62 cs_209_0 (mm_j 62 3 cs_209_62 ce_209))⟩
theorem cs_210_0 : ((mc_210.drop 0).take 32).all (mm_f mM_210) = true := by decide +kernel
theorem ch_210 : mm_hd mM_210 = true := by decide +kernel
set_option maxRecDepth 20000 in
theorem cm_210 : Cond.code mM_210.1 mM_210.2.1 mM_210.2.2.1 mM_210.2.2.2.1 ∈ mk_LT := List.mem_cons_of_mem _ (List.mem_append_right _ (List.mem_append_right _ (List.mem_append_right _ (List.mem_append_right _ (List.mem_append_right _ (List.mem_append_right _ (List.mem_append_right _ (List.mem_of_getElem? (i := 99) rfl))))))))
theorem ce_210 : (mc_210.drop 32).all (mm_f mM_210) = true := by decide +kernel
theorem ck_210 : mm_OKM mM_210 := ⟨ch_210, cm_210, (mm_j 0 32 cs_210_0 ce_210)⟩
theorem cs_211_0 : ((mc_211.drop 0).take 41).all (mm_f mM_211) = true := by decide +kernel
theorem ch_211 : mm_hd mM_211 = true := by decide +kernel
set_option maxRecDepth 20000 in
theorem cm_211 : Cond.code mM_211.1 mM_211.2.1 mM_211.2.2.1 mM_211.2.2.2.1 ∈ mk_LT := List.mem_cons_of_mem _ (List.mem_append_right _ (List.mem_append_right _ (List.mem_append_right _ (List.mem_append_right _ (List.mem_append_right _ (List.mem_append_right _ (List.mem_append_left _ (List.mem_of_getElem? (i := 186) rfl))))))))
theorem ce_211 : (mc_211.drop 41).all (mm_f mM_211) = true := by decide +kernel
theorem ck_211 : mm_OKM mM_211 := ⟨ch_211, cm_211, (mm_j 0 41 cs_211_0 ce_211)⟩
theorem cs_212_0 : ((mc_212.drop 0).take 62).all (mm_f mM_212) = true := by decide +kernel
theorem ch_212 : mm_hd mM_212 = true := by decide +kernel
set_option maxRecDepth 20000 in
theorem cm_212 : Cond.code mM_212.1 mM_212.2.1 mM_212.2.2.1 mM_212.2.2.2.1 ∈ mk_LT := List.mem_cons_of_mem _ (List.mem_append_right _ (List.mem_append_right _ (List.mem_append_right _ (List.mem_append_right _ (List.mem_append_right _ (List.mem_append_right _ (List.mem_append_left _ (List.mem_of_getElem? (i := 211) rfl))))))))
theorem ce_212 : (mc_212.drop 62).all (mm_f mM_212) = true := by decide +kernel
theorem ck_212 : mm_OKM mM_212 := ⟨ch_212, cm_212, (mm_j 0 62 cs_212_0 ce_212)⟩
theorem cs_213_0 : ((mc_213.drop 0).take 26).all (mm_f mM_213) = true := by decide +kernel
theorem ch_213 : mm_hd mM_213 = true := by decide +kernel
set_option maxRecDepth 20000 in
theorem cm_213 : Cond.code mM_213.1 mM_213.2.1 mM_213.2.2.1 mM_213.2.2.2.1 ∈ mk_LT := List.mem_cons_of_mem _ (List.mem_append_right _ (List.mem_append_right _ (List.mem_append_right _ (List.mem_append_right _ (List.mem_append_right _ (List.mem_append_right _ (List.mem_append_left _ (List.mem_of_getElem? (i := 224) rfl))))))))
theorem ce_213 : (mc_213.drop 26).all (mm_f mM_213) = true := by decide +kernel
theorem ck_213 : mm_OKM mM_213 := ⟨ch_213, cm_213, (mm_j 0 26 cs_213_0 ce_213)⟩
theorem cs_214_0 : ((mc_214.drop 0).take 60).all (mm_f mM_214) = true := by decide +kernel
theorem cs_214_60 : ((mc_214.drop 60).take 26).all (mm_f mM_214) = true := by decide +kernel
theorem ch_214 : mm_hd mM_214 = true := by decide +kernel
set_option maxRecDepth 20000 in
theorem cm_214 : Cond.code mM_214.1 mM_214.2.1 mM_214.2.2.1 mM_214.2.2.2.1 ∈ mk_LT := List.mem_cons_of_mem _ (List.mem_append_right _ (List.mem_append_right _ (List.mem_append_right _ (List.mem_append_right _ (List.mem_append_right _ (List.mem_append_right _ (List.mem_append_left _ (List.mem_of_getElem? (i := 220) rfl))))))))
theorem ce_214 : (mc_214.drop 86).all (mm_f mM_214) = true := by decide +kernel
theorem ck_214 : mm_OKM mM_214 := ⟨ch_214, cm_214, (mm_j 0 60 cs_214_0 (mm_j 60 26 cs_214_60 ce_214))⟩
theorem cs_215_0 : ((mc_215.drop 0).take 60).all (mm_f mM_215) = true := by decide +kernel
theorem cs_215_60 : ((mc_215.drop 60).take 29).all (mm_f mM_215) = true := by decide +kernel
theorem ch_215 : mm_hd mM_215 = true := by decide +kernel
set_option maxRecDepth 20000 in
theorem cm_215 : Cond.code mM_215.1 mM_215.2.1 mM_215.2.2.1 mM_215.2.2.2.1 ∈ mk_LT := List.mem_cons_of_mem _ (List.mem_append_right _ (List.mem_append_right _ (List.mem_append_right _ (List.mem_append_right _ (List.mem_append_right _ (List.mem_append_right _ (List.mem_append_left _ (List.mem_of_getElem? (i := 216) rfl))))))))
theorem ce_215 : (mc_215.drop 89).all (mm_f mM_215) = true := by decide +kernel
theorem ck_215 : mm_OKM mM_215 := ⟨ch_215, cm_215, (mm_j 0 60 cs_215_0 (mm_j 60 29 cs_215_60 ce_215))⟩
theorem cs_216_0 : ((mc_216.drop 0).take 27).all (mm_f mM_216) = true := by decide +kernel
theorem ch_216 : mm_hd mM_216 = true := by decide +kernel
set_option maxRecDepth 20000 in
theorem cm_216 : Cond.code mM_216.1 mM_216.2.1 mM_216.2.2.1 mM_216.2.2.2.1 ∈ mk_LT := List.mem_cons_of_mem _ (List.mem_append_right _ (List.mem_append_right _ (List.mem_append_right _ (List.mem_append_right _ (List.mem_append_right _ (List.mem_append_right _ (List.mem_append_right _ (List.mem_of_getElem? (i := 3) rfl))))))))
theorem ce_216 : (mc_216.drop 27).all (mm_f mM_216) = true := by decide +kernel
theorem ck_216 : mm_OKM mM_216 := ⟨ch_216, cm_216, (mm_j 0 27 cs_216_0 ce_216)⟩
theorem cs_217_0 : ((mc_217.drop 0).take 14).all (mm_f mM_217) = true := by decide +kernel
theorem ch_217 : mm_hd mM_217 = true := by decide +kernel
set_option maxRecDepth 20000 in
theorem cm_217 : Cond.code mM_217.1 mM_217.2.1 mM_217.2.2.1 mM_217.2.2.2.1 ∈ mk_LT := List.mem_cons_of_mem _ (List.mem_append_right _ (List.mem_append_right _ (List.mem_append_right _ (List.mem_append_right _ (List.mem_append_right _ (List.mem_append_right _ (List.mem_append_right _ (List.mem_of_getElem? (i := 10) rfl))))))))
theorem ce_217 : (mc_217.drop 14).all (mm_f mM_217) = true := by decide +kernel
theorem ck_217 : mm_OKM mM_217 := ⟨ch_217, cm_217, (mm_j 0 14 cs_217_0 ce_217)⟩
theorem cs_218_0 : ((mc_218.drop 0).take 19).all (mm_f mM_218) = true := by decide +kernel
theorem ch_218 : mm_hd mM_218 = true := by decide +kernel
set_option maxRecDepth 20000 in
theorem cm_218 : Cond.code mM_218.1 mM_218.2.1 mM_218.2.2.1 mM_218.2.2.2.1 ∈ mk_LT := List.mem_cons_of_mem _ (List.mem_append_right _ (List.mem_append_right _ (List.mem_append_right _ (List.mem_append_right _ (List.mem_append_right _ (List.mem_append_right _ (List.mem_append_right _ (List.mem_of_getElem? (i := 13) rfl))))))))
theorem ce_218 : (mc_218.drop 19).all (mm_f mM_218) = true := by decide +kernel
theorem ck_218 : mm_OKM mM_218 := ⟨ch_218, cm_218, (mm_j 0 19 cs_218_0 ce_218)⟩
theorem cs_219_0 : ((mc_219.drop 0).take 39).all (mm_f mM_219) = true := by decide +kernel
theorem ch_219 : mm_hd mM_219 = true := by decide +kernel
set_option maxRecDepth 20000 in
theorem cm_219 : Cond.code mM_219.1 mM_219.2.1 mM_219.2.2.1 mM_219.2.2.2.1 ∈ mk_LT := List.mem_cons_of_mem _ (List.mem_append_right _ (List.mem_append_right _ (List.mem_append_right _ (List.mem_append_right _ (List.mem_append_right _ (List.mem_append_right _ (List.mem_append_right _ (List.mem_of_getElem? (i := 7) rfl))))))))
theorem ce_219 : (mc_219.drop 39).all (mm_f mM_219) = true := by decide +kernel
theorem ck_219 : mm_OKM mM_219 := ⟨ch_219, cm_219, (mm_j 0 39 cs_219_0 ce_219)⟩
theorem cs_220_0 : ((mc_220.drop 0).take 20).all (mm_f mM_220) = true := by decide +kernel
theorem ch_220 : mm_hd mM_220 = true := by decide +kernel
set_option maxRecDepth 20000 in
theorem cm_220 : Cond.code mM_220.1 mM_220.2.1 mM_220.2.2.1 mM_220.2.2.2.1 ∈ mk_LT := List.mem_cons_of_mem _ (List.mem_append_right _ (List.mem_append_right _ (List.mem_append_right _ (List.mem_append_right _ (List.mem_append_right _ (List.mem_append_right _ (List.mem_append_right _ (List.mem_of_getElem? (i := 24) rfl))))))))
theorem ce_220 : (mc_220.drop 20).all (mm_f mM_220) = true := by decide +kernel
theorem ck_220 : mm_OKM mM_220 := ⟨ch_220, cm_220, (mm_j 0 20 cs_220_0 ce_220)⟩
theorem cs_221_0 : ((mc_221.drop 0).take 22).all (mm_f mM_221) = true := by decide +kernel
theorem ch_221 : mm_hd mM_221 = true := by decide +kernel
set_option maxRecDepth 20000 in
theorem cm_221 : Cond.code mM_221.1 mM_221.2.1 mM_221.2.2.1 mM_221.2.2.2.1 ∈ mk_LT := List.mem_cons_of_mem _ (List.mem_append_right _ (List.mem_append_right _ (List.mem_append_right _ (List.mem_append_right _ (List.mem_append_right _ (List.mem_append_right _ (List.mem_append_right _ (List.mem_of_getElem? (i := 17) rfl))))))))
theorem ce_221 : (mc_221.drop 22).all (mm_f mM_221) = true := by decide +kernel
theorem ck_221 : mm_OKM mM_221 := ⟨ch_221, cm_221, (mm_j 0 22 cs_221_0 ce_221)⟩
theorem cs_222_0 : ((mc_222.drop 0).take 60).all (mm_f mM_222) = true := by decide +kernel
theorem cs_222_60 : ((mc_222.drop 60).take 20).all (mm_f mM_222) = true := by decide +kernel
theorem ch_222 : mm_hd mM_222 = true := by decide +kernel
set_option maxRecDepth 20000 in
theorem cm_222 : Cond.code mM_222.1 mM_222.2.1 mM_222.2.2.1 mM_222.2.2.2.1 ∈ mk_LT := List.mem_cons_of_mem _ (List.mem_append_right _ (List.mem_append_right _ (List.mem_append_right _ (List.mem_append_right _ (List.mem_append_right _ (List.mem_append_right _ (List.mem_append_left _ (List.mem_of_getElem? (i := 236) rfl))))))))
theorem ce_222 : (mc_222.drop 80).all (mm_f mM_222) = true := by decide +kernel
theorem ck_222 : mm_OKM mM_222 := ⟨ch_222, cm_222, (mm_j 0 60 cs_222_0 (mm_j 60 20 cs_222_60 ce_222))⟩
theorem cs_223_0 : ((mc_223.drop 0).take 54).all (mm_f mM_223) = true := by decide +kernel
theorem ch_223 : mm_hd mM_223 = true := by decide +kernel
set_option maxRecDepth 20000 in
theorem cm_223 : Cond.code mM_223.1 mM_223.2.1 mM_223.2.2.1 mM_223.2.2.2.1 ∈ mk_LT := List.mem_cons_of_mem _ (List.mem_append_right _ (List.mem_append_right _ (List.mem_append_right _ (List.mem_append_right _ (List.mem_append_right _ (List.mem_append_right _ (List.mem_append_right _ (List.mem_of_getElem? (i := 21) rfl))))))))
theorem ce_223 : (mc_223.drop 54).all (mm_f mM_223) = true := by decide +kernel
theorem ck_223 : mm_OKM mM_223 := ⟨ch_223, cm_223, (mm_j 0 54 cs_223_0 ce_223)⟩
theorem cs_224_0 : ((mc_224.drop 0).take 51).all (mm_f mM_224) = true := by decide +kernel
theorem ch_224 : mm_hd mM_224 = true := by decide +kernel
set_option maxRecDepth 20000 in
theorem cm_224 : Cond.code mM_224.1 mM_224.2.1 mM_224.2.2.1 mM_224.2.2.2.1 ∈ mk_LT := List.mem_cons_of_mem _ (List.mem_append_right _ (List.mem_append_right _ (List.mem_append_right _ (List.mem_append_right _ (List.mem_append_right _ (List.mem_append_right _ (List.mem_append_left _ (List.mem_of_getElem? (i := 232) rfl))))))))
theorem ce_224 : (mc_224.drop 51).all (mm_f mM_224) = true := by decide +kernel
theorem ck_224 : mm_OKM mM_224 := ⟨ch_224, cm_224, (mm_j 0 51 cs_224_0 ce_224)⟩
theorem cs_225_0 : ((mc_225.drop 0).take 16).all (mm_f mM_225) = true := by decide +kernel
theorem ch_225 : mm_hd mM_225 = true := by decide +kernel
set_option maxRecDepth 20000 in
theorem cm_225 : Cond.code mM_225.1 mM_225.2.1 mM_225.2.2.1 mM_225.2.2.2.1 ∈ mk_LT := List.mem_cons_of_mem _ (List.mem_append_right _ (List.mem_append_right _ (List.mem_append_right _ (List.mem_append_right _ (List.mem_append_right _ (List.mem_append_right _ (List.mem_append_left _ (List.mem_of_getElem? (i := 228) rfl))))))))
theorem ce_225 : (mc_225.drop 16).all (mm_f mM_225) = true := by decide +kernel
theorem ck_225 : mm_OKM mM_225 := ⟨ch_225, cm_225, (mm_j 0 16 cs_225_0 ce_225)⟩
theorem cs_226_0 : ((mc_226.drop 0).take 44).all (mm_f mM_226) = true := by decide +kernel
theorem ch_226 : mm_hd mM_226 = true := by decide +kernel
set_option maxRecDepth 20000 in
theorem cm_226 : Cond.code mM_226.1 mM_226.2.1 mM_226.2.2.1 mM_226.2.2.2.1 ∈ mk_LT := List.mem_cons_of_mem _ (List.mem_append_right _ (List.mem_append_right _ (List.mem_append_right _ (List.mem_append_right _ (List.mem_append_right _ (List.mem_append_right _ (List.mem_append_right _ (List.mem_of_getElem? (i := 28) rfl))))))))
theorem ce_226 : (mc_226.drop 44).all (mm_f mM_226) = true := by decide +kernel
theorem ck_226 : mm_OKM mM_226 := ⟨ch_226, cm_226, (mm_j 0 44 cs_226_0 ce_226)⟩
theorem cs_227_0 : ((mc_227.drop 0).take 62).all (mm_f mM_227) = true := by decide +kernel
theorem cs_227_62 : ((mc_227.drop 62).take 3).all (mm_f mM_227) = true := by decide +kernel
theorem ch_227 : mm_hd mM_227 = true := by decide +kernel
set_option maxRecDepth 20000 in
theorem cm_227 : Cond.code mM_227.1 mM_227.2.1 mM_227.2.2.1 mM_227.2.2.2.1 ∈ mk_LT := List.mem_cons_of_mem _ (List.mem_append_right _ (List.mem_append_right _ (List.mem_append_right _ (List.mem_append_right _ (List.mem_append_right _ (List.mem_append_right _ (List.mem_append_right _ (List.mem_of_getElem? (i := 35) rfl))))))))
theorem ce_227 : (mc_227.drop 65).all (mm_f mM_227) = true := by decide +kernel
theorem ck_227 : mm_OKM mM_227 := ⟨ch_227, cm_227, (mm_j 0 62 cs_227_0 (mm_j 62 3 cs_227_62 ce_227))⟩
theorem cs_228_0 : ((mc_228.drop 0).take 42).all (mm_f mM_228) = true := by decide +kernel
theorem ch_228 : mm_hd mM_228 = true := by decide +kernel
set_option maxRecDepth 20000 in
theorem cm_228 : Cond.code mM_228.1 mM_228.2.1 mM_228.2.2.1 mM_228.2.2.2.1 ∈ mk_LT := List.mem_cons_of_mem _ (List.mem_append_right _ (List.mem_append_right _ (List.mem_append_right _ (List.mem_append_right _ (List.mem_append_right _ (List.mem_append_right _ (List.mem_append_right _ (List.mem_of_getElem? (i := 40) rfl))))))))
theorem ce_228 : (mc_228.drop 42).all (mm_f mM_228) = true := by decide +kernel
theorem ck_228 : mm_OKM mM_228 := ⟨ch_228, cm_228, (mm_j 0 42 cs_228_0 ce_228)⟩
theorem cs_229_0 : ((mc_229.drop 0).take 12).all (mm_f mM_229) = true := by decide +kernel
theorem ch_229 : mm_hd mM_229 = true := by decide +kernel
set_option maxRecDepth 20000 in
theorem cm_229 : Cond.code mM_229.1 mM_229.2.1 mM_229.2.2.1 mM_229.2.2.2.1 ∈ mk_LT := List.mem_cons_of_mem _ (List.mem_append_right _ (List.mem_append_right _ (List.mem_append_right _ (List.mem_append_right _ (List.mem_append_right _ (List.mem_append_right _ (List.mem_append_right _ (List.mem_of_getElem? (i := 44) rfl))))))))
theorem ce_229 : (mc_229.drop 12).all (mm_f mM_229) = true := by decide +kernel
theorem ck_229 : mm_OKM mM_229 := ⟨ch_229, cm_229, (mm_j 0 12 cs_229_0 ce_229)⟩
theorem cs_230_0 : ((mc_230.drop 0).take 61).all (mm_f mM_230) = true := by decide +kernel
theorem cs_230_61 : ((mc_230.drop 61).take 34).all (mm_f mM_230) = true := by decide +kernel
theorem cs_230_95 : ((mc_230.drop 95).take 13).all (mm_f mM_230) = true := by decide +kernel
theorem ch_230 : mm_hd mM_230 = true := by decide +kernel
set_option maxRecDepth 20000 in
theorem cm_230 : Cond.code mM_230.1 mM_230.2.1 mM_230.2.2.1 mM_230.2.2.2.1 ∈ mk_LT := List.mem_cons_of_mem _ (List.mem_append_right _ (List.mem_append_right _ (List.mem_append_right _ (List.mem_append_right _ (List.mem_append_right _ (List.mem_append_right _ (List.mem_append_right _ (List.mem_of_getElem? (i := 48) rfl))))))))
theorem ce_230 : (mc_230.drop 108).all (mm_f mM_230) = true := by decide +kernel
theorem ck_230 : mm_OKM mM_230 := ⟨ch_230, cm_230, (mm_j 0 61 cs_230_0 (mm_j 61 34 cs_230_61 (mm_j 95 13 cs_230_95 ce_230)))⟩
theorem cs_231_0 : ((mc_231.drop 0).take 59).all (mm_f mM_231) = true := by decide +kernel
theorem cs_231_59 : ((mc_231.drop 59).take 34).all (mm_f mM_231) = true := by decide +kernel
theorem cs_231_93 : ((mc_231.drop 93).take 7).all (mm_f mM_231) = true := by decide +kernel
theorem ch_231 : mm_hd mM_231 = true := by decide +kernel
set_option maxRecDepth 20000 in
theorem cm_231 : Cond.code mM_231.1 mM_231.2.1 mM_231.2.2.1 mM_231.2.2.2.1 ∈ mk_LT := List.mem_cons_of_mem _ (List.mem_append_right _ (List.mem_append_right _ (List.mem_append_right _ (List.mem_append_right _ (List.mem_append_right _ (List.mem_append_right _ (List.mem_append_right _ (List.mem_of_getElem? (i := 52) rfl))))))))
theorem ce_231 : (mc_231.drop 100).all (mm_f mM_231) = true := by decide +kernel
theorem ck_231 : mm_OKM mM_231 := ⟨ch_231, cm_231, (mm_j 0 59 cs_231_0 (mm_j 59 34 cs_231_59 (mm_j 93 7 cs_231_93 ce_231)))⟩
