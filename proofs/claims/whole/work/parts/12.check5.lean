theorem cs_232_0 : ((mc_232.drop 0).take 61).all (mm_f mM_232) = true := by decide +kernel
theorem cs_232_61 : ((mc_232.drop 61).take 7).all (mm_f mM_232) = true := by decide +kernel
theorem ch_232 : mm_hd mM_232 = true := by decide +kernel
set_option maxRecDepth 20000 in
theorem cm_232 : Cond.code mM_232.1 mM_232.2.1 mM_232.2.2.1 mM_232.2.2.2.1 ∈ mk_LT := List.mem_cons_of_mem _ (List.mem_append_right _ (List.mem_append_right _ (List.mem_append_right _ (List.mem_append_right _ (List.mem_append_right _ (List.mem_append_right _ (List.mem_append_right _ (List.mem_of_getElem? (i := 70) rfl))))))))
theorem ce_232 : (mc_232.drop 68).all (mm_f mM_232) = true := by decide +kernel
theorem ck_232 : mm_OKM mM_232 := ⟨ch_232, cm_232, (mm_j 0 61 cs_232_0 (mm_j 61 7 cs_232_61 ce_232))⟩
theorem cs_233_0 : ((mc_233.drop 0).take 44).all (mm_f mM_233) = true := by decide +kernel
theorem ch_233 : mm_hd mM_233 = true := by decide +kernel
set_option maxRecDepth 20000 in
theorem cm_233 : Cond.code mM_233.1 mM_233.2.1 mM_233.2.2.1 mM_233.2.2.2.1 ∈ mk_LT := List.mem_cons_of_mem _ (List.mem_append_right _ (List.mem_append_right _ (List.mem_append_right _ (List.mem_append_right _ (List.mem_append_right _ (List.mem_append_right _ (List.mem_append_right _ (List.mem_of_getElem? (i := 58) rfl))))))))
theorem ce_233 : (mc_233.drop 44).all (mm_f mM_233) = true := by decide +kernel
theorem ck_233 : mm_OKM mM_233 := ⟨ch_233, cm_233, (mm_j 0 44 cs_233_0 ce_233)⟩
theorem cs_234_0 : ((mc_234.drop 0).take 10).all (mm_f mM_234) = true := by decide +kernel
theorem ch_234 : mm_hd mM_234 = true := by decide +kernel
set_option maxRecDepth 20000 in
theorem cm_234 : Cond.code mM_234.1 mM_234.2.1 mM_234.2.2.1 mM_234.2.2.2.1 ∈ mk_LT := List.mem_cons_of_mem _ (List.mem_append_right _ (List.mem_append_right _ (List.mem_append_right _ (List.mem_append_right _ (List.mem_append_right _ (List.mem_append_right _ (List.mem_append_right _ (List.mem_of_getElem? (i := 78) rfl))))))))
theorem ce_234 : (mc_234.drop 10).all (mm_f mM_234) = true := by decide +kernel
theorem ck_234 : mm_OKM mM_234 := ⟨ch_234, cm_234, (mm_j 0 10 cs_234_0 ce_234)⟩
theorem cs_235_0 : ((mc_235.drop 0).take 17).all (mm_f mM_235) = true := by decide +kernel
theorem ch_235 : mm_hd mM_235 = true := by decide +kernel
set_option maxRecDepth 20000 in
theorem cm_235 : Cond.code mM_235.1 mM_235.2.1 mM_235.2.2.1 mM_235.2.2.2.1 ∈ mk_LT := List.mem_cons_of_mem _ (List.mem_append_right _ (List.mem_append_right _ (List.mem_append_right _ (List.mem_append_right _ (List.mem_append_right _ (List.mem_append_right _ (List.mem_append_right _ (List.mem_of_getElem? (i := 74) rfl))))))))
theorem ce_235 : (mc_235.drop 17).all (mm_f mM_235) = true := by decide +kernel
theorem ck_235 : mm_OKM mM_235 := ⟨ch_235, cm_235, (mm_j 0 17 cs_235_0 ce_235)⟩
theorem cs_236_0 : ((mc_236.drop 0).take 22).all (mm_f mM_236) = true := by decide +kernel
theorem ch_236 : mm_hd mM_236 = true := by decide +kernel
set_option maxRecDepth 20000 in
theorem cm_236 : Cond.code mM_236.1 mM_236.2.1 mM_236.2.2.1 mM_236.2.2.2.1 ∈ mk_LT := List.mem_cons_of_mem _ (List.mem_append_right _ (List.mem_append_right _ (List.mem_append_right _ (List.mem_append_right _ (List.mem_append_right _ (List.mem_append_right _ (List.mem_append_right _ (List.mem_of_getElem? (i := 66) rfl))))))))
theorem ce_236 : (mc_236.drop 22).all (mm_f mM_236) = true := by decide +kernel
theorem ck_236 : mm_OKM mM_236 := ⟨ch_236, cm_236, (mm_j 0 22 cs_236_0 ce_236)⟩
theorem cs_237_0 : ((mc_237.drop 0).take 24).all (mm_f mM_237) = true := by decide +kernel
theorem ch_237 : mm_hd mM_237 = true := by decide +kernel
set_option maxRecDepth 20000 in
theorem cm_237 : Cond.code mM_237.1 mM_237.2.1 mM_237.2.2.1 mM_237.2.2.2.1 ∈ mk_LT := List.mem_cons_of_mem _ (List.mem_append_right _ (List.mem_append_right _ (List.mem_append_right _ (List.mem_append_right _ (List.mem_append_right _ (List.mem_append_right _ (List.mem_append_right _ (List.mem_of_getElem? (i := 86) rfl))))))))
theorem ce_237 : (mc_237.drop 24).all (mm_f mM_237) = true := by decide +kernel
theorem ck_237 : mm_OKM mM_237 := ⟨ch_237, cm_237, (mm_j 0 24 cs_237_0 ce_237)⟩
theorem cs_238_0 : ((mc_238.drop 0).take 27).all (mm_f mM_238) = true := by decide +kernel
theorem ch_238 : mm_hd mM_238 = true := by decide +kernel
set_option maxRecDepth 20000 in
theorem cm_238 : Cond.code mM_238.1 mM_238.2.1 mM_238.2.2.1 mM_238.2.2.2.1 ∈ mk_LT := List.mem_cons_of_mem _ (List.mem_append_right _ (List.mem_append_right _ (List.mem_append_right _ (List.mem_append_right _ (List.mem_append_right _ (List.mem_append_right _ (List.mem_append_right _ (List.mem_of_getElem? (i := 94) rfl))))))))
theorem ce_238 : (mc_238.drop 27).all (mm_f mM_238) = true := by decide +kernel
theorem ck_238 : mm_OKM mM_238 := ⟨ch_238, cm_238, (mm_j 0 27 cs_238_0 ce_238)⟩
theorem cs_239_0 : ((mc_239.drop 0).take 24).all (mm_f mM_239) = true := by decide +kernel
theorem ch_239 : mm_hd mM_239 = true := by decide +kernel
set_option maxRecDepth 20000 in
theorem cm_239 : Cond.code mM_239.1 mM_239.2.1 mM_239.2.2.1 mM_239.2.2.2.1 ∈ mk_LT := List.mem_cons_of_mem _ (List.mem_append_right _ (List.mem_append_right _ (List.mem_append_right _ (List.mem_append_right _ (List.mem_append_right _ (List.mem_append_right _ (List.mem_append_right _ (List.mem_of_getElem? (i := 107) rfl))))))))
theorem ce_239 : (mc_239.drop 24).all (mm_f mM_239) = true := by decide +kernel
theorem ck_239 : mm_OKM mM_239 := ⟨ch_239, cm_239, (mm_j 0 24 cs_239_0 ce_239)⟩
theorem cs_240_0 : ((mc_240.drop 0).take 6).all (mm_f mM_240) = true := by decide +kernel
theorem ch_240 : mm_hd mM_240 = true := by decide +kernel
set_option maxRecDepth 20000 in
theorem cm_240 : Cond.code mM_240.1 mM_240.2.1 mM_240.2.2.1 mM_240.2.2.2.1 ∈ mk_LT := List.mem_cons_of_mem _ (List.mem_append_right _ (List.mem_append_right _ (List.mem_append_right _ (List.mem_append_right _ (List.mem_append_right _ (List.mem_append_right _ (List.mem_append_right _ (List.mem_of_getElem? (i := 62) rfl))))))))
theorem ce_240 : (mc_240.drop 6).all (mm_f mM_240) = true := by decide +kernel
theorem ck_240 : mm_OKM mM_240 := ⟨ch_240, cm_240, (mm_j 0 6 cs_240_0 ce_240)⟩
theorem cs_241_0 : ((mc_241.drop 0).take 5).all (mm_f mM_241) = true := by decide +kernel
theorem ch_241 : mm_hd mM_241 = true := by decide +kernel
set_option maxRecDepth 20000 in
theorem cm_241 : Cond.code mM_241.1 mM_241.2.1 mM_241.2.2.1 mM_241.2.2.2.1 ∈ mk_LT := List.mem_cons_of_mem _ (List.mem_append_right _ (List.mem_append_right _ (List.mem_append_right _ (List.mem_append_right _ (List.mem_append_right _ (List.mem_append_right _ (List.mem_append_right _ (List.mem_of_getElem? (i := 82) rfl))))))))
theorem ce_241 : (mc_241.drop 5).all (mm_f mM_241) = true := by decide +kernel
theorem ck_241 : mm_OKM mM_241 := ⟨ch_241, cm_241, (mm_j 0 5 cs_241_0 ce_241)⟩
theorem cs_242_0 : ((mc_242.drop 0).take 6).all (mm_f mM_242) = true := by decide +kernel
theorem ch_242 : mm_hd mM_242 = true := by decide +kernel
set_option maxRecDepth 20000 in
theorem cm_242 : Cond.code mM_242.1 mM_242.2.1 mM_242.2.2.1 mM_242.2.2.2.1 ∈ mk_LT := List.mem_cons_of_mem _ (List.mem_append_right _ (List.mem_append_right _ (List.mem_append_right _ (List.mem_append_right _ (List.mem_append_right _ (List.mem_append_right _ (List.mem_append_right _ (List.mem_of_getElem? (i := 90) rfl))))))))
theorem ce_242 : (mc_242.drop 6).all (mm_f mM_242) = true := by decide +kernel
theorem ck_242 : mm_OKM mM_242 := ⟨ch_242, cm_242, (mm_j 0 6 cs_242_0 ce_242)⟩
theorem cs_243_0 : ((mc_243.drop 0).take 5).all (mm_f mM_243) = true := by decide +kernel
theorem ch_243 : mm_hd mM_243 = true := by decide +kernel
set_option maxRecDepth 20000 in
theorem cm_243 : Cond.code mM_243.1 mM_243.2.1 mM_243.2.2.1 mM_243.2.2.2.1 ∈ mk_LT := List.mem_cons_of_mem _ (List.mem_append_right _ (List.mem_append_right _ (List.mem_append_right _ (List.mem_append_right _ (List.mem_append_right _ (List.mem_append_right _ (List.mem_append_right _ (List.mem_of_getElem? (i := 103) rfl))))))))
theorem ce_243 : (mc_243.drop 5).all (mm_f mM_243) = true := by decide +kernel
theorem ck_243 : mm_OKM mM_243 := ⟨ch_243, cm_243, (mm_j 0 5 cs_243_0 ce_243)⟩
theorem cs_244_0 : ((mc_244.drop 0).take 3).all (mm_f mM_244) = true := by decide +kernel
theorem ch_244 : mm_hd mM_244 = true := by decide +kernel
set_option maxRecDepth 20000 in
theorem cm_244 : Cond.code mM_244.1 mM_244.2.1 mM_244.2.2.1 mM_244.2.2.2.1 ∈ mk_LT := List.mem_cons_of_mem _ (List.mem_append_right _ (List.mem_append_right _ (List.mem_append_right _ (List.mem_append_right _ (List.mem_append_right _ (List.mem_append_right _ (List.mem_append_right _ (List.mem_of_getElem? (i := 111) rfl))))))))
theorem ce_244 : (mc_244.drop 3).all (mm_f mM_244) = true := by decide +kernel
theorem ck_244 : mm_OKM mM_244 := ⟨ch_244, cm_244, (mm_j 0 3 cs_244_0 ce_244)⟩
theorem cs_245_0 : ((mc_245.drop 0).take 60).all (mm_f mM_245) = true := by decide +kernel
theorem cs_245_60 : ((mc_245.drop 60).take 32).all (mm_f mM_245) = true := by decide +kernel
theorem cs_245_92 : ((mc_245.drop 92).take 6).all (mm_f mM_245) = true := by decide +kernel
theorem ch_245 : mm_hd mM_245 = true := by decide +kernel
set_option maxRecDepth 20000 in
theorem cm_245 : Cond.code mM_245.1 mM_245.2.1 mM_245.2.2.1 mM_245.2.2.2.1 ∈ mk_LT := List.mem_cons_of_mem _ (List.mem_append_right _ (List.mem_append_right _ (List.mem_append_right _ (List.mem_append_right _ (List.mem_append_right _ (List.mem_append_right _ (List.mem_append_right _ (List.mem_of_getElem? (i := 115) rfl))))))))
theorem ce_245 : (mc_245.drop 98).all (mm_f mM_245) = true := by decide +kernel
theorem ck_245 : mm_OKM mM_245 := ⟨ch_245, cm_245, (mm_j 0 60 cs_245_0 (mm_j 60 32 cs_245_60 (mm_j 92 6 cs_245_92 ce_245)))⟩
theorem cs_246_0 : ((mc_246.drop 0).take 59).all (mm_f mM_246) = true := by decide +kernel
theorem cs_246_59 : ((mc_246.drop 59).take 32).all (mm_f mM_246) = true := by decide +kernel
theorem cs_246_91 : ((mc_246.drop 91).take 13).all (mm_f mM_246) = true := by decide +kernel
theorem ch_246 : mm_hd mM_246 = true := by decide +kernel
set_option maxRecDepth 20000 in
theorem cm_246 : Cond.code mM_246.1 mM_246.2.1 mM_246.2.2.1 mM_246.2.2.2.1 ∈ mk_LT := List.mem_cons_of_mem _ (List.mem_append_right _ (List.mem_append_right _ (List.mem_append_right _ (List.mem_append_right _ (List.mem_append_right _ (List.mem_append_right _ (List.mem_append_right _ (List.mem_of_getElem? (i := 127) rfl))))))))
theorem ce_246 : (mc_246.drop 104).all (mm_f mM_246) = true := by decide +kernel
theorem ck_246 : mm_OKM mM_246 := ⟨ch_246, cm_246, (mm_j 0 59 cs_246_0 (mm_j 59 32 cs_246_59 (mm_j 91 13 cs_246_91 ce_246)))⟩
theorem cs_247_0 : ((mc_247.drop 0).take 13).all (mm_f mM_247) = true := by decide +kernel
theorem ch_247 : mm_hd mM_247 = true := by decide +kernel
set_option maxRecDepth 20000 in
theorem cm_247 : Cond.code mM_247.1 mM_247.2.1 mM_247.2.2.1 mM_247.2.2.2.1 ∈ mk_LT := List.mem_cons_of_mem _ (List.mem_append_right _ (List.mem_append_right _ (List.mem_append_right _ (List.mem_append_right _ (List.mem_append_right _ (List.mem_append_right _ (List.mem_append_right _ (List.mem_of_getElem? (i := 134) rfl))))))))
theorem ce_247 : (mc_247.drop 13).all (mm_f mM_247) = true := by decide +kernel
theorem ck_247 : mm_OKM mM_247 := ⟨ch_247, cm_247, (mm_j 0 13 cs_247_0 ce_247)⟩
theorem cs_248_0 : ((mc_248.drop 0).take 31).all (mm_f mM_248) = true := by decide +kernel
theorem ch_248 : mm_hd mM_248 = true := by decide +kernel
set_option maxRecDepth 20000 in
theorem cm_248 : Cond.code mM_248.1 mM_248.2.1 mM_248.2.2.1 mM_248.2.2.2.1 ∈ mk_LT := List.mem_cons_of_mem _ (List.mem_append_right _ (List.mem_append_right _ (List.mem_append_right _ (List.mem_append_right _ (List.mem_append_right _ (List.mem_append_right _ (List.mem_append_right _ (List.mem_of_getElem? (i := 131) rfl))))))))
theorem ce_248 : (mc_248.drop 31).all (mm_f mM_248) = true := by decide +kernel
theorem ck_248 : mm_OKM mM_248 := ⟨ch_248, cm_248, (mm_j 0 31 cs_248_0 ce_248)⟩
theorem cs_249_0 : ((mc_249.drop 0).take 44).all (mm_f mM_249) = true := by decide +kernel
theorem ch_249 : mm_hd mM_249 = true := by decide +kernel
set_option maxRecDepth 20000 in
theorem cm_249 : Cond.code mM_249.1 mM_249.2.1 mM_249.2.2.1 mM_249.2.2.2.1 ∈ mk_LT := List.mem_cons_of_mem _ (List.mem_append_right _ (List.mem_append_right _ (List.mem_append_right _ (List.mem_append_right _ (List.mem_append_right _ (List.mem_append_right _ (List.mem_append_right _ (List.mem_of_getElem? (i := 123) rfl))))))))
theorem ce_249 : (mc_249.drop 44).all (mm_f mM_249) = true := by decide +kernel
theorem ck_249 : mm_OKM mM_249 := ⟨ch_249, cm_249, (mm_j 0 44 cs_249_0 ce_249)⟩
theorem cs_250_0 : ((mc_250.drop 0).take 17).all (mm_f mM_250) = true := by decide +kernel
theorem ch_250 : mm_hd mM_250 = true := by decide +kernel
set_option maxRecDepth 20000 in
theorem cm_250 : Cond.code mM_250.1 mM_250.2.1 mM_250.2.2.1 mM_250.2.2.2.1 ∈ mk_LT := List.mem_cons_of_mem _ (List.mem_append_right _ (List.mem_append_right _ (List.mem_append_right _ (List.mem_append_right _ (List.mem_append_right _ (List.mem_append_right _ (List.mem_append_right _ (List.mem_of_getElem? (i := 151) rfl))))))))
theorem ce_250 : (mc_250.drop 17).all (mm_f mM_250) = true := by decide +kernel
theorem ck_250 : mm_OKM mM_250 := ⟨ch_250, cm_250, (mm_j 0 17 cs_250_0 ce_250)⟩
theorem cs_251_0 : ((mc_251.drop 0).take 56).all (mm_f mM_251) = true := by decide +kernel
theorem ch_251 : mm_hd mM_251 = true := by decide +kernel
set_option maxRecDepth 20000 in
theorem cm_251 : Cond.code mM_251.1 mM_251.2.1 mM_251.2.2.1 mM_251.2.2.2.1 ∈ mk_LT := List.mem_cons_of_mem _ (List.mem_append_right _ (List.mem_append_right _ (List.mem_append_right _ (List.mem_append_right _ (List.mem_append_right _ (List.mem_append_right _ (List.mem_append_right _ (List.mem_of_getElem? (i := 147) rfl))))))))
theorem ce_251 : (mc_251.drop 56).all (mm_f mM_251) = true := by decide +kernel
theorem ck_251 : mm_OKM mM_251 := ⟨ch_251, cm_251, (mm_j 0 56 cs_251_0 ce_251)⟩
theorem cs_252_0 : ((mc_252.drop 0).take 59).all (mm_f mM_252) = true := by decide +kernel
theorem cs_252_59 : ((mc_252.drop 59).take 22).all (mm_f mM_252) = true := by decide +kernel
theorem ch_252 : mm_hd mM_252 = true := by decide +kernel
set_option maxRecDepth 20000 in
theorem cm_252 : Cond.code mM_252.1 mM_252.2.1 mM_252.2.2.1 mM_252.2.2.2.1 ∈ mk_LT := List.mem_cons_of_mem _ (List.mem_append_right _ (List.mem_append_right _ (List.mem_append_right _ (List.mem_append_right _ (List.mem_append_right _ (List.mem_append_right _ (List.mem_append_right _ (List.mem_of_getElem? (i := 143) rfl))))))))
theorem ce_252 : (mc_252.drop 81).all (mm_f mM_252) = true := by decide +kernel
theorem ck_252 : mm_OKM mM_252 := ⟨ch_252, cm_252, (mm_j 0 59 cs_252_0 (mm_j 59 22 cs_252_59 ce_252))⟩
theorem cs_253_0 : ((mc_253.drop 0).take 31).all (mm_f mM_253) = true := by decide +kernel
theorem ch_253 : mm_hd mM_253 = true := by decide +kernel
set_option maxRecDepth 20000 in
theorem cm_253 : Cond.code mM_253.1 mM_253.2.1 mM_253.2.2.1 mM_253.2.2.2.1 ∈ mk_LT := List.mem_cons_of_mem _ (List.mem_append_right _ (List.mem_append_right _ (List.mem_append_right _ (List.mem_append_right _ (List.mem_append_right _ (List.mem_append_right _ (List.mem_append_right _ (List.mem_of_getElem? (i := 158) rfl))))))))
theorem ce_253 : (mc_253.drop 31).all (mm_f mM_253) = true := by decide +kernel
theorem ck_253 : mm_OKM mM_253 := ⟨ch_253, cm_253, (mm_j 0 31 cs_253_0 ce_253)⟩
theorem cs_254_0 : ((mc_254.drop 0).take 40).all (mm_f mM_254) = true := by decide +kernel
theorem cs_254_40 : ((mc_254.drop 40).take 21).all (mm_f mM_254) = true := by decide +kernel
theorem ch_254 : mm_hd mM_254 = true := by decide +kernel
set_option maxRecDepth 20000 in
theorem cm_254 : Cond.code mM_254.1 mM_254.2.1 mM_254.2.2.1 mM_254.2.2.2.1 ∈ mk_LT := List.mem_cons_of_mem _ (List.mem_append_right _ (List.mem_append_right _ (List.mem_append_right _ (List.mem_append_right _ (List.mem_append_right _ (List.mem_append_right _ (List.mem_append_right _ (List.mem_of_getElem? (i := 162) rfl))))))))
theorem ce_254 : (mc_254.drop 61).all (mm_f mM_254) = true := by decide +kernel
theorem ck_254 : mm_OKM mM_254 := ⟨ch_254, cm_254, (mm_j 0 40 cs_254_0 (mm_j 40 21 cs_254_40 ce_254))⟩
theorem cs_255_0 : ((mc_255.drop 0).take 3).all (mm_f mM_255) = true := by decide +kernel
theorem ch_255 : mm_hd mM_255 = true := by decide +kernel
set_option maxRecDepth 20000 in
theorem cm_255 : Cond.code mM_255.1 mM_255.2.1 mM_255.2.2.1 mM_255.2.2.2.1 ∈ mk_LT := List.mem_cons_of_mem _ (List.mem_append_right _ (List.mem_append_right _ (List.mem_append_right _ (List.mem_append_right _ (List.mem_append_right _ (List.mem_append_right _ (List.mem_append_right _ (List.mem_of_getElem? (i := 166) rfl))))))))
theorem ce_255 : (mc_255.drop 3).all (mm_f mM_255) = true := by decide +kernel
theorem ck_255 : mm_OKM mM_255 := ⟨ch_255, cm_255, (mm_j 0 3 cs_255_0 ce_255)⟩
theorem cs_256_0 : ((mc_256.drop 0).take 42).all (mm_f mM_256) = true := by decide +kernel
theorem ch_256 : mm_hd mM_256 = true := by decide +kernel
set_option maxRecDepth 20000 in
theorem cm_256 : Cond.code mM_256.1 mM_256.2.1 mM_256.2.2.1 mM_256.2.2.2.1 ∈ mk_LT := List.mem_cons_of_mem _ (List.mem_append_right _ (List.mem_append_right _ (List.mem_append_right _ (List.mem_append_left _ (List.mem_of_getElem? (i := 145) rfl)))))
theorem ce_256 : (mc_256.drop 42).all (mm_f mM_256) = true := by decide +kernel
theorem ck_256 : mm_OKM mM_256 := ⟨ch_256, cm_256, (mm_j 0 42 cs_256_0 ce_256)⟩
theorem cs_257_0 : ((mc_257.drop 0).take 15).all (mm_f mM_257) = true := by decide +kernel
theorem ch_257 : mm_hd mM_257 = true := by decide +kernel
set_option maxRecDepth 20000 in
theorem cm_257 : Cond.code mM_257.1 mM_257.2.1 mM_257.2.2.1 mM_257.2.2.2.1 ∈ mk_LT := List.mem_cons_of_mem _ (List.mem_append_right _ (List.mem_append_right _ (List.mem_append_right _ (List.mem_append_right _ (List.mem_append_left _ (List.mem_of_getElem? (i := 135) rfl))))))
theorem ce_257 : (mc_257.drop 15).all (mm_f mM_257) = true := by decide +kernel
theorem ck_257 : mm_OKM mM_257 := ⟨ch_257, cm_257, (mm_j 0 15 cs_257_0 ce_257)⟩
theorem cs_258_0 : ((mc_258.drop 0).take 15).all (mm_f mM_258) = true := by decide +kernel
theorem ch_258 : mm_hd mM_258 = true := by decide +kernel
set_option maxRecDepth 20000 in
theorem cm_258 : Cond.code mM_258.1 mM_258.2.1 mM_258.2.2.1 mM_258.2.2.2.1 ∈ mk_LT := List.mem_cons_of_mem _ (List.mem_append_right _ (List.mem_append_right _ (List.mem_append_right _ (List.mem_append_right _ (List.mem_append_left _ (List.mem_of_getElem? (i := 39) rfl))))))
theorem ce_258 : (mc_258.drop 15).all (mm_f mM_258) = true := by decide +kernel
theorem ck_258 : mm_OKM mM_258 := ⟨ch_258, cm_258, (mm_j 0 15 cs_258_0 ce_258)⟩
theorem cs_259_0 : ((mc_259.drop 0).take 22).all (mm_f mM_259) = true := by decide +kernel
theorem ch_259 : mm_hd mM_259 = true := by decide +kernel
set_option maxRecDepth 20000 in
theorem cm_259 : Cond.code mM_259.1 mM_259.2.1 mM_259.2.2.1 mM_259.2.2.2.1 ∈ mk_LT := List.mem_cons_of_mem _ (List.mem_append_right _ (List.mem_append_right _ (List.mem_append_right _ (List.mem_append_left _ (List.mem_of_getElem? (i := 101) rfl)))))
theorem ce_259 : (mc_259.drop 22).all (mm_f mM_259) = true := by decide +kernel
theorem ck_259 : mm_OKM mM_259 := ⟨ch_259, cm_259, (mm_j 0 22 cs_259_0 ce_259)⟩
