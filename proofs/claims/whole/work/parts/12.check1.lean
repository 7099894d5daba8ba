theorem cs_27_0 : ((mc_27.drop 0).take 51).all (mm_f mM_27) = true := by decide +kernel
theorem ch_27 : mm_hd mM_27 = true := by decide +kernel
set_option maxRecDepth 20000 in
theorem cm_27 : Cond.code mM_27.1 mM_27.2.1 mM_27.2.2.1 mM_27.2.2.2.1 ∈ mk_LT := List.mem_cons_of_mem _ (List.mem_append_right _ (List.mem_append_right _ (List.mem_append_right _ (List.mem_append_right _ (List.mem_append_left _ (List.mem_of_getElem? (i := 66) rfl))))))
theorem ce_27 : (mc_27.drop 51).all (mm_f mM_27) = true := by decide +kernel
theorem ck_27 : mm_OKM mM_27 := ⟨ch_27, cm_27, (mm_j 0 51 cs_27_0 ce_27)⟩
theorem cs_28_0 : ((mc_28.drop 0).take 32).all (mm_f mM_28) = true := by decide +kernel
theorem ch_28 : mm_hd mM_28 = true := by decide +kernel
set_option maxRecDepth 20000 in
theorem cm_28 : Cond.code mM_28.1 mM_28.2.1 mM_28.2.2.1 mM_28.2.2.2.1 ∈ mk_LT := List.mem_cons_of_mem _ (List.mem_append_right _ (List.mem_append_right _ (List.mem_append_right _ (List.mem_append_right _ (List.mem_append_left _ (List.mem_of_getElem? (i := 70) rfl))))))
theorem ce_28 : (mc_28.drop 32).all (mm_f mM_28) = true := by decide +kernel
theorem ck_28 : mm_OKM mM_28 := ⟨ch_28, cm_28, (mm_j 0 32 cs_28_0 ce_28)⟩
theorem cs_29_0 : ((mc_29.drop 0).take 7).all (mm_f mM_29) = true := by decide +kernel
theorem ch_29 : mm_hd mM_29 = true := by decide +kernel
set_option maxRecDepth 20000 in
theorem cm_29 : Cond.code mM_29.1 mM_29.2.1 mM_29.2.2.1 mM_29.2.2.2.1 ∈ mk_LT := List.mem_cons_of_mem _ (List.mem_append_right _ (List.mem_append_left _ (List.mem_of_getElem? (i := 182) rfl)))
theorem ce_29 : (mc_29.drop 7).all (mm_f mM_29) = true := by decide +kernel
theorem ck_29 : mm_OKM mM_29 := ⟨ch_29, cm_29, (mm_j 0 7 cs_29_0 ce_29)⟩
theorem cs_30_0 : ((mc_30.drop 0).take 60).all (mm_f mM_30) = true := by decide +kernel
theorem cs_30_60 : ((mc_30.drop 60).take 32).all (mm_f mM_30) = true := by decide +kernel
theorem cs_30_92 : ((mc_30.drop 92).take 25).all (mm_f mM_30) = true := by decide +kernel
theorem cs_30_117 : ((mc_30.drop 117).take 22).all (mm_f mM_30) = true := by decide +kernel
theorem cs_30_139 : ((mc_30.drop 139).take 19).all (mm_f mM_30) = true := by decide +kernel
theorem cs_30_158 : ((mc_30.drop 158).take 17).all (mm_f mM_30) = true := by decide +kernel
theorem cs_30_175 : ((mc_30.drop 175).take 16).all (mm_f mM_30) = true := by decide +kernel
theorem cs_30_191 : ((mc_30.drop 191).take 5).all (mm_f mM_30) = true := by decide +kernel
theorem ch_30 : mm_hd mM_30 = true := by decide +kernel
set_option maxRecDepth 20000 in
theorem cm_30 : Cond.code mM_30.1 mM_30.2.1 mM_30.2.2.1 mM_30.2.2.2.1 ∈ mk_LT := List.mem_cons_of_mem _ (List.mem_append_right _ (List.mem_append_right _ (List.mem_append_left _ (List.mem_of_getElem? (i := 166) rfl))))
theorem ce_30 : (mc_30.drop 196).all (mm_f mM_30) = true := by decide +kernel
theorem ck_30 : mm_OKM mM_30 := ⟨ch_30, cm_30, (mm_j 0 60 cs_30_0 (mm_j 60 32 cs_30_60 (mm_j 92 25 cs_30_92 (mm_j 117 22 cs_30_117 (mm_j 139 19 cs_30_139 (mm_j 158 17 cs_30_158 (mm_j 175 16 cs_30_175 (mm_j 191 5 cs_30_191 ce_30))))))))⟩
theorem cs_31_0 : ((mc_31.drop 0).take 50).all (mm_f mM_31) = true := by decide +kernel
theorem cs_31_50 : ((mc_31.drop 50).take 8).all (mm_f mM_31) = true := by decide +kernel
theorem ch_31 : mm_hd mM_31 = true := by decide +kernel
set_option maxRecDepth 20000 in
theorem cm_31 : Cond.code mM_31.1 mM_31.2.1 mM_31.2.2.1 mM_31.2.2.2.1 ∈ mk_LT := List.mem_cons_of_mem _ (List.mem_append_right _ (List.mem_append_right _ (List.mem_append_left _ (List.mem_of_getElem? (i := 177) rfl))))
theorem ce_31 : (mc_31.drop 58).all (mm_f mM_31) = true := by decide +kernel
theorem ck_31 : mm_OKM mM_31 := ⟨ch_31, cm_31, (mm_j 0 50 cs_31_0 (mm_j 50 8 cs_31_50 ce_31))⟩
theorem cs_32_0 : ((mc_32.drop 0).take 17).all (mm_f mM_32) = true := by decide +kernel
theorem ch_32 : mm_hd mM_32 = true := by decide +kernel
set_option maxRecDepth 20000 in
theorem cm_32 : Cond.code mM_32.1 mM_32.2.1 mM_32.2.2.1 mM_32.2.2.2.1 ∈ mk_LT := List.mem_cons_of_mem _ (List.mem_append_right _ (List.mem_append_left _ (List.mem_of_getElem? (i := 117) rfl)))
theorem ce_32 : (mc_32.drop 17).all (mm_f mM_32) = true := by decide +kernel
theorem ck_32 : mm_OKM mM_32 := ⟨ch_32, cm_32, (mm_j 0 17 cs_32_0 ce_32)⟩
theorem cs_33_0 : ((mc_33.drop 0).take 58).all (mm_f mM_33) = true := by decide +kernel
theorem cs_33_58 : ((mc_33.drop 58).take 31).all (mm_f mM_33) = true := by decide +kernel
theorem cs_33_89 : ((mc_33.drop 89).take 25).all (mm_f mM_33) = true := by decide +kernel
theorem cs_33_114 : ((mc_33.drop 114).take 8).all (mm_f mM_33) = true := by decide +kernel
theorem ch_33 : mm_hd mM_33 = true := by decide +kernel
set_option maxRecDepth 20000 in
theorem cm_33 : Cond.code mM_33.1 mM_33.2.1 mM_33.2.2.1 mM_33.2.2.2.1 ∈ mk_LT := List.mem_cons_of_mem _ (List.mem_append_right _ (List.mem_append_right _ (List.mem_append_left _ (List.mem_of_getElem? (i := 231) rfl))))
theorem ce_33 : (mc_33.drop 122).all (mm_f mM_33) = true := by decide +kernel
theorem ck_33 : mm_OKM mM_33 := ⟨ch_33, cm_33, (mm_j 0 58 cs_33_0 (mm_j 58 31 cs_33_58 (mm_j 89 25 cs_33_89 (mm_j 114 8 cs_33_114 ce_33))))⟩
theorem cs_34_0 : ((mc_34.drop 0).take 32).all (mm_f mM_34) = true := by decide +kernel
theorem ch_34 : mm_hd mM_34 = true := by decide +kernel
set_option maxRecDepth 20000 in
theorem cm_34 : Cond.code mM_34.1 mM_34.2.1 mM_34.2.2.1 mM_34.2.2.2.1 ∈ mk_LT := List.mem_cons_of_mem _ (List.mem_append_right _ (List.mem_append_right _ (List.mem_append_left _ (List.mem_of_getElem? (i := 235) rfl))))
theorem ce_34 : (mc_34.drop 32).all (mm_f mM_34) = true := by decide +kernel
theorem ck_34 : mm_OKM mM_34 := ⟨ch_34, cm_34, (mm_j 0 32 cs_34_0 ce_34)⟩
theorem cs_35_0 : ((mc_35.drop 0).take 26).all (mm_f mM_35) = true := by decide +kernel
theorem ch_35 : mm_hd mM_35 = true := by decide +kernel
set_option maxRecDepth 20000 in
theorem cm_35 : Cond.code mM_35.1 mM_35.2.1 mM_35.2.2.1 mM_35.2.2.2.1 ∈ mk_LT := List.mem_cons_of_mem _ (List.mem_append_right _ (List.mem_append_right _ (List.mem_append_right _ (List.mem_append_left _ (List.mem_of_getElem? (i := 77) rfl)))))
theorem ce_35 : (mc_35.drop 26).all (mm_f mM_35) = true := by decide +kernel
theorem ck_35 : mm_OKM mM_35 := ⟨ch_35, cm_35, (mm_j 0 26 cs_35_0 ce_35)⟩
theorem cs_36_0 : ((mc_36.drop 0).take 58).all (mm_f mM_36) = true := by decide +kernel
theorem cs_36_58 : ((mc_36.drop 58).take 17).all (mm_f mM_36) = true := by decide +kernel
theorem ch_36 : mm_hd mM_36 = true := by decide +kernel
set_option maxRecDepth 20000 in
theorem cm_36 : Cond.code mM_36.1 mM_36.2.1 mM_36.2.2.1 mM_36.2.2.2.1 ∈ mk_LT := List.mem_cons_of_mem _ (List.mem_append_right _ (List.mem_append_right _ (List.mem_append_right _ (List.mem_append_left _ (List.mem_of_getElem? (i := 82) rfl)))))
theorem ce_36 : (mc_36.drop 75).all (mm_f mM_36) = true := by decide +kernel
theorem ck_36 : mm_OKM mM_36 := ⟨ch_36, cm_36, (mm_j 0 58 cs_36_0 (mm_j 58 17 cs_36_58 ce_36))⟩
theorem cs_37_0 : ((mc_37.drop 0).take 59).all (mm_f mM_37) = true := by decide +kernel
theorem cs_37_59 : ((mc_37.drop 59).take 33).all (mm_f mM_37) = true := by decide +kernel
theorem cs_37_92 : ((mc_37.drop 92).take 13).all (mm_f mM_37) = true := by decide +kernel
theorem ch_37 : mm_hd mM_37 = true := by decide +kernel
set_option maxRecDepth 20000 in
theorem cm_37 : Cond.code mM_37.1 mM_37.2.1 mM_37.2.2.1 mM_37.2.2.2.1 ∈ mk_LT := List.mem_cons_of_mem _ (List.mem_append_right _ (List.mem_append_right _ (List.mem_append_right _ (List.mem_append_left _ (List.mem_of_getElem? (i := 86) rfl)))))
theorem ce_37 : (mc_37.drop 105).all (mm_f mM_37) = true := by decide +kernel
theorem ck_37 : mm_OKM mM_37 := ⟨ch_37, cm_37, (mm_j 0 59 cs_37_0 (mm_j 59 33 cs_37_59 (mm_j 92 13 cs_37_92 ce_37)))⟩
theorem cs_38_0 : ((mc_38.drop 0).take 57).all (mm_f mM_38) = true := by decide +kernel
theorem cs_38_57 : ((mc_38.drop 57).take 27).all (mm_f mM_38) = true := by decide +kernel
theorem ch_38 : mm_hd mM_38 = true := by decide +kernel
set_option maxRecDepth 20000 in
theorem cm_38 : Cond.code mM_38.1 mM_38.2.1 mM_38.2.2.1 mM_38.2.2.2.1 ∈ mk_LT := List.mem_cons_of_mem _ (List.mem_append_right _ (List.mem_append_right _ (List.mem_append_right _ (List.mem_append_left _ (List.mem_of_getElem? (i := 62) rfl)))))
theorem ce_38 : (mc_38.drop 84).all (mm_f mM_38) = true := by decide +kernel
theorem ck_38 : mm_OKM mM_38 := ⟨ch_38, cm_38, (mm_j 0 57 cs_38_0 (mm_j 57 27 cs_38_57 ce_38))⟩
theorem cs_39_0 : ((mc_39.drop 0).take 59).all (mm_f mM_39) = true := by decide +kernel
theorem cs_39_59 : ((mc_39.drop 59).take 32).all (mm_f mM_39) = true := by decide +kernel
theorem cs_39_91 : ((mc_39.drop 91).take 25).all (mm_f mM_39) = true := by decide +kernel
theorem cs_39_116 : ((mc_39.drop 116).take 9).all (mm_f mM_39) = true := by decide +kernel
theorem ch_39 : mm_hd mM_39 = true := by decide +kernel
set_option maxRecDepth 20000 in
theorem cm_39 : Cond.code mM_39.1 mM_39.2.1 mM_39.2.2.1 mM_39.2.2.2.1 ∈ mk_LT := List.mem_cons_of_mem _ (List.mem_append_right _ (List.mem_append_right _ (List.mem_append_right _ (List.mem_append_left _ (List.mem_of_getElem? (i := 66) rfl)))))
theorem ce_39 : (mc_39.drop 125).all (mm_f mM_39) = true := by decide +kernel
theorem ck_39 : mm_OKM mM_39 := ⟨ch_39, cm_39, (mm_j 0 59 cs_39_0 (mm_j 59 32 cs_39_59 (mm_j 91 25 cs_39_91 (mm_j 116 9 cs_39_116 ce_39))))⟩
theorem cs_40_0 : ((mc_40.drop 0).take 6).all (mm_f mM_40) = true := by decide +kernel
theorem ch_40 : mm_hd mM_40 = true := by decide +kernel
set_option maxRecDepth 20000 in
theorem cm_40 : Cond.code mM_40.1 mM_40.2.1 mM_40.2.2.1 mM_40.2.2.2.1 ∈ mk_LT := List.mem_cons_of_mem _ (List.mem_append_right _ (List.mem_append_right _ (List.mem_append_right _ (List.mem_append_left _ (List.mem_of_getElem? (i := 58) rfl)))))
theorem ce_40 : (mc_40.drop 6).all (mm_f mM_40) = true := by decide +kernel
theorem ck_40 : mm_OKM mM_40 := ⟨ch_40, cm_40, (mm_j 0 6 cs_40_0 ce_40)⟩
theorem cs_41_0 : ((mc_41.drop 0).take 28).all (mm_f mM_41) = true := by decide +kernel
theorem ch_41 : mm_hd mM_41 = true := by decide +kernel
set_option maxRecDepth 20000 in
theorem cm_41 : Cond.code mM_41.1 mM_41.2.1 mM_41.2.2.1 mM_41.2.2.2.1 ∈ mk_LT := List.mem_cons_of_mem _ (List.mem_append_right _ (List.mem_append_right _ (List.mem_append_right _ (List.mem_append_left _ (List.mem_of_getElem? (i := 72) rfl)))))
theorem ce_41 : (mc_41.drop 28).all (mm_f mM_41) = true := by decide +kernel
theorem ck_41 : mm_OKM mM_41 := ⟨ch_41, cm_41, (mm_j 0 28 cs_41_0 ce_41)⟩
theorem cs_42_0 : ((mc_42.drop 0).take 58).all (mm_f mM_42) = true := by decide +kernel
theorem cs_42_58 : ((mc_42.drop 58).take 31).all (mm_f mM_42) = true := by decide +kernel
theorem cs_42_89 : ((mc_42.drop 89).take 25).all (mm_f mM_42) = true := by decide +kernel
theorem cs_42_114 : ((mc_42.drop 114).take 1).all (mm_f mM_42) = true := by decide +kernel
theorem ch_42 : mm_hd mM_42 = true := by decide +kernel
set_option maxRecDepth 20000 in
theorem cm_42 : Cond.code mM_42.1 mM_42.2.1 mM_42.2.2.1 mM_42.2.2.2.1 ∈ mk_LT := List.mem_cons_of_mem _ (List.mem_append_right _ (List.mem_append_right _ (List.mem_append_right _ (List.mem_append_left _ (List.mem_of_getElem? (i := 0) rfl)))))
theorem ce_42 : (mc_42.drop 115).all (mm_f mM_42) = true := by decide +kernel
theorem ck_42 : mm_OKM mM_42 := ⟨ch_42, cm_42, (mm_j 0 58 cs_42_0 (mm_j 58 31 cs_42_58 (mm_j 89 25 cs_42_89 (mm_j 114 1 cs_42_114 ce_42))))⟩
theorem cs_43_0 : ((mc_43.drop 0).take 59).all (mm_f mM_43) = true := by decide +kernel
theorem cs_43_59 : ((mc_43.drop 59).take 3).all (mm_f mM_43) = true := by decide +kernel
theorem ch_43 : mm_hd mM_43 = true := by decide +kernel
set_option maxRecDepth 20000 in
theorem cm_43 : Cond.code mM_43.1 mM_43.2.1 mM_43.2.2.1 mM_43.2.2.2.1 ∈ mk_LT := List.mem_cons_of_mem _ (List.mem_append_right _ (List.mem_append_right _ (List.mem_append_right _ (List.mem_append_left _ (List.mem_of_getElem? (i := 6) rfl)))))
theorem ce_43 : (mc_43.drop 62).all (mm_f mM_43) = true := by decide +kernel
theorem ck_43 : mm_OKM mM_43 := ⟨ch_43, cm_43, (mm_j 0 59 cs_43_0 (mm_j 59 3 cs_43_59 ce_43))⟩
theorem cs_44_0 : ((mc_44.drop 0).take 43).all (mm_f mM_44) = true := by decide +kernel
theorem ch_44 : mm_hd mM_44 = true := by decide +kernel
set_option maxRecDepth 20000 in
theorem cm_44 : Cond.code mM_44.1 mM_44.2.1 mM_44.2.2.1 mM_44.2.2.2.1 ∈ mk_LT := List.mem_cons_of_mem _ (List.mem_append_right _ (List.mem_append_left _ (List.mem_of_getElem? (i := 30) rfl)))
theorem ce_44 : (mc_44.drop 43).all (mm_f mM_44) = true := by decide +kernel
theorem ck_44 : mm_OKM mM_44 := ⟨ch_44, cm_44, (mm_j 0 43 cs_44_0 ce_44)⟩
theorem cs_45_0 : ((mc_45.drop 0).take 58).all (mm_f mM_45) = true := by decide +kernel
theorem cs_45_58 : ((mc_45.drop 58).take 32).all (mm_f mM_45) = true := by decide +kernel
theorem cs_45_90 : ((mc_45.drop 90).take 14).all (mm_f mM_45) = true := by decide +kernel
theorem ch_45 : mm_hd mM_45 = true := by decide +kernel
set_option maxRecDepth 20000 in
theorem cm_45 : Cond.code mM_45.1 mM_45.2.1 mM_45.2.2.1 mM_45.2.2.2.1 ∈ mk_LT := List.mem_cons_of_mem _ (List.mem_append_right _ (List.mem_append_right _ (List.mem_append_right _ (List.mem_append_left _ (List.mem_of_getElem? (i := 123) rfl)))))
theorem ce_45 : (mc_45.drop 104).all (mm_f mM_45) = true := by decide +kernel
theorem ck_45 : mm_OKM mM_45 := ⟨ch_45, cm_45, (mm_j 0 58 cs_45_0 (mm_j 58 32 cs_45_58 (mm_j 90 14 cs_45_90 ce_45)))⟩
theorem cs_46_0 : ((mc_46.drop 0).take 14).all (mm_f mM_46) = true := by decide +kernel
theorem ch_46 : mm_hd mM_46 = true := by decide +kernel
set_option maxRecDepth 20000 in
theorem cm_46 : Cond.code mM_46.1 mM_46.2.1 mM_46.2.2.1 mM_46.2.2.2.1 ∈ mk_LT := List.mem_cons_of_mem _ (List.mem_append_right _ (List.mem_append_right _ (List.mem_append_left _ (List.mem_of_getElem? (i := 143) rfl))))
theorem ce_46 : (mc_46.drop 14).all (mm_f mM_46) = true := by decide +kernel
theorem ck_46 : mm_OKM mM_46 := ⟨ch_46, cm_46, (mm_j 0 14 cs_46_0 ce_46)⟩
theorem cs_47_0 : ((mc_47.drop 0).take 60).all (mm_f mM_47) = true := by decide +kernel
theorem cs_47_60 : ((mc_47.drop 60).take 32).all (mm_f mM_47) = true := by decide +kernel
theorem cs_47_92 : ((mc_47.drop 92).take 15).all (mm_f mM_47) = true := by decide +kernel
theorem ch_47 : mm_hd mM_47 = true := by decide +kernel
set_option maxRecDepth 20000 in
theorem cm_47 : Cond.code mM_47.1 mM_47.2.1 mM_47.2.2.1 mM_47.2.2.2.1 ∈ mk_LT := List.mem_cons_of_mem _ (List.mem_append_right _ (List.mem_append_right _ (List.mem_append_left _ (List.mem_of_getElem? (i := 102) rfl))))
theorem ce_47 : (mc_47.drop 107).all (mm_f mM_47) = true := by decide +kernel
theorem ck_47 : mm_OKM mM_47 := ⟨ch_47, cm_47, (mm_j 0 60 cs_47_0 (mm_j 60 32 cs_47_60 (mm_j 92 15 cs_47_92 ce_47)))⟩
theorem cs_48_0 : ((mc_48.drop 0).take 46).all (mm_f mM_48) = true := by decide +kernel
theorem ch_48 : mm_hd mM_48 = true := by decide +kernel
set_option maxRecDepth 20000 in
theorem cm_48 : Cond.code mM_48.1 mM_48.2.1 mM_48.2.2.1 mM_48.2.2.2.1 ∈ mk_LT := List.mem_cons_of_mem _ (List.mem_append_right _ (List.mem_append_right _ (List.mem_append_right _ (List.mem_append_left _ (List.mem_of_getElem? (i := 141) rfl)))))
theorem ce_48 : (mc_48.drop 46).all (mm_f mM_48) = true := by decide +kernel
theorem ck_48 : mm_OKM mM_48 := ⟨ch_48, cm_48, (mm_j 0 46 cs_48_0 ce_48)⟩
theorem cs_49_0 : ((mc_49.drop 0).take 15).all (mm_f mM_49) = true := by decide +kernel
theorem ch_49 : mm_hd mM_49 = true := by decide +kernel
set_option maxRecDepth 20000 in
theorem cm_49 : Cond.code mM_49.1 mM_49.2.1 mM_49.2.2.1 mM_49.2.2.2.1 ∈ mk_LT := List.mem_cons_of_mem _ (List.mem_append_right _ (List.mem_append_right _ (List.mem_append_right _ (List.mem_append_left _ (List.mem_of_getElem? (i := 158) rfl)))))
theorem ce_49 : (mc_49.drop 15).all (mm_f mM_49) = true := by decide +kernel
theorem ck_49 : mm_OKM mM_49 := ⟨ch_49, cm_49, (mm_j 0 15 cs_49_0 ce_49)⟩
theorem cs_50_0 : ((mc_50.drop 0).take 13).all (mm_f mM_50) = true := by decide +kernel
theorem ch_50 : mm_hd mM_50 = true := by decide +kernel
set_option maxRecDepth 20000 in
theorem cm_50 : Cond.code mM_50.1 mM_50.2.1 mM_50.2.2.1 mM_50.2.2.2.1 ∈ mk_LT := List.mem_cons_of_mem _ (List.mem_append_right _ (List.mem_append_right _ (List.mem_append_right _ (List.mem_append_left _ (List.mem_of_getElem? (i := 170) rfl)))))
theorem ce_50 : (mc_50.drop 13).all (mm_f mM_50) = true := by decide +kernel
theorem ck_50 : mm_OKM mM_50 := ⟨ch_50, cm_50, (mm_j 0 13 cs_50_0 ce_50)⟩
theorem cs_51_0 : ((mc_51.drop 0).take 28).all (mm_f mM_51) = true := by decide +kernel
theorem ch_51 : mm_hd mM_51 = true := by decide +kernel
set_option maxRecDepth 20000 in
theorem cm_51 : Cond.code mM_51.1 mM_51.2.1 mM_51.2.2.1 mM_51.2.2.2.1 ∈ mk_LT := List.mem_cons_of_mem _ (List.mem_append_right _ (List.mem_append_right _ (List.mem_append_right _ (List.mem_append_left _ (List.mem_of_getElem? (i := 162) rfl)))))
theorem ce_51 : (mc_51.drop 28).all (mm_f mM_51) = true := by decide +kernel
theorem ck_51 : mm_OKM mM_51 := ⟨ch_51, cm_51, (mm_j 0 28 cs_51_0 ce_51)⟩
theorem cs_52_0 : ((mc_52.drop 0).take 56).all (mm_f mM_52) = true := by decide +kernel
theorem cs_52_56 : ((mc_52.drop 56).take 7).all (mm_f mM_52) = true := by decide +kernel
theorem ch_52 : mm_hd mM_52 = true := by decide +kernel
set_option maxRecDepth 20000 in
theorem cm_52 : Cond.code mM_52.1 mM_52.2.1 mM_52.2.2.1 mM_52.2.2.2.1 ∈ mk_LT := List.mem_cons_of_mem _ (List.mem_append_right _ (List.mem_append_right _ (List.mem_append_right _ (List.mem_append_right _ (List.mem_append_left _ (List.mem_of_getElem? (i := 4) rfl))))))
theorem ce_52 : (mc_52.drop 63).all (mm_f mM_52) = true := by decide +kernel
theorem ck_52 : mm_OKM mM_52 := ⟨ch_52, cm_52, (mm_j 0 56 cs_52_0 (mm_j 56 7 cs_52_56 ce_52))⟩
theorem cs_53_0 : ((mc_53.drop 0).take 15).all (mm_f mM_53) = true := by decide +kernel
theorem ch_53 : mm_hd mM_53 = true := by decide +kernel
set_option maxRecDepth 20000 in
theorem cm_53 : Cond.code mM_53.1 mM_53.2.1 mM_53.2.2.1 mM_53.2.2.2.1 ∈ mk_LT := List.mem_cons_of_mem _ (List.mem_append_right _ (List.mem_append_left _ (List.mem_of_getElem? (i := 123) rfl)))
theorem ce_53 : (mc_53.drop 15).all (mm_f mM_53) = true := by decide +kernel
theorem ck_53 : mm_OKM mM_53 := ⟨ch_53, cm_53, (mm_j 0 15 cs_53_0 ce_53)⟩
theorem cs_54_0 : ((mc_54.drop 0).take 26).all (mm_f mM_54) = true := by decide +kernel
theorem ch_54 : mm_hd mM_54 = true := by decide +kernel
set_option maxRecDepth 20000 in
theorem cm_54 : Cond.code mM_54.1 mM_54.2.1 mM_54.2.2.1 mM_54.2.2.2.1 ∈ mk_LT := List.mem_cons_of_mem _ (List.mem_append_right _ (List.mem_append_right _ (List.mem_append_right _ (List.mem_append_left _ (List.mem_of_getElem? (i := 97) rfl)))))
theorem ce_54 : (mc_54.drop 26).all (mm_f mM_54) = true := by decide +kernel
theorem ck_54 : mm_OKM mM_54 := ⟨ch_54, cm_54, (mm_j 0 26 cs_54_0 ce_54)⟩
theorem cs_55_0 : ((mc_55.drop 0).take 57).all (mm_f mM_55) = true := by decide +kernel
theorem ch_55 : mm_hd mM_55 = true := by decide +kernel
set_option maxRecDepth 20000 in
theorem cm_55 : Cond.code mM_55.1 mM_55.2.1 mM_55.2.2.1 mM_55.2.2.2.1 ∈ mk_LT := List.mem_cons_of_mem _ (List.mem_append_right _ (List.mem_append_right _ (List.mem_append_right _ (List.mem_append_left _ (List.mem_of_getElem? (i := 93) rfl)))))
theorem ce_55 : (mc_55.drop 57).all (mm_f mM_55) = true := by decide +kernel
theorem ck_55 : mm_OKM mM_55 := ⟨ch_55, cm_55, (mm_j 0 57 cs_55_0 ce_55)⟩
theorem cs_56_0 : ((mc_56.drop 0).take 20).all (mm_f mM_56) = true := by decide +kernel
theorem ch_56 : mm_hd mM_56 = true := by decide +kernel
set_option maxRecDepth 20000 in
theorem cm_56 : Cond.code mM_56.1 mM_56.2.1 mM_56.2.2.1 mM_56.2.2.2.1 ∈ mk_LT := List.mem_cons_of_mem _ (List.mem_append_right _ (List.mem_append_right _ (List.mem_append_left _ (List.mem_of_getElem? (i := 162) rfl))))
theorem ce_56 : (mc_56.drop 20).all (mm_f mM_56) = true := by decide +kernel
theorem ck_56 : mm_OKM mM_56 := ⟨ch_56, cm_56, (mm_j 0 20 cs_56_0 ce_56)⟩
theorem cs_57_0 : ((mc_57.drop 0).take 56).all (mm_f mM_57) = true := by decide +kernel
theorem cs_57_56 : ((mc_57.drop 56).take 31).all (mm_f mM_57) = true := by decide +kernel
theorem ch_57 : mm_hd mM_57 = true := by decide +kernel
set_option maxRecDepth 20000 in
theorem cm_57 : Cond.code mM_57.1 mM_57.2.1 mM_57.2.2.1 mM_57.2.2.2.1 ∈ mk_LT := List.mem_cons_of_mem _ (List.mem_append_right _ (List.mem_append_left _ (List.mem_of_getElem? (i := 22) rfl)))
theorem ce_57 : (mc_57.drop 87).all (mm_f mM_57) = true := by decide +kernel
theorem ck_57 : mm_OKM mM_57 := ⟨ch_57, cm_57, (mm_j 0 56 cs_57_0 (mm_j 56 31 cs_57_56 ce_57))⟩
theorem cs_58_0 : ((mc_58.drop 0).take 60).all (mm_f mM_58) = true := by decide +kernel
theorem cs_58_60 : ((mc_58.drop 60).take 4).all (mm_f mM_58) = true := by decide +kernel
theorem ch_58 : mm_hd mM_58 = true := by decide +kernel
set_option maxRecDepth 20000 in
theorem cm_58 : Cond.code mM_58.1 mM_58.2.1 mM_58.2.2.1 mM_58.2.2.2.1 ∈ mk_LT := List.mem_cons_of_mem _ (List.mem_append_right _ (List.mem_append_right _ (List.mem_append_left _ (List.mem_of_getElem? (i := 91) rfl))))
theorem ce_58 : (mc_58.drop 64).all (mm_f mM_58) = true := by decide +kernel
theorem ck_58 : mm_OKM mM_58 := ⟨ch_58, cm_58, (mm_j 0 60 cs_58_0 (mm_j 60 4 cs_58_60 ce_58))⟩
theorem cs_59_0 : ((mc_59.drop 0).take 57).all (mm_f mM_59) = true := by decide +kernel
theorem ch_59 : mm_hd mM_59 = true := by decide +kernel
set_option maxRecDepth 20000 in
theorem cm_59 : Cond.code mM_59.1 mM_59.2.1 mM_59.2.2.1 mM_59.2.2.2.1 ∈ mk_LT := List.mem_cons_of_mem _ (List.mem_append_right _ (List.mem_append_right _ (List.mem_append_left _ (List.mem_of_getElem? (i := 115) rfl))))
theorem ce_59 : (mc_59.drop 57).all (mm_f mM_59) = true := by decide +kernel
theorem ck_59 : mm_OKM mM_59 := ⟨ch_59, cm_59, (mm_j 0 57 cs_59_0 ce_59)⟩
theorem cs_60_0 : ((mc_60.drop 0).take 58).all (mm_f mM_60) = true := by decide +kernel
theorem cs_60_58 : ((mc_60.drop 58).take 2).all (mm_f mM_60) = true := by decide +kernel
theorem ch_60 : mm_hd mM_60 = true := by decide +kernel
set_option maxRecDepth 20000 in
theorem cm_60 : Cond.code mM_60.1 mM_60.2.1 mM_60.2.2.1 mM_60.2.2.2.1 ∈ mk_LT := List.mem_cons_of_mem _ (List.mem_append_right _ (List.mem_append_right _ (List.mem_append_left _ (List.mem_of_getElem? (i := 119) rfl))))
theorem ce_60 : (mc_60.drop 60).all (mm_f mM_60) = true := by decide +kernel
theorem ck_60 : mm_OKM mM_60 := ⟨ch_60, cm_60, (mm_j 0 58 cs_60_0 (mm_j 58 2 cs_60_58 ce_60))⟩
theorem cs_61_0 : ((mc_61.drop 0).take 16).all (mm_f mM_61) = true := by decide +kernel
theorem ch_61 : mm_hd mM_61 = true := by decide +kernel
set_option maxRecDepth 20000 in
theorem cm_61 : Cond.code mM_61.1 mM_61.2.1 mM_61.2.2.1 mM_61.2.2.2.1 ∈ mk_LT := List.mem_cons_of_mem _ (List.mem_append_right _ (List.mem_append_right _ (List.mem_append_left _ (List.mem_of_getElem? (i := 123) rfl))))
theorem ce_61 : (mc_61.drop 16).all (mm_f mM_61) = true := by decide +kernel
theorem ck_61 : mm_OKM mM_61 := ⟨ch_61, cm_61, (mm_j 0 16 cs_61_0 ce_61)⟩
theorem cs_62_0 : ((mc_62.drop 0).take 57).all (mm_f mM_62) = true := by decide +kernel
theorem cs_62_57 : ((mc_62.drop 57).take 2).all (mm_f mM_62) = true := by decide +kernel
theorem ch_62 : mm_hd mM_62 = true := by decide +kernel
set_option maxRecDepth 20000 in
theorem cm_62 : Cond.code mM_62.1 mM_62.2.1 mM_62.2.2.1 mM_62.2.2.2.1 ∈ mk_LT := List.mem_cons_of_mem _ (List.mem_append_right _ (List.mem_append_right _ (List.mem_append_left _ (List.mem_of_getElem? (i := 139) rfl))))
theorem ce_62 : (mc_62.drop 59).all (mm_f mM_62) = true := by decide +kernel
theorem ck_62 : mm_OKM mM_62 := ⟨ch_62, cm_62, (mm_j 0 57 cs_62_0 (mm_j 57 2 cs_62_57 ce_62))⟩
