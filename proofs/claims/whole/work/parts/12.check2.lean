theorem cs_63_0 : ((mc_63.drop 0).take 24).all (mm_f mM_63) = true := by decide +kernel
theorem ch_63 : mm_hd mM_63 = true := by decide +kernel
set_option maxRecDepth 20000 in
theorem cm_63 : Cond.code mM_63.1 mM_63.2.1 mM_63.2.2.1 mM_63.2.2.2.1 ∈ mk_LT := List.mem_cons_of_mem _ (List.mem_append_right _ (List.mem_append_right _ (List.mem_append_left _ (List.mem_of_getElem? (i := 199) rfl))))
theorem ce_63 : (mc_63.drop 24).all (mm_f mM_63) = true := by decide +kernel
theorem ck_63 : mm_OKM mM_63 := ⟨ch_63, cm_63, (mm_j 0 24 cs_63_0 ce_63)⟩
theorem cs_64_0 : ((mc_64.drop 0).take 48).all (mm_f mM_64) = true := by decide +kernel
theorem ch_64 : mm_hd mM_64 = true := by decide +kernel
set_option maxRecDepth 20000 in
theorem cm_64 : Cond.code mM_64.1 mM_64.2.1 mM_64.2.2.1 mM_64.2.2.2.1 ∈ mk_LT := List.mem_cons_of_mem _ (List.mem_append_right _ (List.mem_append_right _ (List.mem_append_left _ (List.mem_of_getElem? (i := 203) rfl))))
theorem ce_64 : (mc_64.drop 48).all (mm_f mM_64) = true := by decide +kernel
theorem ck_64 : mm_OKM mM_64 := ⟨ch_64, cm_64, (mm_j 0 48 cs_64_0 ce_64)⟩
theorem cs_65_0 : ((mc_65.drop 0).take 26).all (mm_f mM_65) = true := by decide +kernel
theorem ch_65 : mm_hd mM_65 = true := by decide +kernel
set_option maxRecDepth 20000 in
theorem cm_65 : Cond.code mM_65.1 mM_65.2.1 mM_65.2.2.1 mM_65.2.2.2.1 ∈ mk_LT := List.mem_cons_of_mem _ (List.mem_append_right _ (List.mem_append_right _ (List.mem_append_left _ (List.mem_of_getElem? (i := 207) rfl))))
theorem ce_65 : (mc_65.drop 26).all (mm_f mM_65) = true := by decide +kernel
theorem ck_65 : mm_OKM mM_65 := ⟨ch_65, cm_65, (mm_j 0 26 cs_65_0 ce_65)⟩
theorem cs_66_0 : ((mc_66.drop 0).take 13).all (mm_f mM_66) = true := by decide +kernel
theorem ch_66 : mm_hd mM_66 = true := by decide +kernel
set_option maxRecDepth 20000 in
theorem cm_66 : Cond.code mM_66.1 mM_66.2.1 mM_66.2.2.1 mM_66.2.2.2.1 ∈ mk_LT := List.mem_cons_of_mem _ (List.mem_append_right _ (List.mem_append_right _ (List.mem_append_left _ (List.mem_of_getElem? (i := 215) rfl))))
theorem ce_66 : (mc_66.drop 13).all (mm_f mM_66) = true := by decide +kernel
theorem ck_66 : mm_OKM mM_66 := ⟨ch_66, cm_66, (mm_j 0 13 cs_66_0 ce_66)⟩
theorem cs_67_0 : ((mc_67.drop 0).take 62).all (mm_f mM_67) = true := by decide +kernel
theorem cs_67_62 : ((mc_67.drop 62).take 26).all (mm_f mM_67) = true := by decide +kernel
theorem ch_67 : mm_hd mM_67 = true := by decide +kernel
set_option maxRecDepth 20000 in
theorem cm_67 : Cond.code mM_67.1 mM_67.2.1 mM_67.2.2.1 mM_67.2.2.2.1 ∈ mk_LT := List.mem_cons_of_mem _ (List.mem_append_right _ (List.mem_append_right _ (List.mem_append_left _ (List.mem_of_getElem? (i := 219) rfl))))
theorem ce_67 : (mc_67.drop 88).all (mm_f mM_67) = true := by decide +kernel
theorem ck_67 : mm_OKM mM_67 := ⟨ch_67, cm_67, (mm_j 0 62 cs_67_0 (mm_j 62 26 cs_67_62 ce_67))⟩
theorem cs_68_0 : ((mc_68.drop 0).take 3).all (mm_f mM_68) = true := by decide +kernel
theorem ch_68 : mm_hd mM_68 = true := by decide +kernel
set_option maxRecDepth 20000 in
theorem cm_68 : Cond.code mM_68.1 mM_68.2.1 mM_68.2.2.1 mM_68.2.2.2.1 ∈ mk_LT := List.mem_cons_of_mem _ (List.mem_append_right _ (List.mem_append_right _ (List.mem_append_left _ (List.mem_of_getElem? (i := 223) rfl))))
theorem ce_68 : (mc_68.drop 3).all (mm_f mM_68) = true := by decide +kernel
theorem ck_68 : mm_OKM mM_68 := ⟨ch_68, cm_68, (mm_j 0 3 cs_68_0 ce_68)⟩
theorem cs_69_0 : ((mc_69.drop 0).take 58).all (mm_f mM_69) = true := by decide +kernel
theorem cs_69_58 : ((mc_69.drop 58).take 2).all (mm_f mM_69) = true := by decide +kernel
theorem ch_69 : mm_hd mM_69 = true := by decide +kernel
set_option maxRecDepth 20000 in
theorem cm_69 : Cond.code mM_69.1 mM_69.2.1 mM_69.2.2.1 mM_69.2.2.2.1 ∈ mk_LT := List.mem_cons_of_mem _ (List.mem_append_right _ (List.mem_append_right _ (List.mem_append_left _ (List.mem_of_getElem? (i := 227) rfl))))
theorem ce_69 : (mc_69.drop 60).all (mm_f mM_69) = true := by decide +kernel
theorem ck_69 : mm_OKM mM_69 := ⟨ch_69, cm_69, (mm_j 0 58 cs_69_0 (mm_j 58 2 cs_69_58 ce_69))⟩
theorem cs_70_0 : ((mc_70.drop 0).take 59).all (mm_f mM_70) = true := by decide +kernel
theorem cs_70_59 : ((mc_70.drop 59).take 32).all (mm_f mM_70) = true := by decide +kernel
theorem cs_70_91 : ((mc_70.drop 91).take 25).all (mm_f mM_70) = true := by decide +kernel
theorem cs_70_116 : ((mc_70.drop 116).take 21).all (mm_f mM_70) = true := by decide +kernel
theorem cs_70_137 : ((mc_70.drop 137).take 2).all (mm_f mM_70) = true := by decide +kernel
theorem ch_70 : mm_hd mM_70 = true := by decide +kernel
set_option maxRecDepth 20000 in
theorem cm_70 : Cond.code mM_70.1 mM_70.2.1 mM_70.2.2.1 mM_70.2.2.2.1 ∈ mk_LT := List.mem_cons_of_mem _ (List.mem_append_right _ (List.mem_append_right _ (List.mem_append_right _ (List.mem_append_left _ (List.mem_of_getElem? (i := 119) rfl)))))
theorem ce_70 : (mc_70.drop 139).all (mm_f mM_70) = true := by decide +kernel
theorem ck_70 : mm_OKM mM_70 := ⟨ch_70, cm_70, (mm_j 0 59 cs_70_0 (mm_j 59 32 cs_70_59 (mm_j 91 25 cs_70_91 (mm_j 116 21 cs_70_116 (mm_j 137 2 cs_70_137 ce_70)))))⟩
theorem cs_71_0 : ((mc_71.drop 0).take 3).all (mm_f mM_71) = true := by decide +kernel
theorem ch_71 : mm_hd mM_71 = true := by decide +kernel
set_option maxRecDepth 20000 in
theorem cm_71 : Cond.code mM_71.1 mM_71.2.1 mM_71.2.2.1 mM_71.2.2.2.1 ∈ mk_LT := List.mem_cons_of_mem _ (List.mem_append_right _ (List.mem_append_right _ (List.mem_append_right _ (List.mem_append_left _ (List.mem_of_getElem? (i := 212) rfl)))))
theorem ce_71 : (mc_71.drop 3).all (mm_f mM_71) = true := by decide +kernel
theorem ck_71 : mm_OKM mM_71 := ⟨ch_71, cm_71, (mm_j 0 3 cs_71_0 ce_71)⟩
theorem cs_72_0 : ((mc_72.drop 0).take 3).all (mm_f mM_72) = true := by decide +kernel
theorem ch_72 : mm_hd mM_72 = true := by decide +kernel
set_option maxRecDepth 20000 in
theorem cm_72 : Cond.code mM_72.1 mM_72.2.1 mM_72.2.2.1 mM_72.2.2.2.1 ∈ mk_LT := List.mem_cons_of_mem _ (List.mem_append_right _ (List.mem_append_right _ (List.mem_append_right _ (List.mem_append_left _ (List.mem_of_getElem? (i := 216) rfl)))))
theorem ce_72 : (mc_72.drop 3).all (mm_f mM_72) = true := by decide +kernel
theorem ck_72 : mm_OKM mM_72 := ⟨ch_72, cm_72, (mm_j 0 3 cs_72_0 ce_72)⟩
theorem cs_73_0 : ((mc_73.drop 0).take 24).all (mm_f mM_73) = true := by decide +kernel
theorem ch_73 : mm_hd mM_73 = true := by decide +kernel
set_option maxRecDepth 20000 in
theorem cm_73 : Cond.code mM_73.1 mM_73.2.1 mM_73.2.2.1 mM_73.2.2.2.1 ∈ mk_LT := List.mem_cons_of_mem _ (List.mem_append_right _ (List.mem_append_right _ (List.mem_append_right _ (List.mem_append_left _ (List.mem_of_getElem? (i := 220) rfl)))))
theorem ce_73 : (mc_73.drop 24).all (mm_f mM_73) = true := by decide +kernel
theorem ck_73 : mm_OKM mM_73 := ⟨ch_73, cm_73, (mm_j 0 24 cs_73_0 ce_73)⟩
theorem cs_74_0 : ((mc_74.drop 0).take 7).all (mm_f mM_74) = true := by decide +kernel
theorem ch_74 : mm_hd mM_74 = true := by decide +kernel
set_option maxRecDepth 20000 in
theorem cm_74 : Cond.code mM_74.1 mM_74.2.1 mM_74.2.2.1 mM_74.2.2.2.1 ∈ mk_LT := List.mem_cons_of_mem _ (List.mem_append_right _ (List.mem_append_right _ (List.mem_append_right _ (List.mem_append_left _ (List.mem_of_getElem? (i := 224) rfl)))))
theorem ce_74 : (mc_74.drop 7).all (mm_f mM_74) = true := by decide +kernel
theorem ck_74 : mm_OKM mM_74 := ⟨ch_74, cm_74, (mm_j 0 7 cs_74_0 ce_74)⟩
theorem cs_75_0 : ((mc_75.drop 0).take 5).all (mm_f mM_75) = true := by decide +kernel
theorem ch_75 : mm_hd mM_75 = true := by decide +kernel
set_option maxRecDepth 20000 in
theorem cm_75 : Cond.code mM_75.1 mM_75.2.1 mM_75.2.2.1 mM_75.2.2.2.1 ∈ mk_LT := List.mem_cons_of_mem _ (List.mem_append_right _ (List.mem_append_right _ (List.mem_append_right _ (List.mem_append_left _ (List.mem_of_getElem? (i := 228) rfl)))))
theorem ce_75 : (mc_75.drop 5).all (mm_f mM_75) = true := by decide +kernel
theorem ck_75 : mm_OKM mM_75 := ⟨ch_75, cm_75, (mm_j 0 5 cs_75_0 ce_75)⟩
theorem cs_76_0 : ((mc_76.drop 0).take 7).all (mm_f mM_76) = true := by decide +kernel
theorem ch_76 : mm_hd mM_76 = true := by decide +kernel
set_option maxRecDepth 20000 in
theorem cm_76 : Cond.code mM_76.1 mM_76.2.1 mM_76.2.2.1 mM_76.2.2.2.1 ∈ mk_LT := List.mem_cons_of_mem _ (List.mem_append_right _ (List.mem_append_right _ (List.mem_append_right _ (List.mem_append_left _ (List.mem_of_getElem? (i := 232) rfl)))))
theorem ce_76 : (mc_76.drop 7).all (mm_f mM_76) = true := by decide +kernel
theorem ck_76 : mm_OKM mM_76 := ⟨ch_76, cm_76, (mm_j 0 7 cs_76_0 ce_76)⟩
theorem cs_77_0 : ((mc_77.drop 0).take 5).all (mm_f mM_77) = true := by decide +kernel
theorem ch_77 : mm_hd mM_77 = true := by decide +kernel
set_option maxRecDepth 20000 in
theorem cm_77 : Cond.code mM_77.1 mM_77.2.1 mM_77.2.2.1 mM_77.2.2.2.1 ∈ mk_LT := List.mem_cons_of_mem _ (List.mem_append_right _ (List.mem_append_right _ (List.mem_append_right _ (List.mem_append_left _ (List.mem_of_getElem? (i := 236) rfl)))))
theorem ce_77 : (mc_77.drop 5).all (mm_f mM_77) = true := by decide +kernel
theorem ck_77 : mm_OKM mM_77 := ⟨ch_77, cm_77, (mm_j 0 5 cs_77_0 ce_77)⟩
theorem cs_78_0 : ((mc_78.drop 0).take 6).all (mm_f mM_78) = true := by decide +kernel
theorem ch_78 : mm_hd mM_78 = true := by decide +kernel
set_option maxRecDepth 20000 in
theorem cm_78 : Cond.code mM_78.1 mM_78.2.1 mM_78.2.2.1 mM_78.2.2.2.1 ∈ mk_LT := List.mem_cons_of_mem _ (List.mem_append_right _ (List.mem_append_right _ (List.mem_append_right _ (List.mem_append_right _ (List.mem_append_left _ (List.mem_of_getElem? (i := 0) rfl))))))
theorem ce_78 : (mc_78.drop 6).all (mm_f mM_78) = true := by decide +kernel
theorem ck_78 : mm_OKM mM_78 := ⟨ch_78, cm_78, (mm_j 0 6 cs_78_0 ce_78)⟩
theorem cs_79_0 : ((mc_79.drop 0).take 7).all (mm_f mM_79) = true := by decide +kernel
theorem ch_79 : mm_hd mM_79 = true := by decide +kernel
set_option maxRecDepth 20000 in
theorem cm_79 : Cond.code mM_79.1 mM_79.2.1 mM_79.2.2.1 mM_79.2.2.2.1 ∈ mk_LT := List.mem_cons_of_mem _ (List.mem_append_right _ (List.mem_append_right _ (List.mem_append_right _ (List.mem_append_right _ (List.mem_append_left _ (List.mem_of_getElem? (i := 10) rfl))))))
theorem ce_79 : (mc_79.drop 7).all (mm_f mM_79) = true := by decide +kernel
theorem ck_79 : mm_OKM mM_79 := ⟨ch_79, cm_79, (mm_j 0 7 cs_79_0 ce_79)⟩
theorem cs_80_0 : ((mc_80.drop 0).take 26).all (mm_f mM_80) = true := by decide +kernel
theorem ch_80 : mm_hd mM_80 = true := by decide +kernel
set_option maxRecDepth 20000 in
theorem cm_80 : Cond.code mM_80.1 mM_80.2.1 mM_80.2.2.1 mM_80.2.2.2.1 ∈ mk_LT := List.mem_cons_of_mem _ (List.mem_append_right _ (List.mem_append_right _ (List.mem_append_right _ (List.mem_append_right _ (List.mem_append_left _ (List.mem_of_getElem? (i := 14) rfl))))))
theorem ce_80 : (mc_80.drop 26).all (mm_f mM_80) = true := by decide +kernel
theorem ck_80 : mm_OKM mM_80 := ⟨ch_80, cm_80, (mm_j 0 26 cs_80_0 ce_80)⟩
theorem cs_81_0 : ((mc_81.drop 0).take 29).all (mm_f mM_81) = true := by decide +kernel
theorem ch_81 : mm_hd mM_81 = true := by decide +kernel
set_option maxRecDepth 20000 in
theorem cm_81 : Cond.code mM_81.1 mM_81.2.1 mM_81.2.2.1 mM_81.2.2.2.1 ∈ mk_LT := List.mem_cons_of_mem _ (List.mem_append_right _ (List.mem_append_right _ (List.mem_append_right _ (List.mem_append_right _ (List.mem_append_left _ (List.mem_of_getElem? (i := 23) rfl))))))
theorem ce_81 : (mc_81.drop 29).all (mm_f mM_81) = true := by decide +kernel
theorem ck_81 : mm_OKM mM_81 := ⟨ch_81, cm_81, (mm_j 0 29 cs_81_0 ce_81)⟩
theorem cs_82_0 : ((mc_82.drop 0).take 53).all (mm_f mM_82) = true := by decide +kernel
theorem ch_82 : mm_hd mM_82 = true := by decide +kernel
set_option maxRecDepth 20000 in
theorem cm_82 : Cond.code mM_82.1 mM_82.2.1 mM_82.2.2.1 mM_82.2.2.2.1 ∈ mk_LT := List.mem_cons_of_mem _ (List.mem_append_right _ (List.mem_append_right _ (List.mem_append_right _ (List.mem_append_right _ (List.mem_append_left _ (List.mem_of_getElem? (i := 27) rfl))))))
theorem ce_82 : (mc_82.drop 53).all (mm_f mM_82) = true := by decide +kernel
theorem ck_82 : mm_OKM mM_82 := ⟨ch_82, cm_82, (mm_j 0 53 cs_82_0 ce_82)⟩
theorem cs_83_0 : ((mc_83.drop 0).take 56).all (mm_f mM_83) = true := by decide +kernel
theorem ch_83 : mm_hd mM_83 = true := by decide +kernel
set_option maxRecDepth 20000 in
theorem cm_83 : Cond.code mM_83.1 mM_83.2.1 mM_83.2.2.1 mM_83.2.2.2.1 ∈ mk_LT := List.mem_cons_of_mem _ (List.mem_append_right _ (List.mem_append_right _ (List.mem_append_right _ (List.mem_append_right _ (List.mem_append_left _ (List.mem_of_getElem? (i := 32) rfl))))))
theorem ce_83 : (mc_83.drop 56).all (mm_f mM_83) = true := by decide +kernel
theorem ck_83 : mm_OKM mM_83 := ⟨ch_83, cm_83, (mm_j 0 56 cs_83_0 ce_83)⟩
theorem cs_84_0 : ((mc_84.drop 0).take 17).all (mm_f mM_84) = true := by decide +kernel
theorem ch_84 : mm_hd mM_84 = true := by decide +kernel
set_option maxRecDepth 20000 in
theorem cm_84 : Cond.code mM_84.1 mM_84.2.1 mM_84.2.2.1 mM_84.2.2.2.1 ∈ mk_LT := List.mem_cons_of_mem _ (List.mem_append_right _ (List.mem_append_right _ (List.mem_append_right _ (List.mem_append_right _ (List.mem_append_left _ (List.mem_of_getElem? (i := 78) rfl))))))
theorem ce_84 : (mc_84.drop 17).all (mm_f mM_84) = true := by decide +kernel
theorem ck_84 : mm_OKM mM_84 := ⟨ch_84, cm_84, (mm_j 0 17 cs_84_0 ce_84)⟩
theorem cs_85_0 : ((mc_85.drop 0).take 20).all (mm_f mM_85) = true := by decide +kernel
theorem ch_85 : mm_hd mM_85 = true := by decide +kernel
set_option maxRecDepth 20000 in
theorem cm_85 : Cond.code mM_85.1 mM_85.2.1 mM_85.2.2.1 mM_85.2.2.2.1 ∈ mk_LT := List.mem_cons_of_mem _ (List.mem_append_right _ (List.mem_append_right _ (List.mem_append_right _ (List.mem_append_right _ (List.mem_append_left _ (List.mem_of_getElem? (i := 83) rfl))))))
theorem ce_85 : (mc_85.drop 20).all (mm_f mM_85) = true := by decide +kernel
theorem ck_85 : mm_OKM mM_85 := ⟨ch_85, cm_85, (mm_j 0 20 cs_85_0 ce_85)⟩
theorem cs_86_0 : ((mc_86.drop 0).take 55).all (mm_f mM_86) = true := by decide +kernel
theorem ch_86 : mm_hd mM_86 = true := by decide +kernel
set_option maxRecDepth 20000 in
theorem cm_86 : Cond.code mM_86.1 mM_86.2.1 mM_86.2.2.1 mM_86.2.2.2.1 ∈ mk_LT := List.mem_cons_of_mem _ (List.mem_append_right _ (List.mem_append_right _ (List.mem_append_right _ (List.mem_append_right _ (List.mem_append_left _ (List.mem_of_getElem? (i := 110) rfl))))))
theorem ce_86 : (mc_86.drop 55).all (mm_f mM_86) = true := by decide +kernel
theorem ck_86 : mm_OKM mM_86 := ⟨ch_86, cm_86, (mm_j 0 55 cs_86_0 ce_86)⟩
theorem cs_87_0 : ((mc_87.drop 0).take 61).all (mm_f mM_87) = true := by decide +kernel
theorem ch_87 : mm_hd mM_87 = true := by decide +kernel
set_option maxRecDepth 20000 in
theorem cm_87 : Cond.code mM_87.1 mM_87.2.1 mM_87.2.2.1 mM_87.2.2.2.1 ∈ mk_LT := List.mem_cons_of_mem _ (List.mem_append_right _ (List.mem_append_right _ (List.mem_append_right _ (List.mem_append_right _ (List.mem_append_left _ (List.mem_of_getElem? (i := 115) rfl))))))
theorem ce_87 : (mc_87.drop 61).all (mm_f mM_87) = true := by decide +kernel
theorem ck_87 : mm_OKM mM_87 := ⟨ch_87, cm_87, (mm_j 0 61 cs_87_0 ce_87)⟩
theorem cs_88_0 : ((mc_88.drop 0).take 38).all (mm_f mM_88) = true := by decide +kernel
theorem ch_88 : mm_hd mM_88 = true := by decide +kernel
set_option maxRecDepth 20000 in
theorem cm_88 : Cond.code mM_88.1 mM_88.2.1 mM_88.2.2.1 mM_88.2.2.2.1 ∈ mk_LT := List.mem_cons_of_mem _ (List.mem_append_right _ (List.mem_append_right _ (List.mem_append_right _ (List.mem_append_right _ (List.mem_append_left _ (List.mem_of_getElem? (i := 120) rfl))))))
theorem ce_88 : (mc_88.drop 38).all (mm_f mM_88) = true := by decide +kernel
theorem ck_88 : mm_OKM mM_88 := ⟨ch_88, cm_88, (mm_j 0 38 cs_88_0 ce_88)⟩
theorem cs_89_0 : ((mc_89.drop 0).take 10).all (mm_f mM_89) = true := by decide +kernel
theorem ch_89 : mm_hd mM_89 = true := by decide +kernel
set_option maxRecDepth 20000 in
theorem cm_89 : Cond.code mM_89.1 mM_89.2.1 mM_89.2.2.1 mM_89.2.2.2.1 ∈ mk_LT := List.mem_cons_of_mem _ (List.mem_append_right _ (List.mem_append_right _ (List.mem_append_right _ (List.mem_append_right _ (List.mem_append_left _ (List.mem_of_getElem? (i := 124) rfl))))))
theorem ce_89 : (mc_89.drop 10).all (mm_f mM_89) = true := by decide +kernel
theorem ck_89 : mm_OKM mM_89 := ⟨ch_89, cm_89, (mm_j 0 10 cs_89_0 ce_89)⟩
theorem cs_90_0 : ((mc_90.drop 0).take 9).all (mm_f mM_90) = true := by decide +kernel
theorem ch_90 : mm_hd mM_90 = true := by decide +kernel
set_option maxRecDepth 20000 in
theorem cm_90 : Cond.code mM_90.1 mM_90.2.1 mM_90.2.2.1 mM_90.2.2.2.1 ∈ mk_LT := List.mem_cons_of_mem _ (List.mem_append_right _ (List.mem_append_right _ (List.mem_append_right _ (List.mem_append_right _ (List.mem_append_left _ (List.mem_of_getElem? (i := 128) rfl))))))
theorem ce_90 : (mc_90.drop 9).all (mm_f mM_90) = true := by decide +kernel
theorem ck_90 : mm_OKM mM_90 := ⟨ch_90, cm_90, (mm_j 0 9 cs_90_0 ce_90)⟩
theorem cs_91_0 : ((mc_91.drop 0).take 59).all (mm_f mM_91) = true := by decide +kernel
theorem cs_91_59 : ((mc_91.drop 59).take 34).all (mm_f mM_91) = true := by decide +kernel
theorem cs_91_93 : ((mc_91.drop 93).take 10).all (mm_f mM_91) = true := by decide +kernel
theorem ch_91 : mm_hd mM_91 = true := by decide +kernel
set_option maxRecDepth 20000 in
theorem cm_91 : Cond.code mM_91.1 mM_91.2.1 mM_91.2.2.1 mM_91.2.2.2.1 ∈ mk_LT := List.mem_cons_of_mem _ (List.mem_append_right _ (List.mem_append_right _ (List.mem_append_right _ (List.mem_append_right _ (List.mem_append_left _ (List.mem_of_getElem? (i := 132) rfl))))))
theorem ce_91 : (mc_91.drop 103).all (mm_f mM_91) = true := by decide +kernel
theorem ck_91 : mm_OKM mM_91 := ⟨ch_91, cm_91, (mm_j 0 59 cs_91_0 (mm_j 59 34 cs_91_59 (mm_j 93 10 cs_91_93 ce_91)))⟩
theorem cs_92_0 : ((mc_92.drop 0).take 41).all (mm_f mM_92) = true := by decide +kernel
theorem ch_92 : mm_hd mM_92 = true := by decide +kernel
set_option maxRecDepth 20000 in
theorem cm_92 : Cond.code mM_92.1 mM_92.2.1 mM_92.2.2.1 mM_92.2.2.2.1 ∈ mk_LT := List.mem_cons_of_mem _ (List.mem_append_right _ (List.mem_append_right _ (List.mem_append_right _ (List.mem_append_right _ (List.mem_append_left _ (List.mem_of_getElem? (i := 141) rfl))))))
theorem ce_92 : (mc_92.drop 41).all (mm_f mM_92) = true := by decide +kernel
theorem ck_92 : mm_OKM mM_92 := ⟨ch_92, cm_92, (mm_j 0 41 cs_92_0 ce_92)⟩
theorem cs_93_0 : ((mc_93.drop 0).take 58).all (mm_f mM_93) = true := by decide +kernel
theorem cs_93_58 : ((mc_93.drop 58).take 32).all (mm_f mM_93) = true := by decide +kernel
theorem cs_93_90 : ((mc_93.drop 90).take 24).all (mm_f mM_93) = true := by decide +kernel
theorem cs_93_114 : ((mc_93.drop 114).take 9).all (mm_f mM_93) = true := by decide +kernel
theorem ch_93 : mm_hd mM_93 = true := by decide +kernel
set_option maxRecDepth 20000 in
theorem cm_93 : Cond.code mM_93.1 mM_93.2.1 mM_93.2.2.1 mM_93.2.2.2.1 ∈ mk_LT := List.mem_cons_of_mem _ (List.mem_append_right _ (List.mem_append_right _ (List.mem_append_right _ (List.mem_append_right _ (List.mem_append_left _ (List.mem_of_getElem? (i := 145) rfl))))))
theorem ce_93 : (mc_93.drop 123).all (mm_f mM_93) = true := by decide +kernel
theorem ck_93 : mm_OKM mM_93 := ⟨ch_93, cm_93, (mm_j 0 58 cs_93_0 (mm_j 58 32 cs_93_58 (mm_j 90 24 cs_93_90 (mm_j 114 9 cs_93_114 ce_93))))⟩
theorem cs_94_0 : ((mc_94.drop 0).take 16).all (mm_f mM_94) = true := by decide +kernel
theorem ch_94 : mm_hd mM_94 = true := by decide +kernel
set_option maxRecDepth 20000 in
theorem cm_94 : Cond.code mM_94.1 mM_94.2.1 mM_94.2.2.1 mM_94.2.2.2.1 ∈ mk_LT := List.mem_cons_of_mem _ (List.mem_append_right _ (List.mem_append_right _ (List.mem_append_right _ (List.mem_append_right _ (List.mem_append_left _ (List.mem_of_getElem? (i := 155) rfl))))))
theorem ce_94 : (mc_94.drop 16).all (mm_f mM_94) = true := by decide +kernel
theorem ck_94 : mm_OKM mM_94 := ⟨ch_94, cm_94, (mm_j 0 16 cs_94_0 ce_94)⟩
theorem cs_95_0 : ((mc_95.drop 0).take 24).all (mm_f mM_95) = true := by decide +kernel
theorem ch_95 : mm_hd mM_95 = true := by decide +kernel
set_option maxRecDepth 20000 in
theorem cm_95 : Cond.code mM_95.1 mM_95.2.1 mM_95.2.2.1 mM_95.2.2.2.1 ∈ mk_LT := List.mem_cons_of_mem _ (List.mem_append_right _ (List.mem_append_right _ (List.mem_append_right _ (List.mem_append_right _ (List.mem_append_left _ (List.mem_of_getElem? (i := 159) rfl))))))
theorem ce_95 : (mc_95.drop 24).all (mm_f mM_95) = true := by decide +kernel
theorem ck_95 : mm_OKM mM_95 := ⟨ch_95, cm_95, (mm_j 0 24 cs_95_0 ce_95)⟩
theorem cs_96_0 : ((mc_96.drop 0).take 32).all (mm_f mM_96) = true := by decide +kernel
theorem ch_96 : mm_hd mM_96 = true := by decide +kernel
set_option maxRecDepth 20000 in
theorem cm_96 : Cond.code mM_96.1 mM_96.2.1 mM_96.2.2.1 mM_96.2.2.2.1 ∈ mk_LT := List.mem_cons_of_mem _ (List.mem_append_right _ (List.mem_append_right _ (List.mem_append_right _ (List.mem_append_right _ (List.mem_append_left _ (List.mem_of_getElem? (i := 163) rfl))))))
theorem ce_96 : (mc_96.drop 32).all (mm_f mM_96) = true := by decide +kernel
theorem ck_96 : mm_OKM mM_96 := ⟨ch_96, cm_96, (mm_j 0 32 cs_96_0 ce_96)⟩
theorem cs_97_0 : ((mc_97.drop 0).take 38).all (mm_f mM_97) = true := by decide +kernel
theorem cs_97_38 : ((mc_97.drop 38).take 28).all (mm_f mM_97) = true := by decide +kernel
theorem cs_97_66 : ((mc_97.drop 66).take 12).all (mm_f mM_97) = true := by decide +kernel
theorem ch_97 : mm_hd mM_97 = true := by decide +kernel
set_option maxRecDepth 20000 in
theorem cm_97 : Cond.code mM_97.1 mM_97.2.1 mM_97.2.2.1 mM_97.2.2.2.1 ∈ mk_LT := List.mem_cons_of_mem _ (List.mem_append_right _ (List.mem_append_right _ (List.mem_append_right _ (List.mem_append_right _ (List.mem_append_left _ (List.mem_of_getElem? (i := 167) rfl))))))
theorem ce_97 : (mc_97.drop 78).all (mm_f mM_97) = true := by decide +kernel
theorem ck_97 : mm_OKM mM_97 := ⟨ch_97, cm_97, (mm_j 0 38 cs_97_0 (mm_j 38 28 cs_97_38 (mm_j 66 12 cs_97_66 ce_97)))⟩
theorem cs_98_0 : ((mc_98.drop 0).take 3).all (mm_f mM_98) = true := by decide +kernel
theorem ch_98 : mm_hd mM_98 = true := by decide +kernel
set_option maxRecDepth 20000 in
theorem cm_98 : Cond.code mM_98.1 mM_98.2.1 mM_98.2.2.1 mM_98.2.2.2.1 ∈ mk_LT := List.mem_cons_of_mem _ (List.mem_append_right _ (List.mem_append_right _ (List.mem_append_right _ (List.mem_append_right _ (List.mem_append_left _ (List.mem_of_getElem? (i := 171) rfl))))))
theorem ce_98 : (mc_98.drop 3).all (mm_f mM_98) = true := by decide +kernel
theorem ck_98 : mm_OKM mM_98 := ⟨ch_98, cm_98, (mm_j 0 3 cs_98_0 ce_98)⟩
theorem cs_99_0 : ((mc_99.drop 0).take 9).all (mm_f mM_99) = true := by decide +kernel
theorem ch_99 : mm_hd mM_99 = true := by decide +kernel
set_option maxRecDepth 20000 in
theorem cm_99 : Cond.code mM_99.1 mM_99.2.1 mM_99.2.2.1 mM_99.2.2.2.1 ∈ mk_LT := List.mem_cons_of_mem _ (List.mem_append_right _ (List.mem_append_right _ (List.mem_append_left _ (List.mem_of_getElem? (i := 98) rfl))))
theorem ce_99 : (mc_99.drop 9).all (mm_f mM_99) = true := by decide +kernel
theorem ck_99 : mm_OKM mM_99 := ⟨ch_99, cm_99, (mm_j 0 9 cs_99_0 ce_99)⟩
theorem cs_100_0 : ((mc_100.drop 0).take 5).all (mm_f mM_100) = true := by decide +kernel
theorem ch_100 : mm_hd mM_100 = true := by decide +kernel
set_option maxRecDepth 20000 in
theorem cm_100 : Cond.code mM_100.1 mM_100.2.1 mM_100.2.2.1 mM_100.2.2.2.1 ∈ mk_LT := List.mem_cons_of_mem _ (List.mem_append_right _ (List.mem_append_right _ (List.mem_append_left _ (List.mem_of_getElem? (i := 111) rfl))))
theorem ce_100 : (mc_100.drop 5).all (mm_f mM_100) = true := by decide +kernel
theorem ck_100 : mm_OKM mM_100 := ⟨ch_100, cm_100, (mm_j 0 5 cs_100_0 ce_100)⟩
theorem cs_101_0 : ((mc_101.drop 0).take 22).all (mm_f mM_101) = true := by decide +kernel
theorem ch_101 : mm_hd mM_101 = true := by decide +kernel
set_option maxRecDepth 20000 in
theorem cm_101 : Cond.code mM_101.1 mM_101.2.1 mM_101.2.2.1 mM_101.2.2.2.1 ∈ mk_LT := List.mem_cons_of_mem _ (List.mem_append_right _ (List.mem_append_right _ (List.mem_append_left _ (List.mem_of_getElem? (i := 95) rfl))))
theorem ce_101 : (mc_101.drop 22).all (mm_f mM_101) = true := by decide +kernel
theorem ck_101 : mm_OKM mM_101 := ⟨ch_101, cm_101, (mm_j 0 22 cs_101_0 ce_101)⟩
theorem cs_102_0 : ((mc_102.drop 0).take 10).all (mm_f mM_102) = true := by decide +kernel
theorem ch_102 : mm_hd mM_102 = true := by decide +kernel
set_option maxRecDepth 20000 in
theorem cm_102 : Cond.code mM_102.1 mM_102.2.1 mM_102.2.2.1 mM_102.2.2.2.1 ∈ mk_LT := List.mem_cons_of_mem _ (List.mem_append_right _ (List.mem_append_right _ (List.mem_append_left _ (List.mem_of_getElem? (i := 107) rfl))))
theorem ce_102 : (mc_102.drop 10).all (mm_f mM_102) = true := by decide +kernel
theorem ck_102 : mm_OKM mM_102 := ⟨ch_102, cm_102, (mm_j 0 10 cs_102_0 ce_102)⟩
theorem cs_103_0 : ((mc_103.drop 0).take 27).all (mm_f mM_103) = true := by decide +kernel
theorem ch_103 : mm_hd mM_103 = true := by decide +kernel
set_option maxRecDepth 20000 in
theorem cm_103 : Cond.code mM_103.1 mM_103.2.1 mM_103.2.2.1 mM_103.2.2.2.1 ∈ mk_LT := List.mem_cons_of_mem _ (List.mem_append_right _ (List.mem_append_right _ (List.mem_append_left _ (List.mem_of_getElem? (i := 211) rfl))))
theorem ce_103 : (mc_103.drop 27).all (mm_f mM_103) = true := by decide +kernel
theorem ck_103 : mm_OKM mM_103 := ⟨ch_103, cm_103, (mm_j 0 27 cs_103_0 ce_103)⟩
theorem cs_104_0 : ((mc_104.drop 0).take 61).all (mm_f mM_104) = true := by decide +kernel
theorem cs_104_61 : ((mc_104.drop 61).take 24).all (mm_f mM_104) = true := by decide +kernel
theorem ch_104 : mm_hd mM_104 = true := by decide +kernel
set_option maxRecDepth 20000 in
theorem cm_104 : Cond.code mM_104.1 mM_104.2.1 mM_104.2.2.1 mM_104.2.2.2.1 ∈ mk_LT := List.mem_cons_of_mem _ (List.mem_append_right _ (List.mem_append_right _ (List.mem_append_right _ (List.mem_append_left _ (List.mem_of_getElem? (i := 129) rfl)))))
theorem ce_104 : (mc_104.drop 85).all (mm_f mM_104) = true := by decide +kernel
theorem ck_104 : mm_OKM mM_104 := ⟨ch_104, cm_104, (mm_j 0 61 cs_104_0 (mm_j 61 24 cs_104_61 ce_104))⟩
theorem cs_105_0 : ((mc_105.drop 0).take 30).all (mm_f mM_105) = true := by decide +kernel
theorem ch_105 : mm_hd mM_105 = true := by decide +kernel
set_option maxRecDepth 20000 in
theorem cm_105 : Cond.code mM_105.1 mM_105.2.1 mM_105.2.2.1 mM_105.2.2.2.1 ∈ mk_LT := List.mem_cons_of_mem _ (List.mem_append_right _ (List.mem_append_right _ (List.mem_append_right _ (List.mem_append_left _ (List.mem_of_getElem? (i := 153) rfl)))))
theorem ce_105 : (mc_105.drop 30).all (mm_f mM_105) = true := by decide +kernel
theorem ck_105 : mm_OKM mM_105 := ⟨ch_105, cm_105, (mm_j 0 30 cs_105_0 ce_105)⟩
theorem cs_106_0 : ((mc_106.drop 0).take 25).all (mm_f mM_106) = true := by decide +kernel
theorem ch_106 : mm_hd mM_106 = true := by decide +kernel
set_option maxRecDepth 20000 in
theorem cm_106 : Cond.code mM_106.1 mM_106.2.1 mM_106.2.2.1 mM_106.2.2.2.1 ∈ mk_LT := List.mem_cons_of_mem _ (List.mem_append_right _ (List.mem_append_right _ (List.mem_append_right _ (List.mem_append_left _ (List.mem_of_getElem? (i := 166) rfl)))))
theorem ce_106 : (mc_106.drop 25).all (mm_f mM_106) = true := by decide +kernel
theorem ck_106 : mm_OKM mM_106 := ⟨ch_106, cm_106, (mm_j 0 25 cs_106_0 ce_106)⟩
theorem cs_107_0 : ((mc_107.drop 0).take 60).all (mm_f mM_107) = true := by decide +kernel
theorem cs_107_60 : ((mc_107.drop 60).take 1).all (mm_f mM_107) = true := by decide +kernel
theorem ch_107 : mm_hd mM_107 = true := by decide +kernel
set_option maxRecDepth 20000 in
theorem cm_107 : Cond.code mM_107.1 mM_107.2.1 mM_107.2.2.1 mM_107.2.2.2.1 ∈ mk_LT := List.mem_cons_of_mem _ (List.mem_append_right _ (List.mem_append_right _ (List.mem_append_right _ (List.mem_append_left _ (List.mem_of_getElem? (i := 174) rfl)))))
theorem ce_107 : (mc_107.drop 61).all (mm_f mM_107) = true := by decide +kernel
theorem ck_107 : mm_OKM mM_107 := ⟨ch_107, cm_107, (mm_j 0 60 cs_107_0 (mm_j 60 1 cs_107_60 ce_107))⟩
theorem cs_108_0 : ((mc_108.drop 0).take 28).all (mm_f mM_108) = true := by decide +kernel
theorem ch_108 : mm_hd mM_108 = true := by decide +kernel
set_option maxRecDepth 20000 in
theorem cm_108 : Cond.code mM_108.1 mM_108.2.1 mM_108.2.2.1 mM_108.2.2.2.1 ∈ mk_LT := List.mem_cons_of_mem _ (List.mem_append_right _ (List.mem_append_right _ (List.mem_append_right _ (List.mem_append_left _ (List.mem_of_getElem? (i := 208) rfl)))))
theorem ce_108 : (mc_108.drop 28).all (mm_f mM_108) = true := by decide +kernel
theorem ck_108 : mm_OKM mM_108 := ⟨ch_108, cm_108, (mm_j 0 28 cs_108_0 ce_108)⟩
theorem cs_109_0 : ((mc_109.drop 0).take 10).all (mm_f mM_109) = true := by decide +kernel
theorem ch_109 : mm_hd mM_109 = true := by decide +kernel
set_option maxRecDepth 20000 in
theorem cm_109 : Cond.code mM_109.1 mM_109.2.1 mM_109.2.2.1 mM_109.2.2.2.1 ∈ mk_LT := List.mem_cons_of_mem _ (List.mem_append_right _ (List.mem_append_right _ (List.mem_append_right _ (List.mem_append_right _ (List.mem_append_left _ (List.mem_of_getElem? (i := 148) rfl))))))
theorem ce_109 : (mc_109.drop 10).all (mm_f mM_109) = true := by decide +kernel
theorem ck_109 : mm_OKM mM_109 := ⟨ch_109, cm_109, (mm_j 0 10 cs_109_0 ce_109)⟩
theorem cs_110_0 : ((mc_110.drop 0).take 4).all (mm_f mM_110) = true := by decide +kernel
theorem ch_110 : mm_hd mM_110 = true := by decide +kernel
set_option maxRecDepth 20000 in
theorem cm_110 : Cond.code mM_110.1 mM_110.2.1 mM_110.2.2.1 mM_110.2.2.2.1 ∈ mk_LT := List.mem_cons_of_mem _ (List.mem_append_right _ (List.mem_append_right _ (List.mem_append_left _ (List.mem_of_getElem? (i := 129) rfl))))
theorem ce_110 : (mc_110.drop 4).all (mm_f mM_110) = true := by decide +kernel
theorem ck_110 : mm_OKM mM_110 := ⟨ch_110, cm_110, (mm_j 0 4 cs_110_0 ce_110)⟩
theorem cs_111_0 : ((mc_111.drop 0).take 6).all (mm_f mM_111) = true := by decide +kernel
theorem ch_111 : mm_hd mM_111 = true := by decide +kernel
set_option maxRecDepth 20000 in
theorem cm_111 : Cond.code mM_111.1 mM_111.2.1 mM_111.2.2.1 mM_111.2.2.2.1 ∈ mk_LT := List.mem_cons_of_mem _ (List.mem_append_right _ (List.mem_append_right _ (List.mem_append_left _ (List.mem_of_getElem? (i := 132) rfl))))
theorem ce_111 : (mc_111.drop 6).all (mm_f mM_111) = true := by decide +kernel
theorem ck_111 : mm_OKM mM_111 := ⟨ch_111, cm_111, (mm_j 0 6 cs_111_0 ce_111)⟩
theorem cs_112_0 : ((mc_112.drop 0).take 4).all (mm_f mM_112) = true := by decide +kernel
theorem ch_112 : mm_hd mM_112 = true := by decide +kernel
set_option maxRecDepth 20000 in
theorem cm_112 : Cond.code mM_112.1 mM_112.2.1 mM_112.2.2.1 mM_112.2.2.2.1 ∈ mk_LT := List.mem_cons_of_mem _ (List.mem_append_right _ (List.mem_append_right _ (List.mem_append_left _ (List.mem_of_getElem? (i := 135) rfl))))
theorem ce_112 : (mc_112.drop 4).all (mm_f mM_112) = true := by decide +kernel
theorem ck_112 : mm_OKM mM_112 := ⟨ch_112, cm_112, (mm_j 0 4 cs_112_0 ce_112)⟩
theorem cs_113_0 : ((mc_113.drop 0).take 13).all (mm_f mM_113) = true := by decide +kernel
theorem ch_113 : mm_hd mM_113 = true := by decide +kernel
set_option maxRecDepth 20000 in
theorem cm_113 : Cond.code mM_113.1 mM_113.2.1 mM_113.2.2.1 mM_113.2.2.2.1 ∈ mk_LT := List.mem_cons_of_mem _ (List.mem_append_right _ (List.mem_append_right _ (List.mem_append_left _ (List.mem_of_getElem? (i := 126) rfl))))
theorem ce_113 : (mc_113.drop 13).all (mm_f mM_113) = true := by decide +kernel
theorem ck_113 : mm_OKM mM_113 := ⟨ch_113, cm_113, (mm_j 0 13 cs_113_0 ce_113)⟩
theorem cs_114_0 : ((mc_114.drop 0).take 53).all (mm_f mM_114) = true := by decide +kernel
theorem cs_114_53 : ((mc_114.drop 53).take 14).all (mm_f mM_114) = true := by decide +kernel
theorem ch_114 : mm_hd mM_114 = true := by decide +kernel
set_option maxRecDepth 20000 in
theorem cm_114 : Cond.code mM_114.1 mM_114.2.1 mM_114.2.2.1 mM_114.2.2.2.1 ∈ mk_LT := List.mem_cons_of_mem _ (List.mem_append_right _ (List.mem_append_right _ (List.mem_append_right _ (List.mem_append_left _ (List.mem_of_getElem? (i := 200) rfl)))))
theorem ce_114 : (mc_114.drop 67).all (mm_f mM_114) = true := by decide +kernel
theorem ck_114 : mm_OKM mM_114 := ⟨ch_114, cm_114, (mm_j 0 53 cs_114_0 (mm_j 53 14 cs_114_53 ce_114))⟩
theorem cs_115_0 : ((mc_115.drop 0).take 42).all (mm_f mM_115) = true := by decide +kernel
theorem ch_115 : mm_hd mM_115 = true := by decide +kernel
set_option maxRecDepth 20000 in
theorem cm_115 : Cond.code mM_115.1 mM_115.2.1 mM_115.2.2.1 mM_115.2.2.2.1 ∈ mk_LT := List.mem_cons_of_mem _ (List.mem_append_right _ (List.mem_append_right _ (List.mem_append_right _ (List.mem_append_left _ (List.mem_of_getElem? (i := 203) rfl)))))
theorem ce_115 : (mc_115.drop 42).all (mm_f mM_115) = true := by decide +kernel
theorem ck_115 : mm_OKM mM_115 := ⟨ch_115, cm_115, (mm_j 0 42 cs_115_0 ce_115)⟩
theorem cs_116_0 : ((mc_116.drop 0).take 10).all (mm_f mM_116) = true := by decide +kernel
theorem ch_116 : mm_hd mM_116 = true := by decide +kernel
set_option maxRecDepth 20000 in
theorem cm_116 : Cond.code mM_116.1 mM_116.2.1 mM_116.2.2.1 mM_116.2.2.2.1 ∈ mk_LT := List.mem_cons_of_mem _ (List.mem_append_right _ (List.mem_append_right _ (List.mem_append_right _ (List.mem_append_right _ (List.mem_append_right _ (List.mem_append_left _ (List.mem_of_getElem? (i := 101) rfl)))))))
theorem ce_116 : (mc_116.drop 10).all (mm_f mM_116) = true := by decide +kernel
theorem ck_116 : mm_OKM mM_116 := ⟨ch_116, cm_116, (mm_j 0 10 cs_116_0 ce_116)⟩
theorem cs_117_0 : ((mc_117.drop 0).take 7).all (mm_f mM_117) = true := by decide +kernel
theorem ch_117 : mm_hd mM_117 = true := by decide +kernel
set_option maxRecDepth 20000 in
theorem cm_117 : Cond.code mM_117.1 mM_117.2.1 mM_117.2.2.1 mM_117.2.2.2.1 ∈ mk_LT := List.mem_cons_of_mem _ (List.mem_append_right _ (List.mem_append_right _ (List.mem_append_right _ (List.mem_append_right _ (List.mem_append_right _ (List.mem_append_right _ (List.mem_append_left _ (List.mem_of_getElem? (i := 162) rfl))))))))
theorem ce_117 : (mc_117.drop 7).all (mm_f mM_117) = true := by decide +kernel
theorem ck_117 : mm_OKM mM_117 := ⟨ch_117, cm_117, (mm_j 0 7 cs_117_0 ce_117)⟩
theorem cs_118_0 : ((mc_118.drop 0).take 7).all (mm_f mM_118) = true := by decide +kernel
theorem ch_118 : mm_hd mM_118 = true := by decide +kernel
set_option maxRecDepth 20000 in
theorem cm_118 : Cond.code mM_118.1 mM_118.2.1 mM_118.2.2.1 mM_118.2.2.2.1 ∈ mk_LT := List.mem_cons_of_mem _ (List.mem_append_right _ (List.mem_append_right _ (List.mem_append_right _ (List.mem_append_right _ (List.mem_append_right _ (List.mem_append_right _ (List.mem_append_left _ (List.mem_of_getElem? (i := 207) rfl))))))))
theorem ce_118 : (mc_118.drop 7).all (mm_f mM_118) = true := by decide +kernel
theorem ck_118 : mm_OKM mM_118 := ⟨ch_118, cm_118, (mm_j 0 7 cs_118_0 ce_118)⟩
theorem cs_119_0 : ((mc_119.drop 0).take 14).all (mm_f mM_119) = true := by decide +kernel
theorem ch_119 : mm_hd mM_119 = true := by decide +kernel
set_option maxRecDepth 20000 in
theorem cm_119 : Cond.code mM_119.1 mM_119.2.1 mM_119.2.2.1 mM_119.2.2.2.1 ∈ mk_LT := List.mem_cons_of_mem _ (List.mem_append_right _ (List.mem_append_right _ (List.mem_append_right _ (List.mem_append_right _ (List.mem_append_right _ (List.mem_append_left _ (List.mem_of_getElem? (i := 105) rfl)))))))
theorem ce_119 : (mc_119.drop 14).all (mm_f mM_119) = true := by decide +kernel
theorem ck_119 : mm_OKM mM_119 := ⟨ch_119, cm_119, (mm_j 0 14 cs_119_0 ce_119)⟩
theorem cs_120_0 : ((mc_120.drop 0).take 5).all (mm_f mM_120) = true := by decide +kernel
theorem ch_120 : mm_hd mM_120 = true := by decide +kernel
set_option maxRecDepth 20000 in
theorem cm_120 : Cond.code mM_120.1 mM_120.2.1 mM_120.2.2.1 mM_120.2.2.2.1 ∈ mk_LT := List.mem_cons_of_mem _ (List.mem_append_right _ (List.mem_append_right _ (List.mem_append_right _ (List.mem_append_right _ (List.mem_append_right _ (List.mem_append_left _ (List.mem_of_getElem? (i := 109) rfl)))))))
theorem ce_120 : (mc_120.drop 5).all (mm_f mM_120) = true := by decide +kernel
theorem ck_120 : mm_OKM mM_120 := ⟨ch_120, cm_120, (mm_j 0 5 cs_120_0 ce_120)⟩
theorem cs_121_0 : ((mc_121.drop 0).take 7).all (mm_f mM_121) = true := by decide +kernel
theorem ch_121 : mm_hd mM_121 = true := by decide +kernel
set_option maxRecDepth 20000 in
theorem cm_121 : Cond.code mM_121.1 mM_121.2.1 mM_121.2.2.1 mM_121.2.2.2.1 ∈ mk_LT := List.mem_cons_of_mem _ (List.mem_append_right _ (List.mem_append_right _ (List.mem_append_right _ (List.mem_append_right _ (List.mem_append_right _ (List.mem_append_left _ (List.mem_of_getElem? (i := 117) rfl)))))))
theorem ce_121 : (mc_121.drop 7).all (mm_f mM_121) = true := by decide +kernel
theorem ck_121 : mm_OKM mM_121 := ⟨ch_121, cm_121, (mm_j 0 7 cs_121_0 ce_121)⟩
theorem cs_122_0 : ((mc_122.drop 0).take 11).all (mm_f mM_122) = true := by decide +kernel
theorem ch_122 : mm_hd mM_122 = true := by decide +kernel
set_option maxRecDepth 20000 in
theorem cm_122 : Cond.code mM_122.1 mM_122.2.1 mM_122.2.2.1 mM_122.2.2.2.1 ∈ mk_LT := List.mem_cons_of_mem _ (List.mem_append_right _ (List.mem_append_right _ (List.mem_append_right _ (List.mem_append_right _ (List.mem_append_right _ (List.mem_append_right _ (List.mem_append_left _ (List.mem_of_getElem? (i := 239) rfl))))))))
theorem ce_122 : (mc_122.drop 11).all (mm_f mM_122) = true := by decide +kernel
theorem ck_122 : mm_OKM mM_122 := ⟨ch_122, cm_122, (mm_j 0 11 cs_122_0 ce_122)⟩
theorem cs_123_0 : ((mc_123.drop 0).take 19).all (mm_f mM_123) = true := by decide +kernel
theorem ch_123 : mm_hd mM_123 = true := by decide +kernel
set_option maxRecDepth 20000 in
theorem cm_123 : Cond.code mM_123.1 mM_123.2.1 mM_123.2.2.1 mM_123.2.2.2.1 ∈ mk_LT := List.mem_cons_of_mem _ (List.mem_append_right _ (List.mem_append_right _ (List.mem_append_right _ (List.mem_append_right _ (List.mem_append_right _ (List.mem_append_right _ (List.mem_append_right _ (List.mem_of_getElem? (i := 31) rfl))))))))
theorem ce_123 : (mc_123.drop 19).all (mm_f mM_123) = true := by decide +kernel
theorem ck_123 : mm_OKM mM_123 := ⟨ch_123, cm_123, (mm_j 0 19 cs_123_0 ce_123)⟩
theorem cs_124_0 : ((mc_124.drop 0).take 60).all (mm_f mM_124) = true := by decide +kernel
theorem cs_124_60 : ((mc_124.drop 60).take 35).all (mm_f mM_124) = true := by decide +kernel
theorem cs_124_95 : ((mc_124.drop 95).take 28).all (mm_f mM_124) = true := by decide +kernel
theorem cs_124_123 : ((mc_124.drop 123).take 24).all (mm_f mM_124) = true := by decide +kernel
theorem cs_124_147 : ((mc_124.drop 147).take 21).all (mm_f mM_124) = true := by decide +kernel
theorem cs_124_168 : ((mc_124.drop 168).take 19).all (mm_f mM_124) = true := by decide +kernel
theorem cs_124_187 : ((mc_124.drop 187).take 18).all (mm_f mM_124) = true := by decide +kernel
theorem cs_124_205 : ((mc_124.drop 205).take 16).all (mm_f mM_124) = true := by decide +kernel
theorem cs_124_221 : ((mc_124.drop 221).take 16).all (mm_f mM_124) = true := by decide +kernel
theorem cs_124_237 : ((mc_124.drop 237).take 15).all (mm_f mM_124) = true := by decide +kernel
theorem cs_124_252 : ((mc_124.drop 252).take 14).all (mm_f mM_124) = true := by decide +kernel
theorem cs_124_266 : ((mc_124.drop 266).take 13).all (mm_f mM_124) = true := by decide +kernel
theorem cs_124_279 : ((mc_124.drop 279).take 13).all (mm_f mM_124) = true := by decide +kernel
theorem cs_124_292 : ((mc_124.drop 292).take 12).all (mm_f mM_124) = true := by decide +kernel
theorem cs_124_304 : ((mc_124.drop 304).take 12).all (mm_f mM_124) = true := by decide +kernel
theorem cs_124_316 : ((mc_124.drop 316).take 12).all (mm_f mM_124) = true := by decide +kernel
theorem cs_124_328 : ((mc_124.drop 328).take 11).all (mm_f mM_124) = true := by decide +kernel
theorem cs_124_339 : ((mc_124.drop 339).take 11).all (mm_f mM_124) = true := by decide +kernel
theorem cs_124_350 : ((mc_124.drop 350).take 11).all (mm_f mM_124) = true := by decide +kernel
theorem cs_124_361 : ((mc_124.drop 361).take 10).all (mm_f mM_124) = true := by decide +kernel
theorem cs_124_371 : ((mc_124.drop 371).take 10).all (mm_f mM_124) = true := by decide +kernel
theorem cs_124_381 : ((mc_124.drop 381).take 10).all (mm_f mM_124) = true := by decide +kernel
theorem cs_124_391 : ((mc_124.drop 391).take 10).all (mm_f mM_124) = true := by decide +kernel
theorem cs_124_401 : ((mc_124.drop 401).take 10).all (mm_f mM_124) = true := by decide +kernel
theorem cs_124_411 : ((mc_124.drop 411).take 9).all (mm_f mM_124) = true := by decide +kernel
theorem cs_124_420 : ((mc_124.drop 420).take 9).all (mm_f mM_124) = true := by decide +kernel
theorem cs_124_429 : ((mc_124.drop 429).take 9).all (mm_f mM_124) = true := by decide +kernel
theorem cs_124_438 : ((mc_124.drop 438).take 9).all (mm_f mM_124) = true := by decide +kernel
theorem cs_124_447 : ((mc_124.drop 447).take 9).all (mm_f mM_124) = true := by decide +kernel
theorem cs_124_456 : ((mc_124.drop 456).take 9).all (mm_f mM_124) = true := by decide +kernel
theorem cs_124_465 : ((mc_124.drop 465).take 8).all (mm_f mM_124) = true := by decide +kernel
theorem cs_124_473 : ((mc_124.drop 473).take 8).all (mm_f mM_124) = true := by decide +kernel
theorem cs_124_481 : ((mc_124.drop 481).take 8).all (mm_f mM_124) = true := by decide +kernel
theorem cs_124_489 : ((mc_124.drop 489).take 8).all (mm_f mM_124) = true := by decide +kernel
theorem cs_124_497 : ((mc_124.drop 497).take 8).all (mm_f mM_124) = true := by decide +kernel
theorem cs_124_505 : ((mc_124.drop 505).take 8).all (mm_f mM_124) = true := by decide +kernel
theorem cs_124_513 : ((mc_124.drop 513).take 8).all (mm_f mM_124) = true := by decide +kernel
theorem cs_124_521 : ((mc_124.drop 521).take 8).all (mm_f mM_124) = true := by decide +kernel
theorem cs_124_529 : ((mc_124.drop 529).take 7).all (mm_f mM_124) = true := by decide +kernel
theorem cs_124_536 : ((mc_124.drop 536).take 7).all (mm_f mM_124) = true := by decide +kernel
theorem cs_124_543 : ((mc_124.drop 543).take 7).all (mm_f mM_124) = true := by decide +kernel
theorem cs_124_550 : ((mc_124.drop 550).take 7).all (mm_f mM_124) = true := by decide +kernel
theorem cs_124_557 : ((mc_124.drop 557).take 7).all (mm_f mM_124) = true := by decide +kernel
theorem cs_124_564 : ((mc_124.drop 564).take 7).all (mm_f mM_124) = true := by decide +kernel
theorem cs_124_571 : ((mc_124.drop 571).take 7).all (mm_f mM_124) = true := by decide +kernel
theorem cs_124_578 : ((mc_124.drop 578).take 7).all (mm_f mM_124) = true := by decide +kernel
theorem cs_124_585 : ((mc_124.drop 585).take 7).all (mm_f mM_124) = true := by decide +kernel
theorem cs_124_592 : ((mc_124.drop 592).take 7).all (mm_f mM_124) = true := by decide +kernel
theorem cs_124_599 : ((mc_124.drop 599).take 6).all (mm_f mM_124) = true := by decide +kernel
theorem cs_124_605 : ((mc_124.drop 605).take 1).all (mm_f mM_124) = true := by decide +kernel
theorem ch_124 : mm_hd mM_124 = true := by decide +kernel
set_option maxRecDepth 20000 in
theorem cm_124 : Cond.code mM_124.1 mM_124.2.1 mM_124.2.2.1 mM_124.2.2.2.1 ∈ mk_LT := List.mem_cons_of_mem _ (List.mem_append_right _ (List.mem_append_right _ (List.mem_append_right _ (List.mem_append_right _ (List.mem_append_left _ (List.mem_of_getElem? (i := 176) rfl))))))
theorem ce_124 : (mc_124.drop 606).all (mm_f mM_124) = true := by decide +kernel
theorem ck_124 : mm_OKM mM_124 := ⟨ch_124, cm_124, (mm_j 0 60 cs_124_0 (mm_j 60 35 cs_124_60 (mm_j 95 28 cs_124_95 (mm_j 123 24 cs_124_123 (mm_j 147 21 cs_124_147 (mm_j 168 19 cs_124_168 (mm_j 187 18 cs_124_187 (mm_j 205 16 cs_124_205 (mm_j 221 16 cs_124_221 (mm_j 237 15 cs_124_237 (mm_j 252 14 cs_124_252 (mm_j 266 13 cs_124_266 (mm_j 279 13 cs_124_279 (mm_j 292 12 cs_124_292 (mm_j 304 12 cs_124_304 (mm_j 316 12 cs_124_316 (mm_j 328 11 cs_124_328 (mm_j 339 11 cs_124_339 (mm_j 350 11 cs_124_350 (mm_j 361 10 cs_124_361 (mm_j 371 10 cs_124_371 (mm_j 381 10 cs_124_381 (mm_j 391 10 cs_124_391 (mm_j 401 10 cs_124_401 (mm_j 411 9 cs_124_411 (mm_j 420 9 cs_124_420 (mm_j 429 9 cs_124_429 (mm_j 438 9 cs_124_438 (mm_j 447 9 cs_124_447 (mm_j 456 9 cs_124_456 (mm_j 465 8 cs_124_465 (mm_j 473 8 cs_124_473 (mm_j 481 8 cs_124_481 (mm_j 489 8 cs_124_489 (mm_j 497 8 cs_124_497 (mm_j 505 8 cs_124_505 (mm_j 513 8 cs_124_513 (mm_j 521 8 cs_124_521 (mm_j 529 7 cs_124_529 (mm_j 536 7 cs_124_536 (mm_j 543 7 cs_124_543 (mm_j 550 7 cs_124_550 (mm_j 557 7 cs_124_557 (mm_j 564 7 cs_124_564 (mm_j 571 7 cs_124_571 (mm_j 578 7 cs_124_578 (mm_j 585 7 cs_124_585 (mm_j 592 7 cs_124_592 (mm_j 599 6 cs_124_599 (mm_j 605 1 cs_124_605 ce_124))))))))))))))))))))))))))))))))))))))))))))))))))⟩
