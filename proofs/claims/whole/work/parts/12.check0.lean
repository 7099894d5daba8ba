theorem cs_0_0 : ((mc_0.drop 0).take 39).all (mm_f mM_0) = true := by decide +kernel
theorem cs_0_39 : ((mc_0.drop 39).take 21).all (mm_f mM_0) = true := by decide +kernel
theorem cs_0_60 : ((mc_0.drop 60).take 19).all (mm_f mM_0) = true := by decide +kernel
theorem cs_0_79 : ((mc_0.drop 79).take 18).all (mm_f mM_0) = true := by decide +kernel
theorem cs_0_97 : ((mc_0.drop 97).take 17).all (mm_f mM_0) = true := by decide +kernel
theorem cs_0_114 : ((mc_0.drop 114).take 16).all (mm_f mM_0) = true := by decide +kernel
theorem cs_0_130 : ((mc_0.drop 130).take 16).all (mm_f mM_0) = true := by decide +kernel
theorem cs_0_146 : ((mc_0.drop 146).take 15).all (mm_f mM_0) = true := by decide +kernel
theorem cs_0_161 : ((mc_0.drop 161).take 14).all (mm_f mM_0) = true := by decide +kernel
theorem cs_0_175 : ((mc_0.drop 175).take 14).all (mm_f mM_0) = true := by decide +kernel
theorem cs_0_189 : ((mc_0.drop 189).take 13).all (mm_f mM_0) = true := by decide +kernel
theorem cs_0_202 : ((mc_0.drop 202).take 13).all (mm_f mM_0) = true := by decide +kernel
theorem cs_0_215 : ((mc_0.drop 215).take 12).all (mm_f mM_0) = true := by decide +kernel
theorem cs_0_227 : ((mc_0.drop 227).take 12).all (mm_f mM_0) = true := by decide +kernel
theorem cs_0_239 : ((mc_0.drop 239).take 12).all (mm_f mM_0) = true := by decide +kernel
theorem cs_0_251 : ((mc_0.drop 251).take 12).all (mm_f mM_0) = true := by decide +kernel
theorem cs_0_263 : ((mc_0.drop 263).take 11).all (mm_f mM_0) = true := by decide +kernel
theorem cs_0_274 : ((mc_0.drop 274).take 11).all (mm_f mM_0) = true := by decide +kernel
theorem cs_0_285 : ((mc_0.drop 285).take 11).all (mm_f mM_0) = true := by decide +kernel
theorem cs_0_296 : ((mc_0.drop 296).take 11).all (mm_f mM_0) = true := by decide +kernel
theorem cs_0_307 : ((mc_0.drop 307).take 10).all (mm_f mM_0) = true := by decide +kernel
theorem cs_0_317 : ((mc_0.drop 317).take 10).all (mm_f mM_0) = true := by decide +kernel
theorem cs_0_327 : ((mc_0.drop 327).take 10).all (mm_f mM_0) = true := by decide +kernel
theorem cs_0_337 : ((mc_0.drop 337).take 9).all (mm_f mM_0) = true := by decide +kernel
theorem cs_0_346 : ((mc_0.drop 346).take 9).all (mm_f mM_0) = true := by decide +kernel
theorem cs_0_355 : ((mc_0.drop 355).take 9).all (mm_f mM_0) = true := by decide +kernel
theorem cs_0_364 : ((mc_0.drop 364).take 9).all (mm_f mM_0) = true := by decide +kernel
theorem cs_0_373 : ((mc_0.drop 373).take 9).all (mm_f mM_0) = true := by decide +kernel
theorem cs_0_382 : ((mc_0.drop 382).take 9).all (mm_f mM_0) = true := by decide +kernel
theorem cs_0_391 : ((mc_0.drop 391).take 9).all (mm_f mM_0) = true := by decide +kernel
theorem cs_0_400 : ((mc_0.drop 400).take 8).all (mm_f mM_0) = true := by decide +kernel
theorem cs_0_408 : ((mc_0.drop 408).take 8).all (mm_f mM_0) = true := by decide +kernel
theorem cs_0_416 : ((mc_0.drop 416).take 8).all (mm_f mM_0) = true := by decide +kernel
theorem cs_0_424 : ((mc_0.drop 424).take 8).all (mm_f mM_0) = true := by decide +kernel
theorem cs_0_432 : ((mc_0.drop 432).take 8).all (mm_f mM_0) = true := by decide +kernel
theorem cs_0_440 : ((mc_0.drop 440).take 8).all (mm_f mM_0) = true := by decide +kernel
theorem cs_0_448 : ((mc_0.drop 448).take 8).all (mm_f mM_0) = true := by decide +kernel
theorem cs_0_456 : ((mc_0.drop 456).take 8).all (mm_f mM_0) = true := by decide +kernel
theorem cs_0_464 : ((mc_0.drop 464).take 8).all (mm_f mM_0) = true := by decide +kernel
theorem cs_0_472 : ((mc_0.drop 472).take 7).all (mm_f mM_0) = true := by decide +kernel
theorem cs_0_479 : ((mc_0.drop 479).take 7).all (mm_f mM_0) = true := by decide +kernel
theorem cs_0_486 : ((mc_0.drop 486).take 7).all (mm_f mM_0) = true := by decide +kernel
theorem cs_0_493 : ((mc_0.drop 493).take 7).all (mm_f mM_0) = true := by decide +kernel
theorem cs_0_500 : ((mc_0.drop 500).take 7).all (mm_f mM_0) = true := by decide +kernel
theorem cs_0_507 : ((mc_0.drop 507).take 7).all (mm_f mM_0) = true := by decide +kernel
theorem cs_0_514 : ((mc_0.drop 514).take 7).all (mm_f mM_0) = true := by decide +kernel
theorem cs_0_521 : ((mc_0.drop 521).take 7).all (mm_f mM_0) = true := by decide +kernel
theorem cs_0_528 : ((mc_0.drop 528).take 7).all (mm_f mM_0) = true := by decide +kernel
theorem cs_0_535 : ((mc_0.drop 535).take 7).all (mm_f mM_0) = true := by decide +kernel
theorem cs_0_542 : ((mc_0.drop 542).take 7).all (mm_f mM_0) = true := by decide +kernel
theorem cs_0_549 : ((mc_0.drop 549).take 7).all (mm_f mM_0) = true := by decide +kernel
theorem cs_0_556 : ((mc_0.drop 556).take 7).all (mm_f mM_0) = true := by decide +kernel
theorem cs_0_563 : ((mc_0.drop 563).take 7).all (mm_f mM_0) = true := by decide +kernel
theorem cs_0_570 : ((mc_0.drop 570).take 7).all (mm_f mM_0) = true := by decide +kernel
theorem cs_0_577 : ((mc_0.drop 577).take 7).all (mm_f mM_0) = true := by decide +kernel
theorem cs_0_584 : ((mc_0.drop 584).take 6).all (mm_f mM_0) = true := by decide +kernel
theorem cs_0_590 : ((mc_0.drop 590).take 6).all (mm_f mM_0) = true := by decide +kernel
theorem cs_0_596 : ((mc_0.drop 596).take 6).all (mm_f mM_0) = true := by decide +kernel
theorem cs_0_602 : ((mc_0.drop 602).take 6).all (mm_f mM_0) = true := by decide +kernel
theorem cs_0_608 : ((mc_0.drop 608).take 6).all (mm_f mM_0) = true := by decide +kernel
theorem cs_0_614 : ((mc_0.drop 614).take 6).all (mm_f mM_0) = true := by decide +kernel
theorem cs_0_620 : ((mc_0.drop 620).take 6).all (mm_f mM_0) = true := by decide +kernel
theorem cs_0_626 : ((mc_0.drop 626).take 6).all (mm_f mM_0) = true := by decide +kernel
theorem cs_0_632 : ((mc_0.drop 632).take 6).all (mm_f mM_0) = true := by decide +kernel
theorem cs_0_638 : ((mc_0.drop 638).take 6).all (mm_f mM_0) = true := by decide +kernel
theorem cs_0_644 : ((mc_0.drop 644).take 6).all (mm_f mM_0) = true := by decide +kernel
theorem cs_0_650 : ((mc_0.drop 650).take 6).all (mm_f mM_0) = true := by decide +kernel
theorem cs_0_656 : ((mc_0.drop 656).take 6).all (mm_f mM_0) = true := by decide +kernel
theorem cs_0_662 : ((mc_0.drop 662).take 6).all (mm_f mM_0) = true := by decide +kernel
theorem cs_0_668 : ((mc_0.drop 668).take 6).all (mm_f mM_0) = true := by decide +kernel
theorem cs_0_674 : ((mc_0.drop 674).take 6).all (mm_f mM_0) = true := by decide +kernel
theorem cs_0_680 : ((mc_0.drop 680).take 6).all (mm_f mM_0) = true := by decide +kernel
theorem cs_0_686 : ((mc_0.drop 686).take 6).all (mm_f mM_0) = true := by decide +kernel
theorem cs_0_692 : ((mc_0.drop 692).take 6).all (mm_f mM_0) = true := by decide +kernel
theorem cs_0_698 : ((mc_0.drop 698).take 6).all (mm_f mM_0) = true := by decide +kernel
theorem cs_0_704 : ((mc_0.drop 704).take 6).all (mm_f mM_0) = true := by decide +kernel
theorem cs_0_710 : ((mc_0.drop 710).take 6).all (mm_f mM_0) = true := by decide +kernel
theorem cs_0_716 : ((mc_0.drop 716).take 6).all (mm_f mM_0) = true := by decide +kernel
theorem cs_0_722 : ((mc_0.drop 722).take 6).all (mm_f mM_0) = true := by decide +kernel
theorem cs_0_728 : ((mc_0.drop 728).take 6).all (mm_f mM_0) = true := by decide +kernel
theorem cs_0_734 : ((mc_0.drop 734).take 5).all (mm_f mM_0) = true := by decide +kernel
theorem cs_0_739 : ((mc_0.drop 739).take 5).all (mm_f mM_0) = true := by decide +kernel
theorem cs_0_744 : ((mc_0.drop 744).take 5).all (mm_f mM_0) = true := by decide +kernel
theorem cs_0_749 : ((mc_0.drop 749).take 5).all (mm_f mM_0) = true := by decide +kernel
theorem cs_0_754 : ((mc_0.drop 754).take 5).all (mm_f mM_0) = true := by decide +kernel
theorem cs_0_759 : ((mc_0.drop 759).take 5).all (mm_f mM_0) = true := by decide +kernel
theorem cs_0_764 : ((mc_0.drop 764).take 5).all (mm_f mM_0) = true := by decide +kernel
theorem cs_0_769 : ((mc_0.drop 769).take 5).all (mm_f mM_0) = true := by decide +kernel
theorem cs_0_774 : ((mc_0.drop 774).take 5).all (mm_f mM_0) = true := by decide +kernel
theorem cs_0_779 : ((mc_0.drop 779).take 5).all (mm_f mM_0) = true := by decide +kernel
theorem cs_0_784 : ((mc_0.drop 784).take 1).all (mm_f mM_0) = true := by decide +kernel
theorem ch_0 : mm_hd mM_0 = true := by decide +kernel
set_option maxRecDepth 20000 in
theorem cm_0 : Cond.code mM_0.1 mM_0.2.1 mM_0.2.2.1 mM_0.2.2.2.1 ∈ mk_LT := List.mem_cons_self
theorem ce_0 : (mc_0.drop 785).all (mm_f mM_0) = true := by decide +kernel
theorem ck_0 : mm_OKM mM_0 := ⟨ch_0, cm_0, (mm_j 0 39 cs_0_0 (mm_j 39 21 cs_0_39 (mm_j 60 19 cs_0_60 (mm_j 79 18 cs_0_79 (mm_j 97 17 cs_0_97 (mm_j 114 16 cs_0_114 (mm_j 130 16 cs_0_130 (mm_j 146 15 cs_0_146 (mm_j 161 14 cs_0_161 (mm_j 175 14 cs_0_175 (mm_j 189 13 cs_0_189 (mm_j 202 13 cs_0_202 (mm_j 215 12 cs_0_215 (mm_j 227 12 cs_0_227 (mm_j 239 12 cs_0_239 (mm_j 251 12 cs_0_251 (mm_j 263 11 cs_0_263 (mm_j 274 11 cs_0_274 (mm_j 285 11 cs_0_285 (mm_j 296 11 cs_0_296 (mm_j 307 10 cs_0_307 (mm_j 317 10 cs_0_317 (mm_j 327 10 cs_0_327 (mm_j 337 9 cs_0_337 (mm_j 346 9 cs_0_346 (mm_j 355 9 cs_0_355 (mm_j 364 9 cs_0_364 (mm_j 373 9 cs_0_373 (mm_j 382 9 cs_0_382 (mm_j 391 9 cs_0_391 (mm_j 400 8 cs_0_400 (mm_j 408 8 cs_0_408 (mm_j 416 8 cs_0_416 (mm_j 424 8 cs_0_424 (mm_j 432 8 cs_0_432 (mm_j 440 8 cs_0_440 (mm_j 448 8 cs_0_448 (mm_j 456 8 cs_0_456 (mm_j 464 8 cs_0_464 (mm_j 472 7 cs_0_472 (mm_j 479 7 cs_0_479 (mm_j 486 7 cs_0_486 (mm_j 493 7 cs_0_493 (mm_j 500 7 cs_0_500 (mm_j 507 7 cs_0_507 (mm_j 514 7 cs_0_514 (mm_j 521 7 cs_0_521 (mm_j 528 7 cs_0_528 (mm_j 535 7 cs_0_535 (mm_j 542 7 cs_0_542 (mm_j 549 7 cs_0_549 (mm_j 556 7 cs_0_556 (mm_j 563 7 cs_0_563 (mm_j 570 7 cs_0_570 (mm_j 577 7 cs_0_577 (mm_j 584 6 cs_0_584 (mm_j 590 6 cs_0_590 (mm_j 596 6 cs_0_596 (mm_j 602 6 cs_0_602 (mm_j 608 6 cs_0_608 (mm_j 614 6 cs_0_614 (mm_j 620 6 cs_0_620 (mm_j 626 6 cs_0_626 (mm_j 632 6 cs_0_632 (mm_j 638 6 cs_0_638 (mm_j 644 6 cs_0_644 (mm_j 650 6 cs_0_650 (mm_j 656 6 cs_0_656 (mm_j 662 6 cs_0_662 (mm_j 668 6 cs_0_668 (mm_j 674 6 cs_0_674 (mm_j 680 6 cs_0_680 (mm_j 686 6 cs_0_686 (mm_j 692 6 cs_0_692 (mm_j 698 6 cs_0_698 (mm_j 704 6 cs_0_704 (mm_j 710 6 cs_0_710 (mm_j 716 6 cs_0_716 (mm_j 722 6 cs_0_722 (mm_j 728 6 cs_0_728 (mm_j 734 5 cs_0_734 (mm_j 739 5 cs_0_739 (mm_j 744 5 cs_0_744 (mm_j 749 5 cs_0_749 (mm_j 754 5 cs_0_754 (mm_j 759 5 cs_0_759 (mm_j 764 5 cs_0_764 (mm_j 769 5 cs_0_769 (mm_j 774 5 cs_0_774 (mm_j 779 5 cs_0_779 (mm_j 784 1 cs_0_784 ce_0)))))))))))))))))))))))))))))))))))))))))))))))))))))))))))))))))))))))))))))))))))))))))))⟩
theorem cs_1_0 : ((mc_1.drop 0).take 24).all (mm_f mM_1) = true := by decide +kernel
theorem ch_1 : mm_hd mM_1 = true := by decide +kernel
set_option maxRecDepth 20000 in
theorem cm_1 : Cond.code mM_1.1 mM_1.2.1 mM_1.2.2.1 mM_1.2.2.2.1 ∈ mk_LT := List.mem_cons_of_mem _ (List.mem_append_right _ (List.mem_append_left _ (List.mem_of_getElem? (i := 193) rfl)))
theorem ce_1 : (mc_1.drop 24).all (mm_f mM_1) = true := by decide +kernel
theorem ck_1 : mm_OKM mM_1 := ⟨ch_1, cm_1, (mm_j 0 24 cs_1_0 ce_1)⟩
theorem cs_2_0 : ((mc_2.drop 0).take 31).all (mm_f mM_2) = true := by decide +kernel
theorem ch_2 : mm_hd mM_2 = true := by decide +kernel
set_option maxRecDepth 20000 in
theorem cm_2 : Cond.code mM_2.1 mM_2.2.1 mM_2.2.2.1 mM_2.2.2.2.1 ∈ mk_LT := List.mem_cons_of_mem _ (List.mem_append_right _ (List.mem_append_right _ (List.mem_append_left _ (List.mem_of_getElem? (i := 147) rfl))))
theorem ce_2 : (mc_2.drop 31).all (mm_f mM_2) = true := by decide +kernel
theorem ck_2 : mm_OKM mM_2 := ⟨ch_2, cm_2, (mm_j 0 31 cs_2_0 ce_2)⟩
theorem cs_3_0 : ((mc_3.drop 0).take 37).all (mm_f mM_3) = true := by decide +kernel
theorem ch_3 : mm_hd mM_3 = true := by decide +kernel
set_option maxRecDepth 20000 in
theorem cm_3 : Cond.code mM_3.1 mM_3.2.1 mM_3.2.2.1 mM_3.2.2.2.1 ∈ mk_LT := List.mem_cons_of_mem _ (List.mem_append_right _ (List.mem_append_right _ (List.mem_append_left _ (List.mem_of_getElem? (i := 151) rfl))))
theorem ce_3 : (mc_3.drop 37).all (mm_f mM_3) = true := by decide +kernel
theorem ck_3 : mm_OKM mM_3 := ⟨ch_3, cm_3, (mm_j 0 37 cs_3_0 ce_3)⟩
theorem cs_4_0 : ((mc_4.drop 0).take 28).all (mm_f mM_4) = true := by decide +kernel
theorem ch_4 : mm_hd mM_4 = true := by decide +kernel
set_option maxRecDepth 20000 in
theorem cm_4 : Cond.code mM_4.1 mM_4.2.1 mM_4.2.2.1 mM_4.2.2.2.1 ∈ mk_LT := List.mem_cons_of_mem _ (List.mem_append_right _ (List.mem_append_right _ (List.mem_append_left _ (List.mem_of_getElem? (i := 190) rfl))))
theorem ce_4 : (mc_4.drop 28).all (mm_f mM_4) = true := by decide +kernel
theorem ck_4 : mm_OKM mM_4 := ⟨ch_4, cm_4, (mm_j 0 28 cs_4_0 ce_4)⟩
theorem cs_5_0 : ((mc_5.drop 0).take 21).all (mm_f mM_5) = true := by decide +kernel
theorem ch_5 : mm_hd mM_5 = true := by decide +kernel
set_option maxRecDepth 20000 in
theorem cm_5 : Cond.code mM_5.1 mM_5.2.1 mM_5.2.2.1 mM_5.2.2.2.1 ∈ mk_LT := List.mem_cons_of_mem _ (List.mem_append_right _ (List.mem_append_right _ (List.mem_append_left _ (List.mem_of_getElem? (i := 195) rfl))))
theorem ce_5 : (mc_5.drop 21).all (mm_f mM_5) = true := by decide +kernel
theorem ck_5 : mm_OKM mM_5 := ⟨ch_5, cm_5, (mm_j 0 21 cs_5_0 ce_5)⟩
theorem cs_6_0 : ((mc_6.drop 0).take 59).all (mm_f mM_6) = true := by decide +kernel
theorem cs_6_59 : ((mc_6.drop 59).take 12).all (mm_f mM_6) = true := by decide +kernel
theorem ch_6 : mm_hd mM_6 = true := by decide +kernel
set_option maxRecDepth 20000 in
theorem cm_6 : Cond.code mM_6.1 mM_6.2.1 mM_6.2.2.1 mM_6.2.2.2.1 ∈ mk_LT := List.mem_cons_of_mem _ (List.mem_append_right _ (List.mem_append_right _ (List.mem_append_left _ (List.mem_of_getElem? (i := 155) rfl))))
theorem ce_6 : (mc_6.drop 71).all (mm_f mM_6) = true := by decide +kernel
theorem ck_6 : mm_OKM mM_6 := ⟨ch_6, cm_6, (mm_j 0 59 cs_6_0 (mm_j 59 12 cs_6_59 ce_6))⟩
theorem cs_7_0 : ((mc_7.drop 0).take 26).all (mm_f mM_7) = true := by decide +kernel
theorem ch_7 : mm_hd mM_7 = true := by decide +kernel
set_option maxRecDepth 20000 in
theorem cm_7 : Cond.code mM_7.1 mM_7.2.1 mM_7.2.2.1 mM_7.2.2.2.1 ∈ mk_LT := List.mem_cons_of_mem _ (List.mem_append_right _ (List.mem_append_right _ (List.mem_append_right _ (List.mem_append_left _ (List.mem_of_getElem? (i := 178) rfl)))))
theorem ce_7 : (mc_7.drop 26).all (mm_f mM_7) = true := by decide +kernel
theorem ck_7 : mm_OKM mM_7 := ⟨ch_7, cm_7, (mm_j 0 26 cs_7_0 ce_7)⟩
theorem cs_8_0 : ((mc_8.drop 0).take 59).all (mm_f mM_8) = true := by decide +kernel
theorem cs_8_59 : ((mc_8.drop 59).take 33).all (mm_f mM_8) = true := by decide +kernel
theorem cs_8_92 : ((mc_8.drop 92).take 21).all (mm_f mM_8) = true := by decide +kernel
theorem ch_8 : mm_hd mM_8 = true := by decide +kernel
set_option maxRecDepth 20000 in
theorem cm_8 : Cond.code mM_8.1 mM_8.2.1 mM_8.2.2.1 mM_8.2.2.2.1 ∈ mk_LT := List.mem_cons_of_mem _ (List.mem_append_right _ (List.mem_append_right _ (List.mem_append_right _ (List.mem_append_left _ (List.mem_of_getElem? (i := 184) rfl)))))
theorem ce_8 : (mc_8.drop 113).all (mm_f mM_8) = true := by decide +kernel
theorem ck_8 : mm_OKM mM_8 := ⟨ch_8, cm_8, (mm_j 0 59 cs_8_0 (mm_j 59 33 cs_8_59 (mm_j 92 21 cs_8_92 ce_8)))⟩
theorem cs_9_0 : ((mc_9.drop 0).take 37).all (mm_f mM_9) = true := by decide +kernel
theorem ch_9 : mm_hd mM_9 = true := by decide +kernel
set_option maxRecDepth 20000 in
theorem cm_9 : Cond.code mM_9.1 mM_9.2.1 mM_9.2.2.1 mM_9.2.2.2.1 ∈ mk_LT := List.mem_cons_of_mem _ (List.mem_append_right _ (List.mem_append_right _ (List.mem_append_right _ (List.mem_append_left _ (List.mem_of_getElem? (i := 189) rfl)))))
theorem ce_9 : (mc_9.drop 37).all (mm_f mM_9) = true := by decide +kernel
theorem ck_9 : mm_OKM mM_9 := ⟨ch_9, cm_9, (mm_j 0 37 cs_9_0 ce_9)⟩
theorem cs_10_0 : ((mc_10.drop 0).take 17).all (mm_f mM_10) = true := by decide +kernel
theorem ch_10 : mm_hd mM_10 = true := by decide +kernel
set_option maxRecDepth 20000 in
theorem cm_10 : Cond.code mM_10.1 mM_10.2.1 mM_10.2.2.1 mM_10.2.2.2.1 ∈ mk_LT := List.mem_cons_of_mem _ (List.mem_append_right _ (List.mem_append_right _ (List.mem_append_right _ (List.mem_append_right _ (List.mem_append_left _ (List.mem_of_getElem? (i := 18) rfl))))))
theorem ce_10 : (mc_10.drop 17).all (mm_f mM_10) = true := by decide +kernel
theorem ck_10 : mm_OKM mM_10 := ⟨ch_10, cm_10, (mm_j 0 17 cs_10_0 ce_10)⟩
theorem cs_11_0 : ((mc_11.drop 0).take 33).all (mm_f mM_11) = true := by decide +kernel
theorem ch_11 : mm_hd mM_11 = true := by decide +kernel
set_option maxRecDepth 20000 in
theorem cm_11 : Cond.code mM_11.1 mM_11.2.1 mM_11.2.2.1 mM_11.2.2.2.1 ∈ mk_LT := List.mem_cons_of_mem _ (List.mem_append_right _ (List.mem_append_right _ (List.mem_append_right _ (List.mem_append_left _ (List.mem_of_getElem? (i := 195) rfl)))))
theorem ce_11 : (mc_11.drop 33).all (mm_f mM_11) = true := by decide +kernel
theorem ck_11 : mm_OKM mM_11 := ⟨ch_11, cm_11, (mm_j 0 33 cs_11_0 ce_11)⟩
theorem cs_12_0 : ((mc_12.drop 0).take 61).all (mm_f mM_12) = true := by decide +kernel
theorem cs_12_61 : ((mc_12.drop 61).take 2).all (mm_f mM_12) = true := by decide +kernel
theorem ch_12 : mm_hd mM_12 = true := by decide +kernel
set_option maxRecDepth 20000 in
theorem cm_12 : Cond.code mM_12.1 mM_12.2.1 mM_12.2.2.1 mM_12.2.2.2.1 ∈ mk_LT := List.mem_cons_of_mem _ (List.mem_append_right _ (List.mem_append_right _ (List.mem_append_right _ (List.mem_append_left _ (List.mem_of_getElem? (i := 133) rfl)))))
theorem ce_12 : (mc_12.drop 63).all (mm_f mM_12) = true := by decide +kernel
theorem ck_12 : mm_OKM mM_12 := ⟨ch_12, cm_12, (mm_j 0 61 cs_12_0 (mm_j 61 2 cs_12_61 ce_12))⟩
theorem cs_13_0 : ((mc_13.drop 0).take 44).all (mm_f mM_13) = true := by decide +kernel
theorem ch_13 : mm_hd mM_13 = true := by decide +kernel
set_option maxRecDepth 20000 in
theorem cm_13 : Cond.code mM_13.1 mM_13.2.1 mM_13.2.2.1 mM_13.2.2.2.1 ∈ mk_LT := List.mem_cons_of_mem _ (List.mem_append_right _ (List.mem_append_right _ (List.mem_append_right _ (List.mem_append_left _ (List.mem_of_getElem? (i := 137) rfl)))))
theorem ce_13 : (mc_13.drop 44).all (mm_f mM_13) = true := by decide +kernel
theorem ck_13 : mm_OKM mM_13 := ⟨ch_13, cm_13, (mm_j 0 44 cs_13_0 ce_13)⟩
theorem cs_14_0 : ((mc_14.drop 0).take 15).all (mm_f mM_14) = true := by decide +kernel
theorem ch_14 : mm_hd mM_14 = true := by decide +kernel
set_option maxRecDepth 20000 in
theorem cm_14 : Cond.code mM_14.1 mM_14.2.1 mM_14.2.2.1 mM_14.2.2.2.1 ∈ mk_LT := List.mem_cons_of_mem _ (List.mem_append_right _ (List.mem_append_right _ (List.mem_append_left _ (List.mem_of_getElem? (i := 15) rfl))))
theorem ce_14 : (mc_14.drop 15).all (mm_f mM_14) = true := by decide +kernel
theorem ck_14 : mm_OKM mM_14 := ⟨ch_14, cm_14, (mm_j 0 15 cs_14_0 ce_14)⟩
theorem cs_15_0 : ((mc_15.drop 0).take 61).all (mm_f mM_15) = true := by decide +kernel
theorem cs_15_61 : ((mc_15.drop 61).take 32).all (mm_f mM_15) = true := by decide +kernel
theorem cs_15_93 : ((mc_15.drop 93).take 25).all (mm_f mM_15) = true := by decide +kernel
theorem cs_15_118 : ((mc_15.drop 118).take 8).all (mm_f mM_15) = true := by decide +kernel
theorem ch_15 : mm_hd mM_15 = true := by decide +kernel
set_option maxRecDepth 20000 in
theorem cm_15 : Cond.code mM_15.1 mM_15.2.1 mM_15.2.2.1 mM_15.2.2.2.1 ∈ mk_LT := List.mem_cons_of_mem _ (List.mem_append_right _ (List.mem_append_right _ (List.mem_append_right _ (List.mem_append_right _ (List.mem_append_left _ (List.mem_of_getElem? (i := 87) rfl))))))
theorem ce_15 : (mc_15.drop 126).all (mm_f mM_15) = true := by decide +kernel
theorem ck_15 : mm_OKM mM_15 := ⟨ch_15, cm_15, (mm_j 0 61 cs_15_0 (mm_j 61 32 cs_15_61 (mm_j 93 25 cs_15_93 (mm_j 118 8 cs_15_118 ce_15))))⟩
theorem cs_16_0 : ((mc_16.drop 0).take 60).all (mm_f mM_16) = true := by decide +kernel
theorem cs_16_60 : ((mc_16.drop 60).take 9).all (mm_f mM_16) = true := by decide +kernel
theorem ch_16 : mm_hd mM_16 = true := by decide +kernel
set_option maxRecDepth 20000 in
theorem cm_16 : Cond.code mM_16.1 mM_16.2.1 mM_16.2.2.1 mM_16.2.2.2.1 ∈ mk_LT := List.mem_cons_of_mem _ (List.mem_append_right _ (List.mem_append_right _ (List.mem_append_right _ (List.mem_append_right _ (List.mem_append_left _ (List.mem_of_getElem? (i := 104) rfl))))))
theorem ce_16 : (mc_16.drop 69).all (mm_f mM_16) = true := by decide +kernel
theorem ck_16 : mm_OKM mM_16 := ⟨ch_16, cm_16, (mm_j 0 60 cs_16_0 (mm_j 60 9 cs_16_60 ce_16))⟩
theorem cs_17_0 : ((mc_17.drop 0).take 45).all (mm_f mM_17) = true := by decide +kernel
theorem ch_17 : mm_hd mM_17 = true := by decide +kernel
set_option maxRecDepth 20000 in
theorem cm_17 : Cond.code mM_17.1 mM_17.2.1 mM_17.2.2.1 mM_17.2.2.2.1 ∈ mk_LT := List.mem_cons_of_mem _ (List.mem_append_right _ (List.mem_append_right _ (List.mem_append_right _ (List.mem_append_right _ (List.mem_append_left _ (List.mem_of_getElem? (i := 99) rfl))))))
theorem ce_17 : (mc_17.drop 45).all (mm_f mM_17) = true := by decide +kernel
theorem ck_17 : mm_OKM mM_17 := ⟨ch_17, cm_17, (mm_j 0 45 cs_17_0 ce_17)⟩
theorem cs_18_0 : ((mc_18.drop 0).take 29).all (mm_f mM_18) = true := by decide +kernel
theorem ch_18 : mm_hd mM_18 = true := by decide +kernel
set_option maxRecDepth 20000 in
theorem cm_18 : Cond.code mM_18.1 mM_18.2.1 mM_18.2.2.1 mM_18.2.2.2.1 ∈ mk_LT := List.mem_cons_of_mem _ (List.mem_append_right _ (List.mem_append_right _ (List.mem_append_right _ (List.mem_append_right _ (List.mem_append_left _ (List.mem_of_getElem? (i := 92) rfl))))))
theorem ce_18 : (mc_18.drop 29).all (mm_f mM_18) = true := by decide +kernel
theorem ck_18 : mm_OKM mM_18 := ⟨ch_18, cm_18, (mm_j 0 29 cs_18_0 ce_18)⟩
theorem cs_19_0 : ((mc_19.drop 0).take 22).all (mm_f mM_19) = true := by decide +kernel
theorem ch_19 : mm_hd mM_19 = true := by decide +kernel
set_option maxRecDepth 20000 in
theorem cm_19 : Cond.code mM_19.1 mM_19.2.1 mM_19.2.2.1 mM_19.2.2.2.1 ∈ mk_LT := List.mem_cons_of_mem _ (List.mem_append_right _ (List.mem_append_right _ (List.mem_append_right _ (List.mem_append_right _ (List.mem_append_left _ (List.mem_of_getElem? (i := 95) rfl))))))
theorem ce_19 : (mc_19.drop 22).all (mm_f mM_19) = true := by decide +kernel
theorem ck_19 : mm_OKM mM_19 := ⟨ch_19, cm_19, (mm_j 0 22 cs_19_0 ce_19)⟩
theorem cs_20_0 : ((mc_20.drop 0).take 19).all (mm_f mM_20) = true := by decide +kernel
theorem ch_20 : mm_hd mM_20 = true := by decide +kernel
set_option maxRecDepth 20000 in
theorem cm_20 : Cond.code mM_20.1 mM_20.2.1 mM_20.2.2.1 mM_20.2.2.2.1 ∈ mk_LT := List.mem_cons_of_mem _ (List.mem_append_right _ (List.mem_append_left _ (List.mem_of_getElem? (i := 233) rfl)))
theorem ce_20 : (mc_20.drop 19).all (mm_f mM_20) = true := by decide +kernel
theorem ck_20 : mm_OKM mM_20 := ⟨ch_20, cm_20, (mm_j 0 19 cs_20_0 ce_20)⟩
theorem cs_21_0 : ((mc_21.drop 0).take 59).all (mm_f mM_21) = true := by decide +kernel
theorem cs_21_59 : ((mc_21.drop 59).take 32).all (mm_f mM_21) = true := by decide +kernel
theorem cs_21_91 : ((mc_21.drop 91).take 19).all (mm_f mM_21) = true := by decide +kernel
theorem ch_21 : mm_hd mM_21 = true := by decide +kernel
set_option maxRecDepth 20000 in
theorem cm_21 : Cond.code mM_21.1 mM_21.2.1 mM_21.2.2.1 mM_21.2.2.2.1 ∈ mk_LT := List.mem_cons_of_mem _ (List.mem_append_right _ (List.mem_append_right _ (List.mem_append_right _ (List.mem_append_right _ (List.mem_append_left _ (List.mem_of_getElem? (i := 36) rfl))))))
theorem ce_21 : (mc_21.drop 110).all (mm_f mM_21) = true := by decide +kernel
theorem ck_21 : mm_OKM mM_21 := ⟨ch_21, cm_21, (mm_j 0 59 cs_21_0 (mm_j 59 32 cs_21_59 (mm_j 91 19 cs_21_91 ce_21)))⟩
theorem cs_22_0 : ((mc_22.drop 0).take 35).all (mm_f mM_22) = true := by decide +kernel
theorem ch_22 : mm_hd mM_22 = true := by decide +kernel
set_option maxRecDepth 20000 in
theorem cm_22 : Cond.code mM_22.1 mM_22.2.1 mM_22.2.2.1 mM_22.2.2.2.1 ∈ mk_LT := List.mem_cons_of_mem _ (List.mem_append_right _ (List.mem_append_right _ (List.mem_append_right _ (List.mem_append_right _ (List.mem_append_left _ (List.mem_of_getElem? (i := 74) rfl))))))
theorem ce_22 : (mc_22.drop 35).all (mm_f mM_22) = true := by decide +kernel
theorem ck_22 : mm_OKM mM_22 := ⟨ch_22, cm_22, (mm_j 0 35 cs_22_0 ce_22)⟩
theorem cs_23_0 : ((mc_23.drop 0).take 30).all (mm_f mM_23) = true := by decide +kernel
theorem ch_23 : mm_hd mM_23 = true := by decide +kernel
set_option maxRecDepth 20000 in
theorem cm_23 : Cond.code mM_23.1 mM_23.2.1 mM_23.2.2.1 mM_23.2.2.2.1 ∈ mk_LT := List.mem_cons_of_mem _ (List.mem_append_right _ (List.mem_append_right _ (List.mem_append_right _ (List.mem_append_right _ (List.mem_append_left _ (List.mem_of_getElem? (i := 43) rfl))))))
theorem ce_23 : (mc_23.drop 30).all (mm_f mM_23) = true := by decide +kernel
theorem ck_23 : mm_OKM mM_23 := ⟨ch_23, cm_23, (mm_j 0 30 cs_23_0 ce_23)⟩
theorem cs_24_0 : ((mc_24.drop 0).take 60).all (mm_f mM_24) = true := by decide +kernel
theorem cs_24_60 : ((mc_24.drop 60).take 24).all (mm_f mM_24) = true := by decide +kernel
theorem ch_24 : mm_hd mM_24 = true := by decide +kernel
set_option maxRecDepth 20000 in
theorem cm_24 : Cond.code mM_24.1 mM_24.2.1 mM_24.2.2.1 mM_24.2.2.2.1 ∈ mk_LT := List.mem_cons_of_mem _ (List.mem_append_right _ (List.mem_append_right _ (List.mem_append_right _ (List.mem_append_right _ (List.mem_append_left _ (List.mem_of_getElem? (i := 49) rfl))))))
theorem ce_24 : (mc_24.drop 84).all (mm_f mM_24) = true := by decide +kernel
theorem ck_24 : mm_OKM mM_24 := ⟨ch_24, cm_24, (mm_j 0 60 cs_24_0 (mm_j 60 24 cs_24_60 ce_24))⟩
theorem cs_25_0 : ((mc_25.drop 0).take 61).all (mm_f mM_25) = true := by decide +kernel
theorem cs_25_61 : ((mc_25.drop 61).take 5).all (mm_f mM_25) = true := by decide +kernel
theorem ch_25 : mm_hd mM_25 = true := by decide +kernel
set_option maxRecDepth 20000 in
theorem cm_25 : Cond.code mM_25.1 mM_25.2.1 mM_25.2.2.1 mM_25.2.2.2.1 ∈ mk_LT := List.mem_cons_of_mem _ (List.mem_append_right _ (List.mem_append_right _ (List.mem_append_right _ (List.mem_append_right _ (List.mem_append_left _ (List.mem_of_getElem? (i := 57) rfl))))))
theorem ce_25 : (mc_25.drop 66).all (mm_f mM_25) = true := by decide +kernel
theorem ck_25 : mm_OKM mM_25 := ⟨ch_25, cm_25, (mm_j 0 61 cs_25_0 (mm_j 61 5 cs_25_61 ce_25))⟩
theorem cs_26_0 : ((mc_26.drop 0).take 30).all (mm_f mM_26) = true := by decide +kernel
theorem ch_26 : mm_hd mM_26 = true := by decide +kernel
set_option maxRecDepth 20000 in
theorem cm_26 : Cond.code mM_26.1 mM_26.2.1 mM_26.2.2.1 mM_26.2.2.2.1 ∈ mk_LT := List.mem_cons_of_mem _ (List.mem_append_right _ (List.mem_append_right _ (List.mem_append_right _ (List.mem_append_right _ (List.mem_append_left _ (List.mem_of_getElem? (i := 61) rfl))))))
theorem ce_26 : (mc_26.drop 30).all (mm_f mM_26) = true := by decide +kernel
theorem ck_26 : mm_OKM mM_26 := ⟨ch_26, cm_26, (mm_j 0 30 cs_26_0 ce_26)⟩
