-- ===== PART A: goes FIRST, ahead of the names: the tables' words, and 'selects' of the private methods out of them =====
/-- a private method of a class that the tables say can be made, by its rows of tables_1 -/
def lw_okq (q : MethodName × Nat) : Prop := (q.1.cls ≠ "java/lang/invoke/MethodHandle" ∧ q.1.cls ≠ "java/lang/invoke/VarHandle") ∧ Cond.instantiable q.1.cls q.2 ∈ tables_1 ∧ Cond.privateMethod q.1 ∈ tables_1 ∧ Cond.instanceMethod q.1 ∈ tables_1
theorem lw_p0 : lw_okq (⟨"WashLine", "refused", "(I)I"⟩, 19) := ⟨⟨by decide +kernel, by decide +kernel⟩, List.mem_of_getElem? (i := 19) (by decide +kernel), List.mem_of_getElem? (i := 333) (by decide +kernel), List.mem_of_getElem? (i := 334) (by decide +kernel)⟩
theorem lw_p1 : lw_okq (⟨"WashLine", "settled", "(I)I"⟩, 19) := ⟨⟨by decide +kernel, by decide +kernel⟩, List.mem_of_getElem? (i := 19) (by decide +kernel), List.mem_of_getElem? (i := 345) (by decide +kernel), List.mem_of_getElem? (i := 346) (by decide +kernel)⟩
theorem lw_p2 : lw_okq (⟨"WashLine", "accepted", "(I)I"⟩, 19) := ⟨⟨by decide +kernel, by decide +kernel⟩, List.mem_of_getElem? (i := 19) (by decide +kernel), List.mem_of_getElem? (i := 349) (by decide +kernel), List.mem_of_getElem? (i := 350) (by decide +kernel)⟩
theorem lw_p3 : lw_okq (⟨"WashLine$Captain", "lawTells", "(II)J"⟩, 9) := ⟨⟨by decide +kernel, by decide +kernel⟩, List.mem_of_getElem? (i := 190) (by decide +kernel), List.mem_of_getElem? (i := 393) (by decide +kernel), List.mem_of_getElem? (i := 394) (by decide +kernel)⟩
theorem lw_p4 : lw_okq (⟨"WashLine", "append", "(I)V"⟩, 19) := ⟨⟨by decide +kernel, by decide +kernel⟩, List.mem_of_getElem? (i := 19) (by decide +kernel), List.mem_of_getElem? (i := 449) (by decide +kernel), List.mem_of_getElem? (i := 450) (by decide +kernel)⟩
theorem lw_p5 : lw_okq (⟨"WashLine$Reader", "begin", "([IIZ)V"⟩, 10) := ⟨⟨by decide +kernel, by decide +kernel⟩, List.mem_of_getElem? (i := 114) (by decide +kernel), List.mem_of_getElem? (i := 473) (by decide +kernel), List.mem_of_getElem? (i := 474) (by decide +kernel)⟩
theorem lw_p6 : lw_okq (⟨"WashLine$Reader", "step", "()V"⟩, 10) := ⟨⟨by decide +kernel, by decide +kernel⟩, List.mem_of_getElem? (i := 114) (by decide +kernel), List.mem_of_getElem? (i := 478) (by decide +kernel), List.mem_of_getElem? (i := 479) (by decide +kernel)⟩
theorem lw_p7 : lw_okq (⟨"WashLine$Reader", "pick", "(Ljava/lang/String;)I"⟩, 10) := ⟨⟨by decide +kernel, by decide +kernel⟩, List.mem_of_getElem? (i := 114) (by decide +kernel), List.mem_of_getElem? (i := 484) (by decide +kernel), List.mem_of_getElem? (i := 485) (by decide +kernel)⟩
theorem lw_p8 : lw_okq (⟨"WashLine$Reader", "fail", "()Z"⟩, 10) := ⟨⟨by decide +kernel, by decide +kernel⟩, List.mem_of_getElem? (i := 114) (by decide +kernel), List.mem_of_getElem? (i := 536) (by decide +kernel), List.mem_of_getElem? (i := 537) (by decide +kernel)⟩
theorem lw_p9 : lw_okq (⟨"WashLine$Reader", "sum", "(ZI)Z"⟩, 10) := ⟨⟨by decide +kernel, by decide +kernel⟩, List.mem_of_getElem? (i := 114) (by decide +kernel), List.mem_of_getElem? (i := 540) (by decide +kernel), List.mem_of_getElem? (i := 541) (by decide +kernel)⟩
theorem lw_p10 : lw_okq (⟨"WashLine$Reader", "part", "(I)Z"⟩, 10) := ⟨⟨by decide +kernel, by decide +kernel⟩, List.mem_of_getElem? (i := 114) (by decide +kernel), List.mem_of_getElem? (i := 544) (by decide +kernel), List.mem_of_getElem? (i := 545) (by decide +kernel)⟩
theorem lw_p11 : lw_okq (⟨"WashLine$Reader", "emit", "(II)V"⟩, 10) := ⟨⟨by decide +kernel, by decide +kernel⟩, List.mem_of_getElem? (i := 114) (by decide +kernel), List.mem_of_getElem? (i := 550) (by decide +kernel), List.mem_of_getElem? (i := 551) (by decide +kernel)⟩
theorem lw_p12 : lw_okq (⟨"WashLine$Reader", "times", "()I"⟩, 10) := ⟨⟨by decide +kernel, by decide +kernel⟩, List.mem_of_getElem? (i := 114) (by decide +kernel), List.mem_of_getElem? (i := 555) (by decide +kernel), List.mem_of_getElem? (i := 556) (by decide +kernel)⟩
theorem lw_p13 : lw_okq (⟨"WashLine$Reader", "test", "(ZI)Z"⟩, 10) := ⟨⟨by decide +kernel, by decide +kernel⟩, List.mem_of_getElem? (i := 114) (by decide +kernel), List.mem_of_getElem? (i := 560) (by decide +kernel), List.mem_of_getElem? (i := 561) (by decide +kernel)⟩
theorem lw_p14 : lw_okq (⟨"WashLine$Reader", "plain", "(I)Z"⟩, 10) := ⟨⟨by decide +kernel, by decide +kernel⟩, List.mem_of_getElem? (i := 114) (by decide +kernel), List.mem_of_getElem? (i := 564) (by decide +kernel), List.mem_of_getElem? (i := 565) (by decide +kernel)⟩
theorem lw_p15 : lw_okq (⟨"WashLine", "look", "(II)V"⟩, 19) := ⟨⟨by decide +kernel, by decide +kernel⟩, List.mem_of_getElem? (i := 19) (by decide +kernel), List.mem_of_getElem? (i := 607) (by decide +kernel), List.mem_of_getElem? (i := 608) (by decide +kernel)⟩
def lw_privs_1 : List (MethodName × Nat) := [(⟨"WashLine", "refused", "(I)I"⟩, 19), (⟨"WashLine", "settled", "(I)I"⟩, 19), (⟨"WashLine", "accepted", "(I)I"⟩, 19), (⟨"WashLine$Captain", "lawTells", "(II)J"⟩, 9), (⟨"WashLine", "append", "(I)V"⟩, 19), (⟨"WashLine$Reader", "begin", "([IIZ)V"⟩, 10), (⟨"WashLine$Reader", "step", "()V"⟩, 10), (⟨"WashLine$Reader", "pick", "(Ljava/lang/String;)I"⟩, 10), (⟨"WashLine$Reader", "fail", "()Z"⟩, 10), (⟨"WashLine$Reader", "sum", "(ZI)Z"⟩, 10), (⟨"WashLine$Reader", "part", "(I)Z"⟩, 10), (⟨"WashLine$Reader", "emit", "(II)V"⟩, 10), (⟨"WashLine$Reader", "times", "()I"⟩, 10), (⟨"WashLine$Reader", "test", "(ZI)Z"⟩, 10), (⟨"WashLine$Reader", "plain", "(I)Z"⟩, 10), (⟨"WashLine", "look", "(II)V"⟩, 19)]
theorem lw_r1 : ∀ q ∈ lw_privs_1, lw_okq q := List.forall_mem_cons.mpr ⟨lw_p0, List.forall_mem_cons.mpr ⟨lw_p1, List.forall_mem_cons.mpr ⟨lw_p2, List.forall_mem_cons.mpr ⟨lw_p3, List.forall_mem_cons.mpr ⟨lw_p4, List.forall_mem_cons.mpr ⟨lw_p5, List.forall_mem_cons.mpr ⟨lw_p6, List.forall_mem_cons.mpr ⟨lw_p7, List.forall_mem_cons.mpr ⟨lw_p8, List.forall_mem_cons.mpr ⟨lw_p9, List.forall_mem_cons.mpr ⟨lw_p10, List.forall_mem_cons.mpr ⟨lw_p11, List.forall_mem_cons.mpr ⟨lw_p12, List.forall_mem_cons.mpr ⟨lw_p13, List.forall_mem_cons.mpr ⟨lw_p14, List.forall_mem_cons.mpr ⟨lw_p15, fun _ h => absurd h List.not_mem_nil⟩⟩⟩⟩⟩⟩⟩⟩⟩⟩⟩⟩⟩⟩⟩⟩
theorem lw_p16 : lw_okq (⟨"WashLine$Captain", "waysFrom", "(LWashLine$State;II)I"⟩, 9) := ⟨⟨by decide +kernel, by decide +kernel⟩, List.mem_of_getElem? (i := 190) (by decide +kernel), List.mem_of_getElem? (i := 615) (by decide +kernel), List.mem_of_getElem? (i := 616) (by decide +kernel)⟩
theorem lw_p17 : lw_okq (⟨"WashLine", "hangs", "(J)I"⟩, 19) := ⟨⟨by decide +kernel, by decide +kernel⟩, List.mem_of_getElem? (i := 19) (by decide +kernel), List.mem_of_getElem? (i := 631) (by decide +kernel), List.mem_of_getElem? (i := 632) (by decide +kernel)⟩
theorem lw_p18 : lw_okq (⟨"WashLine", "takes", "()I"⟩, 19) := ⟨⟨by decide +kernel, by decide +kernel⟩, List.mem_of_getElem? (i := 19) (by decide +kernel), List.mem_of_getElem? (i := 644) (by decide +kernel), List.mem_of_getElem? (i := 645) (by decide +kernel)⟩
theorem lw_p19 : lw_okq (⟨"WashLine", "sails", "(J)I"⟩, 19) := ⟨⟨by decide +kernel, by decide +kernel⟩, List.mem_of_getElem? (i := 19) (by decide +kernel), List.mem_of_getElem? (i := 652) (by decide +kernel), List.mem_of_getElem? (i := 653) (by decide +kernel)⟩
theorem lw_p20 : lw_okq (⟨"WashLine$Captain", "priceFrom", "(LWashLine$State;IIZ)I"⟩, 9) := ⟨⟨by decide +kernel, by decide +kernel⟩, List.mem_of_getElem? (i := 190) (by decide +kernel), List.mem_of_getElem? (i := 667) (by decide +kernel), List.mem_of_getElem? (i := 668) (by decide +kernel)⟩
theorem lw_p21 : lw_okq (⟨"WashLine", "passes", "()I"⟩, 19) := ⟨⟨by decide +kernel, by decide +kernel⟩, List.mem_of_getElem? (i := 19) (by decide +kernel), List.mem_of_getElem? (i := 686) (by decide +kernel), List.mem_of_getElem? (i := 687) (by decide +kernel)⟩
theorem lw_p22 : lw_okq (⟨"WashLine$Course", "arrive", "(II)I"⟩, 5) := ⟨⟨by decide +kernel, by decide +kernel⟩, List.mem_of_getElem? (i := 230) (by decide +kernel), List.mem_of_getElem? (i := 761) (by decide +kernel), List.mem_of_getElem? (i := 762) (by decide +kernel)⟩
theorem lw_p23 : lw_okq (⟨"WashLine$Course", "learn", "(LWashLine$State;LWashLine$Captain;I)V"⟩, 5) := ⟨⟨by decide +kernel, by decide +kernel⟩, List.mem_of_getElem? (i := 230) (by decide +kernel), List.mem_of_getElem? (i := 767) (by decide +kernel), List.mem_of_getElem? (i := 768) (by decide +kernel)⟩
theorem lw_p24 : lw_okq (⟨"WashLine$Course", "spread", "(LWashLine$State;III)Z"⟩, 5) := ⟨⟨by decide +kernel, by decide +kernel⟩, List.mem_of_getElem? (i := 230) (by decide +kernel), List.mem_of_getElem? (i := 775) (by decide +kernel), List.mem_of_getElem? (i := 776) (by decide +kernel)⟩
theorem lw_p25 : lw_okq (⟨"WashLine$Course", "next", "(II)I"⟩, 5) := ⟨⟨by decide +kernel, by decide +kernel⟩, List.mem_of_getElem? (i := 230) (by decide +kernel), List.mem_of_getElem? (i := 779) (by decide +kernel), List.mem_of_getElem? (i := 780) (by decide +kernel)⟩
theorem lw_p26 : lw_okq (⟨"WashLine$Course", "forgetAstray", "(LWashLine$State;II)V"⟩, 5) := ⟨⟨by decide +kernel, by decide +kernel⟩, List.mem_of_getElem? (i := 230) (by decide +kernel), List.mem_of_getElem? (i := 784) (by decide +kernel), List.mem_of_getElem? (i := 785) (by decide +kernel)⟩
theorem lw_p27 : lw_okq (⟨"WashLine$Course", "leadingSign", "(LWashLine$State;I)I"⟩, 5) := ⟨⟨by decide +kernel, by decide +kernel⟩, List.mem_of_getElem? (i := 230) (by decide +kernel), List.mem_of_getElem? (i := 788) (by decide +kernel), List.mem_of_getElem? (i := 789) (by decide +kernel)⟩
theorem lw_p28 : lw_okq (⟨"WashLine$Codebook", "offer", "(II)Z"⟩, 4) := ⟨⟨by decide +kernel, by decide +kernel⟩, List.mem_of_getElem? (i := 252) (by decide +kernel), List.mem_of_getElem? (i := 817) (by decide +kernel), List.mem_of_getElem? (i := 818) (by decide +kernel)⟩
theorem lw_p29 : lw_okq (⟨"WashLine$Codebook", "improve", "(I)Z"⟩, 4) := ⟨⟨by decide +kernel, by decide +kernel⟩, List.mem_of_getElem? (i := 252) (by decide +kernel), List.mem_of_getElem? (i := 822) (by decide +kernel), List.mem_of_getElem? (i := 823) (by decide +kernel)⟩
theorem lw_p30 : lw_okq (⟨"WashLineModel", "refuses", "(I)I"⟩, 52) := ⟨⟨by decide +kernel, by decide +kernel⟩, List.mem_of_getElem? (i := 893) (by decide +kernel), List.mem_of_getElem? (i := 1063) (by decide +kernel), List.mem_of_getElem? (i := 1064) (by decide +kernel)⟩
theorem lw_p31 : lw_okq (⟨"WashLineModel", "good", "(I)I"⟩, 52) := ⟨⟨by decide +kernel, by decide +kernel⟩, List.mem_of_getElem? (i := 893) (by decide +kernel), List.mem_of_getElem? (i := 1067) (by decide +kernel), List.mem_of_getElem? (i := 1068) (by decide +kernel)⟩
def lw_privs_2 : List (MethodName × Nat) := [(⟨"WashLine$Captain", "waysFrom", "(LWashLine$State;II)I"⟩, 9), (⟨"WashLine", "hangs", "(J)I"⟩, 19), (⟨"WashLine", "takes", "()I"⟩, 19), (⟨"WashLine", "sails", "(J)I"⟩, 19), (⟨"WashLine$Captain", "priceFrom", "(LWashLine$State;IIZ)I"⟩, 9), (⟨"WashLine", "passes", "()I"⟩, 19), (⟨"WashLine$Course", "arrive", "(II)I"⟩, 5), (⟨"WashLine$Course", "learn", "(LWashLine$State;LWashLine$Captain;I)V"⟩, 5), (⟨"WashLine$Course", "spread", "(LWashLine$State;III)Z"⟩, 5), (⟨"WashLine$Course", "next", "(II)I"⟩, 5), (⟨"WashLine$Course", "forgetAstray", "(LWashLine$State;II)V"⟩, 5), (⟨"WashLine$Course", "leadingSign", "(LWashLine$State;I)I"⟩, 5), (⟨"WashLine$Codebook", "offer", "(II)Z"⟩, 4), (⟨"WashLine$Codebook", "improve", "(I)Z"⟩, 4), (⟨"WashLineModel", "refuses", "(I)I"⟩, 52), (⟨"WashLineModel", "good", "(I)I"⟩, 52)]
theorem lw_r2 : ∀ q ∈ lw_privs_2, lw_okq q := List.forall_mem_cons.mpr ⟨lw_p16, List.forall_mem_cons.mpr ⟨lw_p17, List.forall_mem_cons.mpr ⟨lw_p18, List.forall_mem_cons.mpr ⟨lw_p19, List.forall_mem_cons.mpr ⟨lw_p20, List.forall_mem_cons.mpr ⟨lw_p21, List.forall_mem_cons.mpr ⟨lw_p22, List.forall_mem_cons.mpr ⟨lw_p23, List.forall_mem_cons.mpr ⟨lw_p24, List.forall_mem_cons.mpr ⟨lw_p25, List.forall_mem_cons.mpr ⟨lw_p26, List.forall_mem_cons.mpr ⟨lw_p27, List.forall_mem_cons.mpr ⟨lw_p28, List.forall_mem_cons.mpr ⟨lw_p29, List.forall_mem_cons.mpr ⟨lw_p30, List.forall_mem_cons.mpr ⟨lw_p31, fun _ h => absurd h List.not_mem_nil⟩⟩⟩⟩⟩⟩⟩⟩⟩⟩⟩⟩⟩⟩⟩⟩
theorem lw_p32 : lw_okq (⟨"WashLineModel", "settled", "(I)I"⟩, 52) := ⟨⟨by decide +kernel, by decide +kernel⟩, List.mem_of_getElem? (i := 893) (by decide +kernel), List.mem_of_getElem? (i := 1075) (by decide +kernel), List.mem_of_getElem? (i := 1076) (by decide +kernel)⟩
theorem lw_p33 : lw_okq (⟨"WashLineModel", "isTaken", "(I)Z"⟩, 52) := ⟨⟨by decide +kernel, by decide +kernel⟩, List.mem_of_getElem? (i := 893) (by decide +kernel), List.mem_of_getElem? (i := 1086) (by decide +kernel), List.mem_of_getElem? (i := 1087) (by decide +kernel)⟩
theorem lw_p34 : lw_okq (⟨"WashLineModel", "signMany", "()I"⟩, 52) := ⟨⟨by decide +kernel, by decide +kernel⟩, List.mem_of_getElem? (i := 893) (by decide +kernel), List.mem_of_getElem? (i := 1090) (by decide +kernel), List.mem_of_getElem? (i := 1091) (by decide +kernel)⟩
theorem lw_p35 : lw_okq (⟨"WashLineModel", "adds", "(II)V"⟩, 52) := ⟨⟨by decide +kernel, by decide +kernel⟩, List.mem_of_getElem? (i := 893) (by decide +kernel), List.mem_of_getElem? (i := 1094) (by decide +kernel), List.mem_of_getElem? (i := 1095) (by decide +kernel)⟩
theorem lw_p36 : lw_okq (⟨"WashLineModel", "isSign", "(I)Z"⟩, 52) := ⟨⟨by decide +kernel, by decide +kernel⟩, List.mem_of_getElem? (i := 893) (by decide +kernel), List.mem_of_getElem? (i := 1102) (by decide +kernel), List.mem_of_getElem? (i := 1103) (by decide +kernel)⟩
theorem lw_p37 : lw_okq (⟨"WashLineModel", "clothOf", "(II)I"⟩, 52) := ⟨⟨by decide +kernel, by decide +kernel⟩, List.mem_of_getElem? (i := 893) (by decide +kernel), List.mem_of_getElem? (i := 1106) (by decide +kernel), List.mem_of_getElem? (i := 1107) (by decide +kernel)⟩
theorem lw_p38 : lw_okq (⟨"WashLineModel", "isShip", "(I)Z"⟩, 52) := ⟨⟨by decide +kernel, by decide +kernel⟩, List.mem_of_getElem? (i := 893) (by decide +kernel), List.mem_of_getElem? (i := 1118) (by decide +kernel), List.mem_of_getElem? (i := 1119) (by decide +kernel)⟩
theorem lw_p39 : lw_okq (⟨"WashLineModel", "weighsFor", "(II)I"⟩, 52) := ⟨⟨by decide +kernel, by decide +kernel⟩, List.mem_of_getElem? (i := 893) (by decide +kernel), List.mem_of_getElem? (i := 1126) (by decide +kernel), List.mem_of_getElem? (i := 1127) (by decide +kernel)⟩
theorem lw_p40 : lw_okq (⟨"WashLineModel", "setsAsked", "(IIIII)V"⟩, 52) := ⟨⟨by decide +kernel, by decide +kernel⟩, List.mem_of_getElem? (i := 893) (by decide +kernel), List.mem_of_getElem? (i := 1130) (by decide +kernel), List.mem_of_getElem? (i := 1131) (by decide +kernel)⟩
theorem lw_p41 : lw_okq (⟨"WashLineModel", "tells", "(III)I"⟩, 52) := ⟨⟨by decide +kernel, by decide +kernel⟩, List.mem_of_getElem? (i := 893) (by decide +kernel), List.mem_of_getElem? (i := 1134) (by decide +kernel), List.mem_of_getElem? (i := 1135) (by decide +kernel)⟩
theorem lw_p42 : lw_okq (⟨"WashLineModel", "codeAt", "(I)I"⟩, 52) := ⟨⟨by decide +kernel, by decide +kernel⟩, List.mem_of_getElem? (i := 893) (by decide +kernel), List.mem_of_getElem? (i := 1138) (by decide +kernel), List.mem_of_getElem? (i := 1139) (by decide +kernel)⟩
theorem lw_p43 : lw_okq (⟨"WashLineModel", "sumOf", "(Z)J"⟩, 52) := ⟨⟨by decide +kernel, by decide +kernel⟩, List.mem_of_getElem? (i := 893) (by decide +kernel), List.mem_of_getElem? (i := 1142) (by decide +kernel), List.mem_of_getElem? (i := 1143) (by decide +kernel)⟩
theorem lw_p44 : lw_okq (⟨"WashLineModel", "termOf", "(Z)J"⟩, 52) := ⟨⟨by decide +kernel, by decide +kernel⟩, List.mem_of_getElem? (i := 893) (by decide +kernel), List.mem_of_getElem? (i := 1146) (by decide +kernel), List.mem_of_getElem? (i := 1147) (by decide +kernel)⟩
theorem lw_p45 : lw_okq (⟨"WashLineModel", "partOf", "(Z)J"⟩, 52) := ⟨⟨by decide +kernel, by decide +kernel⟩, List.mem_of_getElem? (i := 893) (by decide +kernel), List.mem_of_getElem? (i := 1150) (by decide +kernel), List.mem_of_getElem? (i := 1151) (by decide +kernel)⟩
theorem lw_p46 : lw_okq (⟨"WashLineModel", "passes0", "(I)Z"⟩, 52) := ⟨⟨by decide +kernel, by decide +kernel⟩, List.mem_of_getElem? (i := 893) (by decide +kernel), List.mem_of_getElem? (i := 1157) (by decide +kernel), List.mem_of_getElem? (i := 1158) (by decide +kernel)⟩
theorem lw_p47 : lw_okq (⟨"WashLineModel", "orderValue", "(II)I"⟩, 52) := ⟨⟨by decide +kernel, by decide +kernel⟩, List.mem_of_getElem? (i := 893) (by decide +kernel), List.mem_of_getElem? (i := 1161) (by decide +kernel), List.mem_of_getElem? (i := 1162) (by decide +kernel)⟩
def lw_privs_3 : List (MethodName × Nat) := [(⟨"WashLineModel", "settled", "(I)I"⟩, 52), (⟨"WashLineModel", "isTaken", "(I)Z"⟩, 52), (⟨"WashLineModel", "signMany", "()I"⟩, 52), (⟨"WashLineModel", "adds", "(II)V"⟩, 52), (⟨"WashLineModel", "isSign", "(I)Z"⟩, 52), (⟨"WashLineModel", "clothOf", "(II)I"⟩, 52), (⟨"WashLineModel", "isShip", "(I)Z"⟩, 52), (⟨"WashLineModel", "weighsFor", "(II)I"⟩, 52), (⟨"WashLineModel", "setsAsked", "(IIIII)V"⟩, 52), (⟨"WashLineModel", "tells", "(III)I"⟩, 52), (⟨"WashLineModel", "codeAt", "(I)I"⟩, 52), (⟨"WashLineModel", "sumOf", "(Z)J"⟩, 52), (⟨"WashLineModel", "termOf", "(Z)J"⟩, 52), (⟨"WashLineModel", "partOf", "(Z)J"⟩, 52), (⟨"WashLineModel", "passes0", "(I)Z"⟩, 52), (⟨"WashLineModel", "orderValue", "(II)I"⟩, 52)]
theorem lw_r3 : ∀ q ∈ lw_privs_3, lw_okq q := List.forall_mem_cons.mpr ⟨lw_p32, List.forall_mem_cons.mpr ⟨lw_p33, List.forall_mem_cons.mpr ⟨lw_p34, List.forall_mem_cons.mpr ⟨lw_p35, List.forall_mem_cons.mpr ⟨lw_p36, List.forall_mem_cons.mpr ⟨lw_p37, List.forall_mem_cons.mpr ⟨lw_p38, List.forall_mem_cons.mpr ⟨lw_p39, List.forall_mem_cons.mpr ⟨lw_p40, List.forall_mem_cons.mpr ⟨lw_p41, List.forall_mem_cons.mpr ⟨lw_p42, List.forall_mem_cons.mpr ⟨lw_p43, List.forall_mem_cons.mpr ⟨lw_p44, List.forall_mem_cons.mpr ⟨lw_p45, List.forall_mem_cons.mpr ⟨lw_p46, List.forall_mem_cons.mpr ⟨lw_p47, fun _ h => absurd h List.not_mem_nil⟩⟩⟩⟩⟩⟩⟩⟩⟩⟩⟩⟩⟩⟩⟩⟩
theorem lw_p48 : lw_okq (⟨"WashLineModel", "size", "()I"⟩, 52) := ⟨⟨by decide +kernel, by decide +kernel⟩, List.mem_of_getElem? (i := 893) (by decide +kernel), List.mem_of_getElem? (i := 1165) (by decide +kernel), List.mem_of_getElem? (i := 1166) (by decide +kernel)⟩
theorem lw_p49 : lw_okq (⟨"WashLineModel", "differsAt", "(II)I"⟩, 52) := ⟨⟨by decide +kernel, by decide +kernel⟩, List.mem_of_getElem? (i := 893) (by decide +kernel), List.mem_of_getElem? (i := 1173) (by decide +kernel), List.mem_of_getElem? (i := 1174) (by decide +kernel)⟩
theorem lw_p50 : lw_okq (⟨"WashLineModel", "bounded", "(JZ)J"⟩, 52) := ⟨⟨by decide +kernel, by decide +kernel⟩, List.mem_of_getElem? (i := 893) (by decide +kernel), List.mem_of_getElem? (i := 1178) (by decide +kernel), List.mem_of_getElem? (i := 1179) (by decide +kernel)⟩
theorem lw_p51 : lw_okq (⟨"WashLineModel", "testOf", "(Z)Z"⟩, 52) := ⟨⟨by decide +kernel, by decide +kernel⟩, List.mem_of_getElem? (i := 893) (by decide +kernel), List.mem_of_getElem? (i := 1184) (by decide +kernel), List.mem_of_getElem? (i := 1185) (by decide +kernel)⟩
theorem lw_p52 : lw_okq (⟨"WashLineModel", "bothOf", "(Z)Z"⟩, 52) := ⟨⟨by decide +kernel, by decide +kernel⟩, List.mem_of_getElem? (i := 893) (by decide +kernel), List.mem_of_getElem? (i := 1188) (by decide +kernel), List.mem_of_getElem? (i := 1189) (by decide +kernel)⟩
theorem lw_p53 : lw_okq (⟨"WashLineModel", "plainOf", "(Z)Z"⟩, 52) := ⟨⟨by decide +kernel, by decide +kernel⟩, List.mem_of_getElem? (i := 893) (by decide +kernel), List.mem_of_getElem? (i := 1192) (by decide +kernel), List.mem_of_getElem? (i := 1193) (by decide +kernel)⟩
theorem lw_p54 : lw_okq (⟨"WashLineModel", "positiveOf", "(Z)Z"⟩, 52) := ⟨⟨by decide +kernel, by decide +kernel⟩, List.mem_of_getElem? (i := 893) (by decide +kernel), List.mem_of_getElem? (i := 1196) (by decide +kernel), List.mem_of_getElem? (i := 1197) (by decide +kernel)⟩
theorem lw_p55 : lw_okq (⟨"WashLineModel", "goesFar", "(III)I"⟩, 52) := ⟨⟨by decide +kernel, by decide +kernel⟩, List.mem_of_getElem? (i := 893) (by decide +kernel), List.mem_of_getElem? (i := 1200) (by decide +kernel), List.mem_of_getElem? (i := 1201) (by decide +kernel)⟩
theorem lw_p56 : lw_okq (⟨"WashLineModel", "isBarred", "(IIII)Z"⟩, 52) := ⟨⟨by decide +kernel, by decide +kernel⟩, List.mem_of_getElem? (i := 893) (by decide +kernel), List.mem_of_getElem? (i := 1204) (by decide +kernel), List.mem_of_getElem? (i := 1205) (by decide +kernel)⟩
theorem lw_p57 : lw_okq (⟨"WashLineModel", "clothsAt", "(I)I"⟩, 52) := ⟨⟨by decide +kernel, by decide +kernel⟩, List.mem_of_getElem? (i := 893) (by decide +kernel), List.mem_of_getElem? (i := 1226) (by decide +kernel), List.mem_of_getElem? (i := 1227) (by decide +kernel)⟩
theorem lw_p58 : lw_okq (⟨"WashLineModel", "readsAs", "(Z)Z"⟩, 52) := ⟨⟨by decide +kernel, by decide +kernel⟩, List.mem_of_getElem? (i := 893) (by decide +kernel), List.mem_of_getElem? (i := 1246) (by decide +kernel), List.mem_of_getElem? (i := 1247) (by decide +kernel)⟩
theorem lw_p59 : lw_okq (⟨"WashLineModel", "readsText", "()Z"⟩, 52) := ⟨⟨by decide +kernel, by decide +kernel⟩, List.mem_of_getElem? (i := 893) (by decide +kernel), List.mem_of_getElem? (i := 1250) (by decide +kernel), List.mem_of_getElem? (i := 1251) (by decide +kernel)⟩
theorem lw_p60 : lw_okq (⟨"WashLineModel", "splits", "(I)V"⟩, 52) := ⟨⟨by decide +kernel, by decide +kernel⟩, List.mem_of_getElem? (i := 893) (by decide +kernel), List.mem_of_getElem? (i := 1254) (by decide +kernel), List.mem_of_getElem? (i := 1255) (by decide +kernel)⟩
theorem lw_p61 : lw_okq (⟨"WashLineModel", "wordOf", "(II)I"⟩, 52) := ⟨⟨by decide +kernel, by decide +kernel⟩, List.mem_of_getElem? (i := 893) (by decide +kernel), List.mem_of_getElem? (i := 1264) (by decide +kernel), List.mem_of_getElem? (i := 1265) (by decide +kernel)⟩
theorem lw_p62 : lw_okq (⟨"WashLineModel", "readOne", "()V"⟩, 52) := ⟨⟨by decide +kernel, by decide +kernel⟩, List.mem_of_getElem? (i := 893) (by decide +kernel), List.mem_of_getElem? (i := 1268) (by decide +kernel), List.mem_of_getElem? (i := 1269) (by decide +kernel)⟩
theorem lw_p63 : lw_okq (⟨"WashLineModel", "readOrder", "()V"⟩, 52) := ⟨⟨by decide +kernel, by decide +kernel⟩, List.mem_of_getElem? (i := 893) (by decide +kernel), List.mem_of_getElem? (i := 1272) (by decide +kernel), List.mem_of_getElem? (i := 1273) (by decide +kernel)⟩
def lw_privs_4 : List (MethodName × Nat) := [(⟨"WashLineModel", "size", "()I"⟩, 52), (⟨"WashLineModel", "differsAt", "(II)I"⟩, 52), (⟨"WashLineModel", "bounded", "(JZ)J"⟩, 52), (⟨"WashLineModel", "testOf", "(Z)Z"⟩, 52), (⟨"WashLineModel", "bothOf", "(Z)Z"⟩, 52), (⟨"WashLineModel", "plainOf", "(Z)Z"⟩, 52), (⟨"WashLineModel", "positiveOf", "(Z)Z"⟩, 52), (⟨"WashLineModel", "goesFar", "(III)I"⟩, 52), (⟨"WashLineModel", "isBarred", "(IIII)Z"⟩, 52), (⟨"WashLineModel", "clothsAt", "(I)I"⟩, 52), (⟨"WashLineModel", "readsAs", "(Z)Z"⟩, 52), (⟨"WashLineModel", "readsText", "()Z"⟩, 52), (⟨"WashLineModel", "splits", "(I)V"⟩, 52), (⟨"WashLineModel", "wordOf", "(II)I"⟩, 52), (⟨"WashLineModel", "readOne", "()V"⟩, 52), (⟨"WashLineModel", "readOrder", "()V"⟩, 52)]
theorem lw_r4 : ∀ q ∈ lw_privs_4, lw_okq q := List.forall_mem_cons.mpr ⟨lw_p48, List.forall_mem_cons.mpr ⟨lw_p49, List.forall_mem_cons.mpr ⟨lw_p50, List.forall_mem_cons.mpr ⟨lw_p51, List.forall_mem_cons.mpr ⟨lw_p52, List.forall_mem_cons.mpr ⟨lw_p53, List.forall_mem_cons.mpr ⟨lw_p54, List.forall_mem_cons.mpr ⟨lw_p55, List.forall_mem_cons.mpr ⟨lw_p56, List.forall_mem_cons.mpr ⟨lw_p57, List.forall_mem_cons.mpr ⟨lw_p58, List.forall_mem_cons.mpr ⟨lw_p59, List.forall_mem_cons.mpr ⟨lw_p60, List.forall_mem_cons.mpr ⟨lw_p61, List.forall_mem_cons.mpr ⟨lw_p62, List.forall_mem_cons.mpr ⟨lw_p63, fun _ h => absurd h List.not_mem_nil⟩⟩⟩⟩⟩⟩⟩⟩⟩⟩⟩⟩⟩⟩⟩⟩
theorem lw_p64 : lw_okq (⟨"WashLineModel", "takes0", "(I)Z"⟩, 52) := ⟨⟨by decide +kernel, by decide +kernel⟩, List.mem_of_getElem? (i := 893) (by decide +kernel), List.mem_of_getElem? (i := 1276) (by decide +kernel), List.mem_of_getElem? (i := 1277) (by decide +kernel)⟩
theorem lw_p65 : lw_okq (⟨"WashLineModel", "fine", "()Z"⟩, 52) := ⟨⟨by decide +kernel, by decide +kernel⟩, List.mem_of_getElem? (i := 893) (by decide +kernel), List.mem_of_getElem? (i := 1280) (by decide +kernel), List.mem_of_getElem? (i := 1281) (by decide +kernel)⟩
theorem lw_p66 : lw_okq (⟨"WashLineModel", "readSum", "(I)V"⟩, 52) := ⟨⟨by decide +kernel, by decide +kernel⟩, List.mem_of_getElem? (i := 893) (by decide +kernel), List.mem_of_getElem? (i := 1284) (by decide +kernel), List.mem_of_getElem? (i := 1285) (by decide +kernel)⟩
theorem lw_p67 : lw_okq (⟨"WashLineModel", "readTerm", "(I)V"⟩, 52) := ⟨⟨by decide +kernel, by decide +kernel⟩, List.mem_of_getElem? (i := 893) (by decide +kernel), List.mem_of_getElem? (i := 1288) (by decide +kernel), List.mem_of_getElem? (i := 1289) (by decide +kernel)⟩
theorem lw_p68 : lw_okq (⟨"WashLineModel", "readPart", "(I)V"⟩, 52) := ⟨⟨by decide +kernel, by decide +kernel⟩, List.mem_of_getElem? (i := 893) (by decide +kernel), List.mem_of_getElem? (i := 1292) (by decide +kernel), List.mem_of_getElem? (i := 1293) (by decide +kernel)⟩
theorem lw_p69 : lw_okq (⟨"WashLineModel", "faults", "()V"⟩, 52) := ⟨⟨by decide +kernel, by decide +kernel⟩, List.mem_of_getElem? (i := 893) (by decide +kernel), List.mem_of_getElem? (i := 1296) (by decide +kernel), List.mem_of_getElem? (i := 1297) (by decide +kernel)⟩
theorem lw_p70 : lw_okq (⟨"WashLineModel", "must", "(I)V"⟩, 52) := ⟨⟨by decide +kernel, by decide +kernel⟩, List.mem_of_getElem? (i := 893) (by decide +kernel), List.mem_of_getElem? (i := 1300) (by decide +kernel), List.mem_of_getElem? (i := 1301) (by decide +kernel)⟩
theorem lw_p71 : lw_okq (⟨"WashLineModel", "leaf", "()V"⟩, 52) := ⟨⟨by decide +kernel, by decide +kernel⟩, List.mem_of_getElem? (i := 893) (by decide +kernel), List.mem_of_getElem? (i := 1304) (by decide +kernel), List.mem_of_getElem? (i := 1305) (by decide +kernel)⟩
theorem lw_p72 : lw_okq (⟨"WashLineModel", "mustNumber", "(II)V"⟩, 52) := ⟨⟨by decide +kernel, by decide +kernel⟩, List.mem_of_getElem? (i := 893) (by decide +kernel), List.mem_of_getElem? (i := 1308) (by decide +kernel), List.mem_of_getElem? (i := 1309) (by decide +kernel)⟩
theorem lw_p73 : lw_okq (⟨"WashLineModel", "readTest", "(I)V"⟩, 52) := ⟨⟨by decide +kernel, by decide +kernel⟩, List.mem_of_getElem? (i := 893) (by decide +kernel), List.mem_of_getElem? (i := 1312) (by decide +kernel), List.mem_of_getElem? (i := 1313) (by decide +kernel)⟩
theorem lw_p74 : lw_okq (⟨"WashLineModel", "readBoth", "(I)V"⟩, 52) := ⟨⟨by decide +kernel, by decide +kernel⟩, List.mem_of_getElem? (i := 893) (by decide +kernel), List.mem_of_getElem? (i := 1316) (by decide +kernel), List.mem_of_getElem? (i := 1317) (by decide +kernel)⟩
theorem lw_p75 : lw_okq (⟨"WashLineModel", "readPlain", "(I)V"⟩, 52) := ⟨⟨by decide +kernel, by decide +kernel⟩, List.mem_of_getElem? (i := 893) (by decide +kernel), List.mem_of_getElem? (i := 1320) (by decide +kernel), List.mem_of_getElem? (i := 1321) (by decide +kernel)⟩
theorem lw_p76 : lw_okq (⟨"WashLineModel", "readClause", "()V"⟩, 52) := ⟨⟨by decide +kernel, by decide +kernel⟩, List.mem_of_getElem? (i := 893) (by decide +kernel), List.mem_of_getElem? (i := 1324) (by decide +kernel), List.mem_of_getElem? (i := 1325) (by decide +kernel)⟩
theorem lw_p77 : lw_okq (⟨"WashLineModel", "lays", "(I)V"⟩, 52) := ⟨⟨by decide +kernel, by decide +kernel⟩, List.mem_of_getElem? (i := 893) (by decide +kernel), List.mem_of_getElem? (i := 1328) (by decide +kernel), List.mem_of_getElem? (i := 1329) (by decide +kernel)⟩
theorem lw_p78 : lw_okq (⟨"WashLineModel", "isLaw", "(I)Z"⟩, 52) := ⟨⟨by decide +kernel, by decide +kernel⟩, List.mem_of_getElem? (i := 893) (by decide +kernel), List.mem_of_getElem? (i := 1340) (by decide +kernel), List.mem_of_getElem? (i := 1341) (by decide +kernel)⟩
theorem lw_p79 : lw_okq (⟨"WashLineModel", "laysRead", "(I)Z"⟩, 52) := ⟨⟨by decide +kernel, by decide +kernel⟩, List.mem_of_getElem? (i := 893) (by decide +kernel), List.mem_of_getElem? (i := 1349) (by decide +kernel), List.mem_of_getElem? (i := 1350) (by decide +kernel)⟩
def lw_privs_5 : List (MethodName × Nat) := [(⟨"WashLineModel", "takes0", "(I)Z"⟩, 52), (⟨"WashLineModel", "fine", "()Z"⟩, 52), (⟨"WashLineModel", "readSum", "(I)V"⟩, 52), (⟨"WashLineModel", "readTerm", "(I)V"⟩, 52), (⟨"WashLineModel", "readPart", "(I)V"⟩, 52), (⟨"WashLineModel", "faults", "()V"⟩, 52), (⟨"WashLineModel", "must", "(I)V"⟩, 52), (⟨"WashLineModel", "leaf", "()V"⟩, 52), (⟨"WashLineModel", "mustNumber", "(II)V"⟩, 52), (⟨"WashLineModel", "readTest", "(I)V"⟩, 52), (⟨"WashLineModel", "readBoth", "(I)V"⟩, 52), (⟨"WashLineModel", "readPlain", "(I)V"⟩, 52), (⟨"WashLineModel", "readClause", "()V"⟩, 52), (⟨"WashLineModel", "lays", "(I)V"⟩, 52), (⟨"WashLineModel", "isLaw", "(I)Z"⟩, 52), (⟨"WashLineModel", "laysRead", "(I)Z"⟩, 52)]
theorem lw_r5 : ∀ q ∈ lw_privs_5, lw_okq q := List.forall_mem_cons.mpr ⟨lw_p64, List.forall_mem_cons.mpr ⟨lw_p65, List.forall_mem_cons.mpr ⟨lw_p66, List.forall_mem_cons.mpr ⟨lw_p67, List.forall_mem_cons.mpr ⟨lw_p68, List.forall_mem_cons.mpr ⟨lw_p69, List.forall_mem_cons.mpr ⟨lw_p70, List.forall_mem_cons.mpr ⟨lw_p71, List.forall_mem_cons.mpr ⟨lw_p72, List.forall_mem_cons.mpr ⟨lw_p73, List.forall_mem_cons.mpr ⟨lw_p74, List.forall_mem_cons.mpr ⟨lw_p75, List.forall_mem_cons.mpr ⟨lw_p76, List.forall_mem_cons.mpr ⟨lw_p77, List.forall_mem_cons.mpr ⟨lw_p78, List.forall_mem_cons.mpr ⟨lw_p79, fun _ h => absurd h List.not_mem_nil⟩⟩⟩⟩⟩⟩⟩⟩⟩⟩⟩⟩⟩⟩⟩⟩
theorem lw_p80 : lw_okq (⟨"WashLineModel", "laysLeast", "(Z)V"⟩, 52) := ⟨⟨by decide +kernel, by decide +kernel⟩, List.mem_of_getElem? (i := 893) (by decide +kernel), List.mem_of_getElem? (i := 1353) (by decide +kernel), List.mem_of_getElem? (i := 1354) (by decide +kernel)⟩
theorem lw_p81 : lw_okq (⟨"WashLineModel", "leastWith", "(IIZ)I"⟩, 52) := ⟨⟨by decide +kernel, by decide +kernel⟩, List.mem_of_getElem? (i := 893) (by decide +kernel), List.mem_of_getElem? (i := 1357) (by decide +kernel), List.mem_of_getElem? (i := 1358) (by decide +kernel)⟩
theorem lw_p82 : lw_okq (⟨"WashLineModel", "howMany", "(Z)I"⟩, 52) := ⟨⟨by decide +kernel, by decide +kernel⟩, List.mem_of_getElem? (i := 893) (by decide +kernel), List.mem_of_getElem? (i := 1364) (by decide +kernel), List.mem_of_getElem? (i := 1365) (by decide +kernel)⟩
theorem lw_p83 : lw_okq (⟨"WashLineModel", "signFrom", "(IZ)I"⟩, 52) := ⟨⟨by decide +kernel, by decide +kernel⟩, List.mem_of_getElem? (i := 893) (by decide +kernel), List.mem_of_getElem? (i := 1368) (by decide +kernel), List.mem_of_getElem? (i := 1369) (by decide +kernel)⟩
theorem lw_p84 : lw_okq (⟨"WashLineModel", "signAt", "(IZ)I"⟩, 52) := ⟨⟨by decide +kernel, by decide +kernel⟩, List.mem_of_getElem? (i := 893) (by decide +kernel), List.mem_of_getElem? (i := 1372) (by decide +kernel), List.mem_of_getElem? (i := 1373) (by decide +kernel)⟩
theorem lw_p85 : lw_okq (⟨"WashLineModel", "stateThen", "(I)I"⟩, 52) := ⟨⟨by decide +kernel, by decide +kernel⟩, List.mem_of_getElem? (i := 893) (by decide +kernel), List.mem_of_getElem? (i := 1388) (by decide +kernel), List.mem_of_getElem? (i := 1389) (by decide +kernel)⟩
theorem lw_p86 : lw_okq (⟨"WashLineModel", "stateNow", "(I)I"⟩, 52) := ⟨⟨by decide +kernel, by decide +kernel⟩, List.mem_of_getElem? (i := 893) (by decide +kernel), List.mem_of_getElem? (i := 1392) (by decide +kernel), List.mem_of_getElem? (i := 1393) (by decide +kernel)⟩
theorem lw_p87 : lw_okq (⟨"WashLineModel", "stateBehind", "(III)I"⟩, 52) := ⟨⟨by decide +kernel, by decide +kernel⟩, List.mem_of_getElem? (i := 893) (by decide +kernel), List.mem_of_getElem? (i := 1399) (by decide +kernel), List.mem_of_getElem? (i := 1400) (by decide +kernel)⟩
theorem lw_p88 : lw_okq (⟨"WashLineModel", "laysPlan", "(II)V"⟩, 52) := ⟨⟨by decide +kernel, by decide +kernel⟩, List.mem_of_getElem? (i := 893) (by decide +kernel), List.mem_of_getElem? (i := 1418) (by decide +kernel), List.mem_of_getElem? (i := 1419) (by decide +kernel)⟩
theorem lw_p89 : lw_okq (⟨"WashLineModel", "leftWith", "(II)I"⟩, 52) := ⟨⟨by decide +kernel, by decide +kernel⟩, List.mem_of_getElem? (i := 893) (by decide +kernel), List.mem_of_getElem? (i := 1422) (by decide +kernel), List.mem_of_getElem? (i := 1423) (by decide +kernel)⟩
theorem lw_p90 : lw_okq (⟨"WashLineModel", "twofoldOf", "(I)I"⟩, 52) := ⟨⟨by decide +kernel, by decide +kernel⟩, List.mem_of_getElem? (i := 893) (by decide +kernel), List.mem_of_getElem? (i := 1430) (by decide +kernel), List.mem_of_getElem? (i := 1431) (by decide +kernel)⟩
theorem lw_p91 : lw_okq (⟨"WashLineModel", "begins", "(I)V"⟩, 52) := ⟨⟨by decide +kernel, by decide +kernel⟩, List.mem_of_getElem? (i := 893) (by decide +kernel), List.mem_of_getElem? (i := 1434) (by decide +kernel), List.mem_of_getElem? (i := 1435) (by decide +kernel)⟩
theorem lw_p92 : lw_okq (⟨"WashLineModel", "restOf", "(II)I"⟩, 52) := ⟨⟨by decide +kernel, by decide +kernel⟩, List.mem_of_getElem? (i := 893) (by decide +kernel), List.mem_of_getElem? (i := 1441) (by decide +kernel), List.mem_of_getElem? (i := 1442) (by decide +kernel)⟩
theorem lw_p93 : lw_okq (⟨"WashLineModel", "areAlike", "(II)Z"⟩, 52) := ⟨⟨by decide +kernel, by decide +kernel⟩, List.mem_of_getElem? (i := 893) (by decide +kernel), List.mem_of_getElem? (i := 1445) (by decide +kernel), List.mem_of_getElem? (i := 1446) (by decide +kernel)⟩
theorem lw_p94 : lw_okq (⟨"WashLineModel", "comesNear", "(II)Z"⟩, 52) := ⟨⟨by decide +kernel, by decide +kernel⟩, List.mem_of_getElem? (i := 893) (by decide +kernel), List.mem_of_getElem? (i := 1455) (by decide +kernel), List.mem_of_getElem? (i := 1456) (by decide +kernel)⟩
theorem lw_p95 : lw_okq (⟨"WashLineModel", "goesOnWith", "(II)Z"⟩, 52) := ⟨⟨by decide +kernel, by decide +kernel⟩, List.mem_of_getElem? (i := 893) (by decide +kernel), List.mem_of_getElem? (i := 1459) (by decide +kernel), List.mem_of_getElem? (i := 1460) (by decide +kernel)⟩
def lw_privs_6 : List (MethodName × Nat) := [(⟨"WashLineModel", "laysLeast", "(Z)V"⟩, 52), (⟨"WashLineModel", "leastWith", "(IIZ)I"⟩, 52), (⟨"WashLineModel", "howMany", "(Z)I"⟩, 52), (⟨"WashLineModel", "signFrom", "(IZ)I"⟩, 52), (⟨"WashLineModel", "signAt", "(IZ)I"⟩, 52), (⟨"WashLineModel", "stateThen", "(I)I"⟩, 52), (⟨"WashLineModel", "stateNow", "(I)I"⟩, 52), (⟨"WashLineModel", "stateBehind", "(III)I"⟩, 52), (⟨"WashLineModel", "laysPlan", "(II)V"⟩, 52), (⟨"WashLineModel", "leftWith", "(II)I"⟩, 52), (⟨"WashLineModel", "twofoldOf", "(I)I"⟩, 52), (⟨"WashLineModel", "begins", "(I)V"⟩, 52), (⟨"WashLineModel", "restOf", "(II)I"⟩, 52), (⟨"WashLineModel", "areAlike", "(II)Z"⟩, 52), (⟨"WashLineModel", "comesNear", "(II)Z"⟩, 52), (⟨"WashLineModel", "goesOnWith", "(II)Z"⟩, 52)]
theorem lw_r6 : ∀ q ∈ lw_privs_6, lw_okq q := List.forall_mem_cons.mpr ⟨lw_p80, List.forall_mem_cons.mpr ⟨lw_p81, List.forall_mem_cons.mpr ⟨lw_p82, List.forall_mem_cons.mpr ⟨lw_p83, List.forall_mem_cons.mpr ⟨lw_p84, List.forall_mem_cons.mpr ⟨lw_p85, List.forall_mem_cons.mpr ⟨lw_p86, List.forall_mem_cons.mpr ⟨lw_p87, List.forall_mem_cons.mpr ⟨lw_p88, List.forall_mem_cons.mpr ⟨lw_p89, List.forall_mem_cons.mpr ⟨lw_p90, List.forall_mem_cons.mpr ⟨lw_p91, List.forall_mem_cons.mpr ⟨lw_p92, List.forall_mem_cons.mpr ⟨lw_p93, List.forall_mem_cons.mpr ⟨lw_p94, List.forall_mem_cons.mpr ⟨lw_p95, fun _ h => absurd h List.not_mem_nil⟩⟩⟩⟩⟩⟩⟩⟩⟩⟩⟩⟩⟩⟩⟩⟩
theorem lw_p96 : lw_okq (⟨"WashLineModel", "hangsKept", "(I)I"⟩, 52) := ⟨⟨by decide +kernel, by decide +kernel⟩, List.mem_of_getElem? (i := 893) (by decide +kernel), List.mem_of_getElem? (i := 1504) (by decide +kernel), List.mem_of_getElem? (i := 1505) (by decide +kernel)⟩
theorem lw_p97 : lw_okq (⟨"WashLineModel", "keeps", "(I)V"⟩, 52) := ⟨⟨by decide +kernel, by decide +kernel⟩, List.mem_of_getElem? (i := 893) (by decide +kernel), List.mem_of_getElem? (i := 1508) (by decide +kernel), List.mem_of_getElem? (i := 1509) (by decide +kernel)⟩
theorem lw_p98 : lw_okq (⟨"WashLineModel", "hangs", "(I)V"⟩, 52) := ⟨⟨by decide +kernel, by decide +kernel⟩, List.mem_of_getElem? (i := 893) (by decide +kernel), List.mem_of_getElem? (i := 1512) (by decide +kernel), List.mem_of_getElem? (i := 1513) (by decide +kernel)⟩
theorem lw_p99 : lw_okq (⟨"WashLineModel", "goodOr", "(I)I"⟩, 52) := ⟨⟨by decide +kernel, by decide +kernel⟩, List.mem_of_getElem? (i := 893) (by decide +kernel), List.mem_of_getElem? (i := 1516) (by decide +kernel), List.mem_of_getElem? (i := 1517) (by decide +kernel)⟩
theorem lw_p100 : lw_okq (⟨"WashLineModel", "takesKept", "()I"⟩, 52) := ⟨⟨by decide +kernel, by decide +kernel⟩, List.mem_of_getElem? (i := 893) (by decide +kernel), List.mem_of_getElem? (i := 1524) (by decide +kernel), List.mem_of_getElem? (i := 1525) (by decide +kernel)⟩
theorem lw_p101 : lw_okq (⟨"WashLineModel", "sailsKept", "(I)I"⟩, 52) := ⟨⟨by decide +kernel, by decide +kernel⟩, List.mem_of_getElem? (i := 893) (by decide +kernel), List.mem_of_getElem? (i := 1532) (by decide +kernel), List.mem_of_getElem? (i := 1533) (by decide +kernel)⟩
theorem lw_p102 : lw_okq (⟨"WashLineModel", "movesTo", "(II)V"⟩, 52) := ⟨⟨by decide +kernel, by decide +kernel⟩, List.mem_of_getElem? (i := 893) (by decide +kernel), List.mem_of_getElem? (i := 1537) (by decide +kernel), List.mem_of_getElem? (i := 1538) (by decide +kernel)⟩
theorem lw_p103 : lw_okq (⟨"WashLineModel", "passesKept", "()I"⟩, 52) := ⟨⟨by decide +kernel, by decide +kernel⟩, List.mem_of_getElem? (i := 893) (by decide +kernel), List.mem_of_getElem? (i := 1545) (by decide +kernel), List.mem_of_getElem? (i := 1546) (by decide +kernel)⟩
theorem lw_p104 : lw_okq (⟨"WashLineModel", "laysAside", "(I)V"⟩, 52) := ⟨⟨by decide +kernel, by decide +kernel⟩, List.mem_of_getElem? (i := 893) (by decide +kernel), List.mem_of_getElem? (i := 1557) (by decide +kernel), List.mem_of_getElem? (i := 1558) (by decide +kernel)⟩
theorem lw_p105 : lw_okq (⟨"WashLineModel", "runs", "(I)Z"⟩, 52) := ⟨⟨by decide +kernel, by decide +kernel⟩, List.mem_of_getElem? (i := 893) (by decide +kernel), List.mem_of_getElem? (i := 1561) (by decide +kernel), List.mem_of_getElem? (i := 1562) (by decide +kernel)⟩
theorem lw_p106 : lw_okq (⟨"WashLineModel", "goesAlong", "(IZ)V"⟩, 52) := ⟨⟨by decide +kernel, by decide +kernel⟩, List.mem_of_getElem? (i := 893) (by decide +kernel), List.mem_of_getElem? (i := 1565) (by decide +kernel), List.mem_of_getElem? (i := 1566) (by decide +kernel)⟩
theorem lw_p107 : lw_okq (⟨"WashLineModel", "obeys", "()I"⟩, 52) := ⟨⟨by decide +kernel, by decide +kernel⟩, List.mem_of_getElem? (i := 893) (by decide +kernel), List.mem_of_getElem? (i := 1569) (by decide +kernel), List.mem_of_getElem? (i := 1570) (by decide +kernel)⟩
theorem lw_p108 : lw_okq (⟨"WashLineModel", "takesBack", "(I)V"⟩, 52) := ⟨⟨by decide +kernel, by decide +kernel⟩, List.mem_of_getElem? (i := 893) (by decide +kernel), List.mem_of_getElem? (i := 1577) (by decide +kernel), List.mem_of_getElem? (i := 1578) (by decide +kernel)⟩
theorem lw_p109 : lw_okq (⟨"WashLineModel", "dayIsDrawn", "()Z"⟩, 52) := ⟨⟨by decide +kernel, by decide +kernel⟩, List.mem_of_getElem? (i := 893) (by decide +kernel), List.mem_of_getElem? (i := 1585) (by decide +kernel), List.mem_of_getElem? (i := 1586) (by decide +kernel)⟩
theorem lw_p110 : lw_okq (⟨"WashLineModel", "draws", "(I)I"⟩, 52) := ⟨⟨by decide +kernel, by decide +kernel⟩, List.mem_of_getElem? (i := 893) (by decide +kernel), List.mem_of_getElem? (i := 1589) (by decide +kernel), List.mem_of_getElem? (i := 1590) (by decide +kernel)⟩
def lw_privs_7 : List (MethodName × Nat) := [(⟨"WashLineModel", "hangsKept", "(I)I"⟩, 52), (⟨"WashLineModel", "keeps", "(I)V"⟩, 52), (⟨"WashLineModel", "hangs", "(I)V"⟩, 52), (⟨"WashLineModel", "goodOr", "(I)I"⟩, 52), (⟨"WashLineModel", "takesKept", "()I"⟩, 52), (⟨"WashLineModel", "sailsKept", "(I)I"⟩, 52), (⟨"WashLineModel", "movesTo", "(II)V"⟩, 52), (⟨"WashLineModel", "passesKept", "()I"⟩, 52), (⟨"WashLineModel", "laysAside", "(I)V"⟩, 52), (⟨"WashLineModel", "runs", "(I)Z"⟩, 52), (⟨"WashLineModel", "goesAlong", "(IZ)V"⟩, 52), (⟨"WashLineModel", "obeys", "()I"⟩, 52), (⟨"WashLineModel", "takesBack", "(I)V"⟩, 52), (⟨"WashLineModel", "dayIsDrawn", "()Z"⟩, 52), (⟨"WashLineModel", "draws", "(I)I"⟩, 52)]
theorem lw_r7 : ∀ q ∈ lw_privs_7, lw_okq q := List.forall_mem_cons.mpr ⟨lw_p96, List.forall_mem_cons.mpr ⟨lw_p97, List.forall_mem_cons.mpr ⟨lw_p98, List.forall_mem_cons.mpr ⟨lw_p99, List.forall_mem_cons.mpr ⟨lw_p100, List.forall_mem_cons.mpr ⟨lw_p101, List.forall_mem_cons.mpr ⟨lw_p102, List.forall_mem_cons.mpr ⟨lw_p103, List.forall_mem_cons.mpr ⟨lw_p104, List.forall_mem_cons.mpr ⟨lw_p105, List.forall_mem_cons.mpr ⟨lw_p106, List.forall_mem_cons.mpr ⟨lw_p107, List.forall_mem_cons.mpr ⟨lw_p108, List.forall_mem_cons.mpr ⟨lw_p109, List.forall_mem_cons.mpr ⟨lw_p110, fun _ h => absurd h List.not_mem_nil⟩⟩⟩⟩⟩⟩⟩⟩⟩⟩⟩⟩⟩⟩⟩
def lw_privs : List (MethodName × Nat) := lw_privs_1 ++ (lw_privs_2 ++ (lw_privs_3 ++ (lw_privs_4 ++ (lw_privs_5 ++ (lw_privs_6 ++ (lw_privs_7))))))
def lw_tbl : List Cond := k2_sels lw_privs ++ tables_1
theorem lw_privs_ok : ∀ q ∈ lw_privs, lw_okq q := by
  show ∀ q ∈ lw_privs_1 ++ (lw_privs_2 ++ (lw_privs_3 ++ (lw_privs_4 ++ (lw_privs_5 ++ (lw_privs_6 ++ (lw_privs_7)))))), lw_okq q
  exact List.forall_mem_append.mpr ⟨lw_r1, List.forall_mem_append.mpr ⟨lw_r2, List.forall_mem_append.mpr ⟨lw_r3, List.forall_mem_append.mpr ⟨lw_r4, List.forall_mem_append.mpr ⟨lw_r5, List.forall_mem_append.mpr ⟨lw_r6, lw_r7⟩⟩⟩⟩⟩⟩

def RX0 : String := "WashLine$Captain"
def TX0 : u_T := fun k => match k with
  | 0 => ("WashLine$Captain", "machine", "LWashLine$Machine;", true)
  | 1 => ("WashLine$Captain", "words", "[I", true)
  | 2 => ("WashLine$Captain", "weights", "[I", true)
  | 3 => ("WashLine$Captain", "onward", "[I", true)
  | 4 => ("WashLine$Captain", "picked", "[I", true)
  | 5 => ("WashLine$Captain", "length", "I", false)
  | 6 => ("WashLine$Captain", "price", "I", false)
  | 7 => ("WashLine$Captain", "law", "LWashLine$Text;", false)
  | _ => ("WashLine$Captain", "spot", "I", false)
def tyX0 : Nat → FieldType := fun k => match k with
  | 0 => .object "WashLine$Machine"
  | 1 => .array .int
  | 2 => .array .int
  | 3 => .array .int
  | 4 => .array .int
  | 5 => .int
  | 6 => .int
  | 7 => .object "WashLine$Text"
  | _ => .int

theorem nmX0 : ∀ a, a < 9 → ∀ b, b < 9 → a ≠ b → (TX0 a).2.1 ≠ (TX0 b).2.1 := by decide +kernel

theorem tyX0_ok : ∀ k, k < 9 → parseFieldDescriptor (TX0 k).2.2.1 = some (tyX0 k) := by decide +kernel

def RX1 : String := "WashLine$Codebook"
def TX1 : u_T := fun k => match k with
  | 0 => ("WashLine$Codebook", "codes", "[I", true)
  | 1 => ("WashLine$Codebook", "cloths", "[I", true)
  | 2 => ("WashLine$Codebook", "leads", "[I", true)
  | _ => ("WashLine$Codebook", "many", "I", false)
def tyX1 : Nat → FieldType := fun k => match k with
  | 0 => .array .int
  | 1 => .array .int
  | 2 => .array .int
  | _ => .int

theorem nmX1 : ∀ a, a < 4 → ∀ b, b < 4 → a ≠ b → (TX1 a).2.1 ≠ (TX1 b).2.1 := by decide +kernel

theorem tyX1_ok : ∀ k, k < 4 → parseFieldDescriptor (TX1 k).2.2.1 = some (tyX1 k) := by decide +kernel

def RX2 : String := "WashLine$Course"
def TX2 : u_T := fun k => match k with
  | 0 => ("WashLine$Course", "far", "[I", true)
  | 1 => ("WashLine$Course", "reached", "[I", true)
  | 2 => ("WashLine$Course", "many", "I", false)
  | 3 => ("WashLine$Course", "begins", "[I", true)
  | _ => ("WashLine$Course", "habits", "[I", true)
def tyX2 : Nat → FieldType := fun k => match k with
  | 0 => .array .int
  | 1 => .array .int
  | 2 => .int
  | 3 => .array .int
  | _ => .array .int

theorem nmX2 : ∀ a, a < 5 → ∀ b, b < 5 → a ≠ b → (TX2 a).2.1 ≠ (TX2 b).2.1 := by decide +kernel

theorem tyX2_ok : ∀ k, k < 5 → parseFieldDescriptor (TX2 k).2.2.1 = some (tyX2 k) := by decide +kernel

def RX3 : String := "WashLine$Machine"
def TX3 : u_T := fun k => match k with
  | _ => ("WashLine$Machine", "stack", "[J", true)
def tyX3 : Nat → FieldType := fun k => match k with
  | _ => .array .long

theorem nmX3 : ∀ a, a < 1 → ∀ b, b < 1 → a ≠ b → (TX3 a).2.1 ≠ (TX3 b).2.1 := by decide +kernel

theorem tyX3_ok : ∀ k, k < 1 → parseFieldDescriptor (TX3 k).2.2.1 = some (tyX3 k) := by decide +kernel

def RX4 : String := "WashLine$Reader"
def TX4 : u_T := fun k => match k with
  | 0 => ("WashLine$Reader", "draft", "LWashLine$Text;", true)
  | 1 => ("WashLine$Reader", "faultAt", "I", false)
  | 2 => ("WashLine$Reader", "tape", "[I", false)
  | 3 => ("WashLine$Reader", "length", "I", false)
  | 4 => ("WashLine$Reader", "second", "Z", false)
  | 5 => ("WashLine$Reader", "parts", "I", false)
  | 6 => ("WashLine$Reader", "mark", "I", false)
  | 7 => ("WashLine$Reader", "start", "I", false)
  | 8 => ("WashLine$Reader", "stop", "I", false)
  | _ => ("WashLine$Reader", "number", "I", false)
def tyX4 : Nat → FieldType := fun k => match k with
  | 0 => .object "WashLine$Text"
  | 1 => .int
  | 2 => .array .int
  | 3 => .int
  | 4 => .boolean
  | 5 => .int
  | 6 => .int
  | 7 => .int
  | 8 => .int
  | _ => .int

theorem nmX4 : ∀ a, a < 10 → ∀ b, b < 10 → a ≠ b → (TX4 a).2.1 ≠ (TX4 b).2.1 := by decide +kernel

theorem tyX4_ok : ∀ k, k < 10 → parseFieldDescriptor (TX4 k).2.2.1 = some (tyX4 k) := by decide +kernel

def RX5 : String := "WashLine$State"
def TX5 : u_T := fun k => match k with
  | 0 => ("WashLine$State", "signs", "I", false)
  | 1 => ("WashLine$State", "rowOf", "[I", true)
  | 2 => ("WashLine$State", "longOf", "[I", true)
  | 3 => ("WashLine$State", "meansOf", "[I", true)
  | 4 => ("WashLine$State", "ships", "I", false)
  | 5 => ("WashLine$State", "spotOf", "[I", true)
  | 6 => ("WashLine$State", "hung", "I", false)
  | 7 => ("WashLine$State", "cloths", "I", false)
  | 8 => ("WashLine$State", "done", "I", false)
  | 9 => ("WashLine$State", "doneOf", "[I", true)
  | 10 => ("WashLine$State", "laws", "I", false)
  | 11 => ("WashLine$State", "lawOf", "[LWashLine$Text;", true)
  | 12 => ("WashLine$State", "inForce", "I", false)
  | 13 => ("WashLine$State", "termOf", "[I", true)
  | 14 => ("WashLine$State", "acts", "I", false)
  | _ => ("WashLine$State", "actOf", "[I", true)
def tyX5 : Nat → FieldType := fun k => match k with
  | 0 => .int
  | 1 => .array .int
  | 2 => .array .int
  | 3 => .array .int
  | 4 => .int
  | 5 => .array .int
  | 6 => .int
  | 7 => .int
  | 8 => .int
  | 9 => .array .int
  | 10 => .int
  | 11 => .array (.object "WashLine$Text")
  | 12 => .int
  | 13 => .array .int
  | 14 => .int
  | _ => .array .int

theorem nmX5 : ∀ a, a < 16 → ∀ b, b < 16 → a ≠ b → (TX5 a).2.1 ≠ (TX5 b).2.1 := by decide +kernel

theorem tyX5_ok : ∀ k, k < 16 → parseFieldDescriptor (TX5 k).2.2.1 = some (tyX5 k) := by decide +kernel

def RX6 : String := "WashLine$Text"
def TX6 : u_T := fun k => match k with
  | 0 => ("WashLine$Text", "clauses", "I", false)
  | 1 => ("WashLine$Text", "size", "I", false)
  | 2 => ("WashLine$Text", "code", "[I", true)
  | _ => ("WashLine$Text", "heads", "[I", true)
def tyX6 : Nat → FieldType := fun k => match k with
  | 0 => .int
  | 1 => .int
  | 2 => .array .int
  | _ => .array .int

theorem nmX6 : ∀ a, a < 4 → ∀ b, b < 4 → a ≠ b → (TX6 a).2.1 ≠ (TX6 b).2.1 := by decide +kernel

theorem tyX6_ok : ∀ k, k < 4 → parseFieldDescriptor (TX6 k).2.2.1 = some (tyX6 k) := by decide +kernel

def RX7 : String := "WashLine"
def TX7 : u_T := fun k => match k with
  | 0 => ("WashLine", "now", "LWashLine$State;", true)
  | 1 => ("WashLine", "before", "LWashLine$State;", true)
  | 2 => ("WashLine", "paper", "LWashLine$State;", true)
  | 3 => ("WashLine", "images", "[LWashLine$State;", true)
  | 4 => ("WashLine", "kept", "[Z", true)
  | 5 => ("WashLine", "tape", "[I", true)
  | 6 => ("WashLine", "bytes", "I", false)
  | 7 => ("WashLine", "reader", "LWashLine$Reader;", true)
  | 8 => ("WashLine", "machine", "LWashLine$Machine;", true)
  | 9 => ("WashLine", "words", "[I", true)
  | 10 => ("WashLine", "captain", "LWashLine$Captain;", true)
  | 11 => ("WashLine", "course", "LWashLine$Course;", true)
  | 12 => ("WashLine", "codebook", "LWashLine$Codebook;", true)
  | 13 => ("WashLine", "sums", "[J", true)
  | 14 => ("WashLine", "faultPlace", "I", false)
  | 15 => ("WashLine", "soapTimes", "I", false)
  | 16 => ("WashLine", "stoppedAt", "I", false)
  | 17 => ("WashLine", "refusals", "[I", true)
  | _ => ("WashLine", "refusedBy", "I", false)
def tyX7 : Nat → FieldType := fun k => match k with
  | 0 => .object "WashLine$State"
  | 1 => .object "WashLine$State"
  | 2 => .object "WashLine$State"
  | 3 => .array (.object "WashLine$State")
  | 4 => .array .boolean
  | 5 => .array .int
  | 6 => .int
  | 7 => .object "WashLine$Reader"
  | 8 => .object "WashLine$Machine"
  | 9 => .array .int
  | 10 => .object "WashLine$Captain"
  | 11 => .object "WashLine$Course"
  | 12 => .object "WashLine$Codebook"
  | 13 => .array .long
  | 14 => .int
  | 15 => .int
  | 16 => .int
  | 17 => .array .int
  | _ => .int

theorem nmX7 : ∀ a, a < 19 → ∀ b, b < 19 → a ≠ b → (TX7 a).2.1 ≠ (TX7 b).2.1 := by decide +kernel

theorem tyX7_ok : ∀ k, k < 19 → parseFieldDescriptor (TX7 k).2.2.1 = some (tyX7 k) := by decide +kernel

def RX8 : String := "WashLineModel"
def TX8 : u_T := fun k => match k with
  | 0 => ("WashLineModel", "status", "I", false)
  | 1 => ("WashLineModel", "refused", "[I", true)
  | 2 => ("WashLineModel", "kept", "[I", true)
  | 3 => ("WashLineModel", "images", "[I", true)
  | 4 => ("WashLineModel", "hasImage", "[Z", true)
  | 5 => ("WashLineModel", "aside", "[I", true)
  | 6 => ("WashLineModel", "soap0", "I", false)
  | 7 => ("WashLineModel", "words", "[B", true)
  | 8 => ("WashLineModel", "firstWord", "I", false)
  | 9 => ("WashLineModel", "lastWord", "I", false)
  | 10 => ("WashLineModel", "isOrders", "Z", false)
  | 11 => ("WashLineModel", "tape", "[B", true)
  | 12 => ("WashLineModel", "five", "[I", true)
  | 13 => ("WashLineModel", "taped", "I", false)
  | 14 => ("WashLineModel", "fault", "I", false)
  | 15 => ("WashLineModel", "code", "[I", true)
  | 16 => ("WashLineModel", "value", "[I", true)
  | 17 => ("WashLineModel", "placed", "[I", true)
  | 18 => ("WashLineModel", "tokens", "I", false)
  | 19 => ("WashLineModel", "token", "I", false)
  | 20 => ("WashLineModel", "leaves", "I", false)
  | 21 => ("WashLineModel", "bad", "I", false)
  | 22 => ("WashLineModel", "go", "I", false)
  | 23 => ("WashLineModel", "goEnd", "I", false)
  | 24 => ("WashLineModel", "broken", "Z", false)
  | 25 => ("WashLineModel", "inOrders", "Z", false)
  | 26 => ("WashLineModel", "asked", "[I", true)
  | 27 => ("WashLineModel", "orderDone", "I", false)
  | 28 => ("WashLineModel", "orderLatest", "I", false)
  | 29 => ("WashLineModel", "manyFrom", "[I", true)
  | 30 => ("WashLineModel", "leastFrom", "[I", true)
  | 31 => ("WashLineModel", "weigh", "[I", true)
  | 32 => ("WashLineModel", "read", "[I", true)
  | 33 => ("WashLineModel", "behind", "[I", true)
  | 34 => ("WashLineModel", "left", "[I", true)
  | 35 => ("WashLineModel", "aheadBy", "[I", true)
  | 36 => ("WashLineModel", "rowsOf", "[J", true)
  | 37 => ("WashLineModel", "fitFrom", "[I", true)
  | 38 => ("WashLineModel", "shares", "[J", true)
  | 39 => ("WashLineModel", "left0", "[I", true)
  | 40 => ("WashLineModel", "leftAhead", "[I", true)
  | 41 => ("WashLineModel", "undoMany", "I", false)
  | 42 => ("WashLineModel", "stopped0", "I", false)
  | 43 => ("WashLineModel", "orderAt", "I", false)
  | 44 => ("WashLineModel", "howOften", "I", false)
  | 45 => ("WashLineModel", "head", "I", false)
  | 46 => ("WashLineModel", "sumsAre", "Z", false)
  | 47 => ("WashLineModel", "testIs", "Z", false)
  | 48 => ("WashLineModel", "sumNow", "J", false)
  | 49 => ("WashLineModel", "drawnMoved", "[I", true)
  | 50 => ("WashLineModel", "drawnMany", "I", false)
  | _ => ("WashLineModel", "latest", "I", false)
def tyX8 : Nat → FieldType := fun k => match k with
  | 0 => .int
  | 1 => .array .int
  | 2 => .array .int
  | 3 => .array .int
  | 4 => .array .boolean
  | 5 => .array .int
  | 6 => .int
  | 7 => .array .byte
  | 8 => .int
  | 9 => .int
  | 10 => .boolean
  | 11 => .array .byte
  | 12 => .array .int
  | 13 => .int
  | 14 => .int
  | 15 => .array .int
  | 16 => .array .int
  | 17 => .array .int
  | 18 => .int
  | 19 => .int
  | 20 => .int
  | 21 => .int
  | 22 => .int
  | 23 => .int
  | 24 => .boolean
  | 25 => .boolean
  | 26 => .array .int
  | 27 => .int
  | 28 => .int
  | 29 => .array .int
  | 30 => .array .int
  | 31 => .array .int
  | 32 => .array .int
  | 33 => .array .int
  | 34 => .array .int
  | 35 => .array .int
  | 36 => .array .long
  | 37 => .array .int
  | 38 => .array .long
  | 39 => .array .int
  | 40 => .array .int
  | 41 => .int
  | 42 => .int
  | 43 => .int
  | 44 => .int
  | 45 => .int
  | 46 => .boolean
  | 47 => .boolean
  | 48 => .long
  | 49 => .array .int
  | 50 => .int
  | _ => .int

theorem nmX8 : ∀ a, a < 52 → ∀ b, b < 52 → a ≠ b → (TX8 a).2.1 ≠ (TX8 b).2.1 := by decide +kernel

theorem tyX8_ok : ∀ k, k < 52 → parseFieldDescriptor (TX8 k).2.2.1 = some (tyX8 k) := by decide +kernel

def mk_LT : List Cond := Cond.code x code maxLocals ret :: lw_tbl
def mk_TB : List Cond := mk_LT.filter mm_kp
def mk_cl : List vw_C := [(RX0, TX0, 9), (RX1, TX1, 4), (RX2, TX2, 5), (RX3, TX3, 1), (RX4, TX4, 10), (RX5, TX5, 16), (RX6, TX6, 4), (RX7, TX7, 19), (RX8, TX8, 52)]
def mk_G : List (List Value) := [[.null, .null, .null, .null, .null, .int 0, .int 0, .null, .int 0],
  [.null, .null, .null, .int 0],
  [.null, .null, .int 0, .null, .null],
  [.null],
  [.null, .int 0, .null, .int 0, .int 0, .int 0, .int 0, .int 0, .int 0, .int 0],
  [.int 0, .null, .null, .null, .int 0, .null, .int 0, .int 0, .int 0, .null, .int 0, .null, .int 0, .null, .int 0, .null],
  [.int 0, .int 0, .null, .null],
  [.null, .null, .null, .null, .null, .null, .int 0, .null, .null, .null, .null, .null, .null, .null, .int 0, .int 0, .int 0, .null, .int 0],
  [.int 0, .null, .null, .null, .null, .null, .int 0, .null, .int 0, .int 0, .int 0, .null, .null, .int 0, .int 0, .null, .null, .null, .int 0, .int 0, .int 0, .int 0, .int 0, .int 0, .int 0, .int 0, .null, .int 0, .int 0, .null, .null, .null, .null, .null, .null, .null, .null, .null, .null, .null, .null, .int 0, .int 0, .int 0, .int 0, .int 0, .int 0, .int 0, .long 0, .null, .int 0, .int 0]]
def mk_SR : List (String × Nat × String) := [("WashLine$Reader", 32, "hang take sail pass "), ("WashLine$Reader", 34, "weighs goes bars "), ("WashLine$Reader", 119, "day done latest hung ways cell powder "), ("WashLine$Reader", 121, "ship sign long means cell powder day mood "), ("WashLine$Reader", 54, "times "), ("WashLine$Reader", 60, "if "), ("WashLine$Reader", 114, "not "), ("WashLine$Reader", 101, "and "), ("WashLine$Reader", 103, "or ")]
def mk_S : List (List Int32) := [[104, 97, 110, 103, 32, 116, 97, 107, 101, 32, 115, 97, 105, 108, 32, 112, 97, 115, 115, 32],
  [119, 101, 105, 103, 104, 115, 32, 103, 111, 101, 115, 32, 98, 97, 114, 115, 32],
  [100, 97, 121, 32, 100, 111, 110, 101, 32, 108, 97, 116, 101, 115, 116, 32, 104, 117, 110, 103, 32, 119, 97, 121, 115, 32, 99, 101, 108, 108, 32, 112, 111, 119, 100, 101, 114, 32],
  [115, 104, 105, 112, 32, 115, 105, 103, 110, 32, 108, 111, 110, 103, 32, 109, 101, 97, 110, 115, 32, 99, 101, 108, 108, 32, 112, 111, 119, 100, 101, 114, 32, 100, 97, 121, 32, 109, 111, 111, 100, 32],
  [116, 105, 109, 101, 115, 32],
  [105, 102, 32],
  [110, 111, 116, 32],
  [97, 110, 100, 32],
  [111, 114, 32]]
theorem mk_in0 : ((List.range 9).all fun k => mm_at mk_LT (([322, 324, 326, 328, 330, 332, 334, 336, 338] : List Nat)[k]?) (u_lay RX0 TX0 k)) = true := by decide +kernel
theorem mk_it0 : (mm_at mk_LT (some 302) (.instantiable RX0 9) && mm_at mk_LT (some 118) (.initialized RX0)) = true := by decide +kernel
theorem mk_df0 : ((List.range 9).all fun k => decide (defaultValue (tyX0 k) = vp_V (mk_G.getD 0 []) k)) = true := by decide +kernel
theorem mk_dz0 : ((mk_G.getD 0 []).all fun v => decide (v = .int 0 ∨ v = .long 0 ∨ v = .null)) = true := by decide +kernel
theorem mk_in1 : ((List.range 4).all fun k => mm_at mk_LT (([373, 375, 377, 379] : List Nat)[k]?) (u_lay RX1 TX1 k)) = true := by decide +kernel
theorem mk_it1 : (mm_at mk_LT (some 364) (.instantiable RX1 4) && mm_at mk_LT (some 120) (.initialized RX1)) = true := by decide +kernel
theorem mk_df1 : ((List.range 4).all fun k => decide (defaultValue (tyX1 k) = vp_V (mk_G.getD 1 []) k)) = true := by decide +kernel
theorem mk_dz1 : ((mk_G.getD 1 []).all fun v => decide (v = .int 0 ∨ v = .long 0 ∨ v = .null)) = true := by decide +kernel
theorem mk_in2 : ((List.range 5).all fun k => mm_at mk_LT (([352, 354, 356, 358, 360] : List Nat)[k]?) (u_lay RX2 TX2 k)) = true := by decide +kernel
theorem mk_it2 : (mm_at mk_LT (some 342) (.instantiable RX2 5) && mm_at mk_LT (some 119) (.initialized RX2)) = true := by decide +kernel
theorem mk_df2 : ((List.range 5).all fun k => decide (defaultValue (tyX2 k) = vp_V (mk_G.getD 2 []) k)) = true := by decide +kernel
theorem mk_dz2 : ((mk_G.getD 2 []).all fun v => decide (v = .int 0 ∨ v = .long 0 ∨ v = .null)) = true := by decide +kernel
theorem mk_in3 : ((List.range 1).all fun k => mm_at mk_LT (([297] : List Nat)[k]?) (u_lay RX3 TX3 k)) = true := by decide +kernel
theorem mk_it3 : (mm_at mk_LT (some 291) (.instantiable RX3 1) && mm_at mk_LT (some 117) (.initialized RX3)) = true := by decide +kernel
theorem mk_df3 : ((List.range 1).all fun k => decide (defaultValue (tyX3 k) = vp_V (mk_G.getD 3 []) k)) = true := by decide +kernel
theorem mk_dz3 : ((mk_G.getD 3 []).all fun v => decide (v = .int 0 ∨ v = .long 0 ∨ v = .null)) = true := by decide +kernel
theorem mk_in4 : ((List.range 10).all fun k => mm_at mk_LT (([269, 271, 273, 275, 277, 279, 281, 283, 285, 287] : List Nat)[k]?) (u_lay RX4 TX4 k)) = true := by decide +kernel
theorem mk_it4 : (mm_at mk_LT (some 226) (.instantiable RX4 10) && mm_at mk_LT (some 115) (.initialized RX4)) = true := by decide +kernel
theorem mk_df4 : ((List.range 10).all fun k => decide (defaultValue (tyX4 k) = vp_V (mk_G.getD 4 []) k)) = true := by decide +kernel
theorem mk_dz4 : ((mk_G.getD 4 []).all fun v => decide (v = .int 0 ∨ v = .long 0 ∨ v = .null)) = true := by decide +kernel
theorem mk_in5 : ((List.range 16).all fun k => mm_at mk_LT (([190, 192, 194, 196, 198, 200, 202, 204, 206, 208, 210, 212, 214, 216, 218, 220] : List Nat)[k]?) (u_lay RX5 TX5 k)) = true := by decide +kernel
theorem mk_it5 : (mm_at mk_LT (some 139) (.instantiable RX5 16) && mm_at mk_LT (some 114) (.initialized RX5)) = true := by decide +kernel
theorem mk_df5 : ((List.range 16).all fun k => decide (defaultValue (tyX5 k) = vp_V (mk_G.getD 5 []) k)) = true := by decide +kernel
theorem mk_dz5 : ((mk_G.getD 5 []).all fun v => decide (v = .int 0 ∨ v = .long 0 ∨ v = .null)) = true := by decide +kernel
theorem mk_in6 : ((List.range 4).all fun k => mm_at mk_LT (([247, 249, 251, 253] : List Nat)[k]?) (u_lay RX6 TX6 k)) = true := by decide +kernel
theorem mk_it6 : (mm_at mk_LT (some 232) (.instantiable RX6 4) && mm_at mk_LT (some 116) (.initialized RX6)) = true := by decide +kernel
theorem mk_df6 : ((List.range 4).all fun k => decide (defaultValue (tyX6 k) = vp_V (mk_G.getD 6 []) k)) = true := by decide +kernel
theorem mk_dz6 : ((mk_G.getD 6 []).all fun v => decide (v = .int 0 ∨ v = .long 0 ∨ v = .null)) = true := by decide +kernel
theorem mk_in7 : ((List.range 19).all fun k => mm_at mk_LT (([401, 403, 405, 407, 409, 411, 413, 415, 417, 419, 421, 423, 425, 427, 429, 431, 433, 435, 437] : List Nat)[k]?) (u_lay RX7 TX7 k)) = true := by decide +kernel
theorem mk_it7 : (mm_at mk_LT (some 131) (.instantiable RX7 19) && mm_at mk_LT (some 113) (.initialized RX7)) = true := by decide +kernel
theorem mk_df7 : ((List.range 19).all fun k => decide (defaultValue (tyX7 k) = vp_V (mk_G.getD 7 []) k)) = true := by decide +kernel
theorem mk_dz7 : ((mk_G.getD 7 []).all fun v => decide (v = .int 0 ∨ v = .long 0 ∨ v = .null)) = true := by decide +kernel
theorem mk_in8 : ((List.range 52).all fun k => mm_at mk_LT (([1062, 1064, 1066, 1068, 1070, 1072, 1074, 1076, 1078, 1080, 1082, 1084, 1086, 1088, 1090, 1092, 1094, 1096, 1098, 1100, 1102, 1104, 1106, 1108, 1110, 1112, 1114, 1116, 1118, 1120, 1122, 1124, 1126, 1128, 1130, 1132, 1134, 1136, 1138, 1140, 1142, 1144, 1146, 1148, 1150, 1152, 1154, 1156, 1158, 1160, 1162, 1164] : List Nat)[k]?) (u_lay RX8 TX8 k)) = true := by decide +kernel
theorem mk_it8 : (mm_at mk_LT (some 1005) (.instantiable RX8 52) && mm_at mk_LT (some 121) (.initialized RX8)) = true := by decide +kernel
theorem mk_df8 : ((List.range 52).all fun k => decide (defaultValue (tyX8 k) = vp_V (mk_G.getD 8 []) k)) = true := by decide +kernel
theorem mk_dz8 : ((mk_G.getD 8 []).all fun v => decide (v = .int 0 ∨ v = .long 0 ∨ v = .null)) = true := by decide +kernel
