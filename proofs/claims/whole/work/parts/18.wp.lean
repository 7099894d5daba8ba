/-- a run ends, with an answer and a world of which P holds -/
def WP (X : mm_X) (d mi : Nat) (c : mm_C) (P : Option Value → mm_W → Prop) : Prop := ∃ r w', Ex X d mi c r w' ∧ P r w'
theorem WP.of {X : mm_X} {d mi : Nat} {c c' : mm_C} {P : Option Value → mm_W → Prop} (h : ∀ r w', Ex X d mi c' r w' → Ex X d mi c r w') (h2 : WP X d mi c' P) : WP X d mi c P := by
  obtain ⟨r, w', h3, h4⟩ := h2
  exact ⟨r, w', h r w' h3, h4⟩
theorem WP.run {X : mm_X} {d mi : Nat} {M : mm_M} (hM : mk_P[mi]? = some M) {P : Option Value → mm_W → Prop} (k : Nat) {c c' : mm_C} (hr : mm_run X M.2.2.2.2 M.2.2.2.1 k c = some c') (h : WP X d mi c' P) : WP X d mi c P := WP.of (fun _ _ => Ex.run hM k hr) h
theorem WP.ret {X : mm_X} {d mi : Nat} {M : mm_M} (hM : mk_P[mi]? = some M) {P : Option Value → mm_W → Prop} {c : mm_C} {r : Option Value} {w' : mm_W} (hs : mm_stp X M.2.2.2.2 M.2.2.2.1 c = some (.inr (.inl (r, w')))) (h : P r w') : WP X d mi c P := ⟨r, w', Ex.ret hM hs, h⟩
theorem WP.retZ {X : mm_X} {d mi : Nat} {M : mm_M} (hM : mk_P[mi]? = some M) {P : Option Value → mm_W → Prop} {pc a b : Nat} {v : Value} {dead tg : List Nat} {L : mm_L} {w : mm_W} {x : Int32} (hq : M.2.2.2.2.lookup pc = some (.ireturn, a, b, v, dead, tg)) (hr : M.2.2.2.1 = some .boolean) (hx : x = 0 ∨ x = 1) (h : P (some (.int x)) w) : WP X d mi (pc, L, [.int x], w) P := ⟨_, _, Ex.retZ hM hq hr hx, h⟩
theorem WP.retI {X : mm_X} {d mi : Nat} {M : mm_M} (hM : mk_P[mi]? = some M) {P : Option Value → mm_W → Prop} {pc a b : Nat} {v : Value} {dead tg : List Nat} {L : mm_L} {w : mm_W} {x : Int32} (hq : M.2.2.2.2.lookup pc = some (.ireturn, a, b, v, dead, tg)) (hr : M.2.2.2.1 = some .int) (h : P (some (.int x)) w) : WP X d mi (pc, L, [.int x], w) P := by
  refine ⟨_, _, Ex.ret hM (r := some (.int x)) (w' := w) ?_, h⟩
  unfold mm_stp
  simp only [hq, mm_step, mm_ret, hr]
  exact if_pos (show narrow FieldType.int (Value.int x) = Value.int x from rfl)
theorem WP.br {X : mm_X} {d mi : Nat} {M : mm_M} (hM : mk_P[mi]? = some M) {P : Option Value → mm_W → Prop} {c : mm_C} {q : Prop} [Decidable q] {t f : Nat} {L : mm_L} {st : List Value} {w : mm_W} (hs : mm_stp X M.2.2.2.2 M.2.2.2.1 c = mm_if (decide q) t f L st w) (ht : q → WP X d mi (t, L, st, w) P) (hf : ¬ q → WP X d mi (f, L, st, w) P) : WP X d mi c P := by
  by_cases hq : q
  · refine WP.of (fun _ _ h => Ex.step hM (c' := (t, L, st, w)) ?_ h) (ht hq)
    rw [hs, mm_if, if_pos (decide_eq_true hq)]
    rfl
  · refine WP.of (fun _ _ h => Ex.step hM (c' := (f, L, st, w)) ?_ h) (hf hq)
    rw [hs, mm_if, if_neg (by simpa using hq)]
    rfl
theorem WP.call {X : mm_X} {d mi k : Nat} {M M' : mm_M} (hM : mk_P[mi]? = some M) (hM' : mk_P[k]? = some M') {P : Option Value → mm_W → Prop} {c : mm_C} {as : List Value} {pc' : Nat} {L' : mm_L} {st' : List Value} {w1 : mm_W} (hs : mm_stp X M.2.2.2.2 M.2.2.2.1 c = some (.inr (.inr (k, as, pc', L', st', w1)))) (hl : (mm_ent as).length ≤ M'.2.2.1 ∧ M'.2.2.1 ≤ 20) {E : mm_L} (hE : mm_ent as ++ List.replicate (M'.2.2.1 - (mm_ent as).length) none = E)
    (hc : WP X d k (0, E, [], w1) (fun rv w2 => WP X (d + 1) mi (pc', L', rv.toList ++ st', w2) P)) : WP X (d + 1) mi c P := by
  obtain ⟨rv, w2, h1, r, w3, h2, h3⟩ := hc
  subst hE
  exact ⟨r, w3, Ex.call hM hM' (c' := (pc', L', st', w1)) hs hl h1 h2, h3⟩
theorem WP.mono {X : mm_X} {d mi : Nat} {c : mm_C} {P P' : Option Value → mm_W → Prop} (h : WP X d mi c P) (hP : ∀ r w, P r w → P' r w) : WP X d mi c P' := by
  obtain ⟨r, w', h3, h4⟩ := h
  exact ⟨r, w', h3, hP _ _ h4⟩
set_option maxRecDepth 5000 in
theorem hP_0 : mk_P[0]? = some mM_0 := rfl
set_option maxRecDepth 5000 in
theorem hP_1 : mk_P[1]? = some mM_1 := rfl
set_option maxRecDepth 5000 in
theorem hP_2 : mk_P[2]? = some mM_2 := rfl
set_option maxRecDepth 5000 in
theorem hP_3 : mk_P[3]? = some mM_3 := rfl
set_option maxRecDepth 5000 in
theorem hP_4 : mk_P[4]? = some mM_4 := rfl
set_option maxRecDepth 5000 in
theorem hP_5 : mk_P[5]? = some mM_5 := rfl
set_option maxRecDepth 5000 in
theorem hP_6 : mk_P[6]? = some mM_6 := rfl
set_option maxRecDepth 5000 in
theorem hP_7 : mk_P[7]? = some mM_7 := rfl
set_option maxRecDepth 5000 in
theorem hP_8 : mk_P[8]? = some mM_8 := rfl
set_option maxRecDepth 5000 in
theorem hP_9 : mk_P[9]? = some mM_9 := rfl
set_option maxRecDepth 5000 in
theorem hP_10 : mk_P[10]? = some mM_10 := rfl
set_option maxRecDepth 5000 in
theorem hP_11 : mk_P[11]? = some mM_11 := rfl
set_option maxRecDepth 5000 in
theorem hP_12 : mk_P[12]? = some mM_12 := rfl
set_option maxRecDepth 5000 in
theorem hP_13 : mk_P[13]? = some mM_13 := rfl
set_option maxRecDepth 5000 in
theorem hP_14 : mk_P[14]? = some mM_14 := rfl
set_option maxRecDepth 5000 in
theorem hP_15 : mk_P[15]? = some mM_15 := rfl
set_option maxRecDepth 5000 in
theorem hP_16 : mk_P[16]? = some mM_16 := rfl
set_option maxRecDepth 5000 in
theorem hP_17 : mk_P[17]? = some mM_17 := rfl
set_option maxRecDepth 5000 in
theorem hP_18 : mk_P[18]? = some mM_18 := rfl
set_option maxRecDepth 5000 in
theorem hP_19 : mk_P[19]? = some mM_19 := rfl
set_option maxRecDepth 5000 in
theorem hP_20 : mk_P[20]? = some mM_20 := rfl
set_option maxRecDepth 5000 in
theorem hP_21 : mk_P[21]? = some mM_21 := rfl
set_option maxRecDepth 5000 in
theorem hP_22 : mk_P[22]? = some mM_22 := rfl
set_option maxRecDepth 5000 in
theorem hP_23 : mk_P[23]? = some mM_23 := rfl
set_option maxRecDepth 5000 in
theorem hP_24 : mk_P[24]? = some mM_24 := rfl
set_option maxRecDepth 5000 in
theorem hP_25 : mk_P[25]? = some mM_25 := rfl
set_option maxRecDepth 5000 in
theorem hP_26 : mk_P[26]? = some mM_26 := rfl
set_option maxRecDepth 5000 in
theorem hP_27 : mk_P[27]? = some mM_27 := rfl
set_option maxRecDepth 5000 in
theorem hP_28 : mk_P[28]? = some mM_28 := rfl
set_option maxRecDepth 5000 in
theorem hP_29 : mk_P[29]? = some mM_29 := rfl
set_option maxRecDepth 5000 in
theorem hP_30 : mk_P[30]? = some mM_30 := rfl
set_option maxRecDepth 5000 in
theorem hP_31 : mk_P[31]? = some mM_31 := rfl
set_option maxRecDepth 5000 in
theorem hP_32 : mk_P[32]? = some mM_32 := rfl
set_option maxRecDepth 5000 in
theorem hP_33 : mk_P[33]? = some mM_33 := rfl
set_option maxRecDepth 5000 in
theorem hP_34 : mk_P[34]? = some mM_34 := rfl
set_option maxRecDepth 5000 in
theorem hP_35 : mk_P[35]? = some mM_35 := rfl
set_option maxRecDepth 5000 in
theorem hP_36 : mk_P[36]? = some mM_36 := rfl
set_option maxRecDepth 5000 in
theorem hP_37 : mk_P[37]? = some mM_37 := rfl
set_option maxRecDepth 5000 in
theorem hP_38 : mk_P[38]? = some mM_38 := rfl
set_option maxRecDepth 5000 in
theorem hP_39 : mk_P[39]? = some mM_39 := rfl
set_option maxRecDepth 5000 in
theorem hP_40 : mk_P[40]? = some mM_40 := rfl
set_option maxRecDepth 5000 in
theorem hP_41 : mk_P[41]? = some mM_41 := rfl
set_option maxRecDepth 5000 in
theorem hP_42 : mk_P[42]? = some mM_42 := rfl
set_option maxRecDepth 5000 in
theorem hP_43 : mk_P[43]? = some mM_43 := rfl
set_option maxRecDepth 5000 in
theorem hP_44 : mk_P[44]? = some mM_44 := rfl
set_option maxRecDepth 5000 in
theorem hP_45 : mk_P[45]? = some mM_45 := rfl
set_option maxRecDepth 5000 in
theorem hP_46 : mk_P[46]? = some mM_46 := rfl
set_option maxRecDepth 5000 in
theorem hP_47 : mk_P[47]? = some mM_47 := rfl
set_option maxRecDepth 5000 in
theorem hP_48 : mk_P[48]? = some mM_48 := rfl
set_option maxRecDepth 5000 in
theorem hP_49 : mk_P[49]? = some mM_49 := rfl
set_option maxRecDepth 5000 in
theorem hP_50 : mk_P[50]? = some mM_50 := rfl
set_option maxRecDepth 5000 in
theorem hP_51 : mk_P[51]? = some mM_51 := rfl
set_option maxRecDepth 5000 in
theorem hP_52 : mk_P[52]? = some mM_52 := rfl
set_option maxRecDepth 5000 in
theorem hP_53 : mk_P[53]? = some mM_53 := rfl
set_option maxRecDepth 5000 in
theorem hP_54 : mk_P[54]? = some mM_54 := rfl
set_option maxRecDepth 5000 in
theorem hP_55 : mk_P[55]? = some mM_55 := rfl
set_option maxRecDepth 5000 in
theorem hP_56 : mk_P[56]? = some mM_56 := rfl
set_option maxRecDepth 5000 in
theorem hP_57 : mk_P[57]? = some mM_57 := rfl
set_option maxRecDepth 5000 in
theorem hP_58 : mk_P[58]? = some mM_58 := rfl
set_option maxRecDepth 5000 in
theorem hP_59 : mk_P[59]? = some mM_59 := rfl
set_option maxRecDepth 5000 in
theorem hP_60 : mk_P[60]? = some mM_60 := rfl
set_option maxRecDepth 5000 in
theorem hP_61 : mk_P[61]? = some mM_61 := rfl
set_option maxRecDepth 5000 in
theorem hP_62 : mk_P[62]? = some mM_62 := rfl
set_option maxRecDepth 5000 in
theorem hP_63 : mk_P[63]? = some mM_63 := rfl
set_option maxRecDepth 5000 in
theorem hP_64 : mk_P[64]? = some mM_64 := rfl
set_option maxRecDepth 5000 in
theorem hP_65 : mk_P[65]? = some mM_65 := rfl
set_option maxRecDepth 5000 in
theorem hP_66 : mk_P[66]? = some mM_66 := rfl
set_option maxRecDepth 5000 in
theorem hP_67 : mk_P[67]? = some mM_67 := rfl
set_option maxRecDepth 5000 in
theorem hP_68 : mk_P[68]? = some mM_68 := rfl
set_option maxRecDepth 5000 in
theorem hP_69 : mk_P[69]? = some mM_69 := rfl
set_option maxRecDepth 5000 in
theorem hP_70 : mk_P[70]? = some mM_70 := rfl
set_option maxRecDepth 5000 in
theorem hP_71 : mk_P[71]? = some mM_71 := rfl
set_option maxRecDepth 5000 in
theorem hP_72 : mk_P[72]? = some mM_72 := rfl
set_option maxRecDepth 5000 in
theorem hP_73 : mk_P[73]? = some mM_73 := rfl
set_option maxRecDepth 5000 in
theorem hP_74 : mk_P[74]? = some mM_74 := rfl
set_option maxRecDepth 5000 in
theorem hP_75 : mk_P[75]? = some mM_75 := rfl
set_option maxRecDepth 5000 in
theorem hP_76 : mk_P[76]? = some mM_76 := rfl
set_option maxRecDepth 5000 in
theorem hP_77 : mk_P[77]? = some mM_77 := rfl
set_option maxRecDepth 5000 in
theorem hP_78 : mk_P[78]? = some mM_78 := rfl
set_option maxRecDepth 5000 in
theorem hP_79 : mk_P[79]? = some mM_79 := rfl
set_option maxRecDepth 5000 in
theorem hP_80 : mk_P[80]? = some mM_80 := rfl
set_option maxRecDepth 5000 in
theorem hP_81 : mk_P[81]? = some mM_81 := rfl
set_option maxRecDepth 5000 in
theorem hP_82 : mk_P[82]? = some mM_82 := rfl
set_option maxRecDepth 5000 in
theorem hP_83 : mk_P[83]? = some mM_83 := rfl
set_option maxRecDepth 5000 in
theorem hP_84 : mk_P[84]? = some mM_84 := rfl
set_option maxRecDepth 5000 in
theorem hP_85 : mk_P[85]? = some mM_85 := rfl
set_option maxRecDepth 5000 in
theorem hP_86 : mk_P[86]? = some mM_86 := rfl
set_option maxRecDepth 5000 in
theorem hP_87 : mk_P[87]? = some mM_87 := rfl
set_option maxRecDepth 5000 in
theorem hP_88 : mk_P[88]? = some mM_88 := rfl
set_option maxRecDepth 5000 in
theorem hP_89 : mk_P[89]? = some mM_89 := rfl
set_option maxRecDepth 5000 in
theorem hP_90 : mk_P[90]? = some mM_90 := rfl
set_option maxRecDepth 5000 in
theorem hP_91 : mk_P[91]? = some mM_91 := rfl
set_option maxRecDepth 5000 in
theorem hP_92 : mk_P[92]? = some mM_92 := rfl
set_option maxRecDepth 5000 in
theorem hP_93 : mk_P[93]? = some mM_93 := rfl
set_option maxRecDepth 5000 in
theorem hP_94 : mk_P[94]? = some mM_94 := rfl
set_option maxRecDepth 5000 in
theorem hP_95 : mk_P[95]? = some mM_95 := rfl
set_option maxRecDepth 5000 in
theorem hP_96 : mk_P[96]? = some mM_96 := rfl
set_option maxRecDepth 5000 in
theorem hP_97 : mk_P[97]? = some mM_97 := rfl
set_option maxRecDepth 5000 in
theorem hP_98 : mk_P[98]? = some mM_98 := rfl
set_option maxRecDepth 5000 in
theorem hP_99 : mk_P[99]? = some mM_99 := rfl
set_option maxRecDepth 5000 in
theorem hP_100 : mk_P[100]? = some mM_100 := rfl
set_option maxRecDepth 5000 in
theorem hP_101 : mk_P[101]? = some mM_101 := rfl
set_option maxRecDepth 5000 in
theorem hP_102 : mk_P[102]? = some mM_102 := rfl
set_option maxRecDepth 5000 in
theorem hP_103 : mk_P[103]? = some mM_103 := rfl
set_option maxRecDepth 5000 in
theorem hP_104 : mk_P[104]? = some mM_104 := rfl
set_option maxRecDepth 5000 in
theorem hP_105 : mk_P[105]? = some mM_105 := rfl
set_option maxRecDepth 5000 in
theorem hP_106 : mk_P[106]? = some mM_106 := rfl
set_option maxRecDepth 5000 in
theorem hP_107 : mk_P[107]? = some mM_107 := rfl
set_option maxRecDepth 5000 in
theorem hP_108 : mk_P[108]? = some mM_108 := rfl
set_option maxRecDepth 5000 in
theorem hP_109 : mk_P[109]? = some mM_109 := rfl
set_option maxRecDepth 5000 in
theorem hP_110 : mk_P[110]? = some mM_110 := rfl
set_option maxRecDepth 5000 in
theorem hP_111 : mk_P[111]? = some mM_111 := rfl
set_option maxRecDepth 5000 in
theorem hP_112 : mk_P[112]? = some mM_112 := rfl
set_option maxRecDepth 5000 in
theorem hP_113 : mk_P[113]? = some mM_113 := rfl
set_option maxRecDepth 5000 in
theorem hP_114 : mk_P[114]? = some mM_114 := rfl
set_option maxRecDepth 5000 in
theorem hP_115 : mk_P[115]? = some mM_115 := rfl
set_option maxRecDepth 5000 in
theorem hP_116 : mk_P[116]? = some mM_116 := rfl
set_option maxRecDepth 5000 in
theorem hP_117 : mk_P[117]? = some mM_117 := rfl
set_option maxRecDepth 5000 in
theorem hP_118 : mk_P[118]? = some mM_118 := rfl
set_option maxRecDepth 5000 in
theorem hP_119 : mk_P[119]? = some mM_119 := rfl
set_option maxRecDepth 5000 in
theorem hP_120 : mk_P[120]? = some mM_120 := rfl
set_option maxRecDepth 5000 in
theorem hP_121 : mk_P[121]? = some mM_121 := rfl
set_option maxRecDepth 5000 in
theorem hP_122 : mk_P[122]? = some mM_122 := rfl
set_option maxRecDepth 5000 in
theorem hP_123 : mk_P[123]? = some mM_123 := rfl
set_option maxRecDepth 5000 in
theorem hP_124 : mk_P[124]? = some mM_124 := rfl
set_option maxRecDepth 5000 in
theorem hP_125 : mk_P[125]? = some mM_125 := rfl
set_option maxRecDepth 5000 in
theorem hP_126 : mk_P[126]? = some mM_126 := rfl
set_option maxRecDepth 5000 in
theorem hP_127 : mk_P[127]? = some mM_127 := rfl
set_option maxRecDepth 5000 in
theorem hP_128 : mk_P[128]? = some mM_128 := rfl
set_option maxRecDepth 5000 in
theorem hP_129 : mk_P[129]? = some mM_129 := rfl
set_option maxRecDepth 5000 in
theorem hP_130 : mk_P[130]? = some mM_130 := rfl
set_option maxRecDepth 5000 in
theorem hP_131 : mk_P[131]? = some mM_131 := rfl
set_option maxRecDepth 5000 in
theorem hP_132 : mk_P[132]? = some mM_132 := rfl
set_option maxRecDepth 5000 in
theorem hP_133 : mk_P[133]? = some mM_133 := rfl
set_option maxRecDepth 5000 in
theorem hP_134 : mk_P[134]? = some mM_134 := rfl
set_option maxRecDepth 5000 in
theorem hP_135 : mk_P[135]? = some mM_135 := rfl
set_option maxRecDepth 5000 in
theorem hP_136 : mk_P[136]? = some mM_136 := rfl
set_option maxRecDepth 5000 in
theorem hP_137 : mk_P[137]? = some mM_137 := rfl
set_option maxRecDepth 5000 in
theorem hP_138 : mk_P[138]? = some mM_138 := rfl
set_option maxRecDepth 5000 in
theorem hP_139 : mk_P[139]? = some mM_139 := rfl
set_option maxRecDepth 5000 in
theorem hP_140 : mk_P[140]? = some mM_140 := rfl
set_option maxRecDepth 5000 in
theorem hP_141 : mk_P[141]? = some mM_141 := rfl
set_option maxRecDepth 5000 in
theorem hP_142 : mk_P[142]? = some mM_142 := rfl
set_option maxRecDepth 5000 in
theorem hP_143 : mk_P[143]? = some mM_143 := rfl
set_option maxRecDepth 5000 in
theorem hP_144 : mk_P[144]? = some mM_144 := rfl
set_option maxRecDepth 5000 in
theorem hP_145 : mk_P[145]? = some mM_145 := rfl
set_option maxRecDepth 5000 in
theorem hP_146 : mk_P[146]? = some mM_146 := rfl
set_option maxRecDepth 5000 in
theorem hP_147 : mk_P[147]? = some mM_147 := rfl
set_option maxRecDepth 5000 in
theorem hP_148 : mk_P[148]? = some mM_148 := rfl
set_option maxRecDepth 5000 in
theorem hP_149 : mk_P[149]? = some mM_149 := rfl
set_option maxRecDepth 5000 in
theorem hP_150 : mk_P[150]? = some mM_150 := rfl
set_option maxRecDepth 5000 in
theorem hP_151 : mk_P[151]? = some mM_151 := rfl
set_option maxRecDepth 5000 in
theorem hP_152 : mk_P[152]? = some mM_152 := rfl
set_option maxRecDepth 5000 in
theorem hP_153 : mk_P[153]? = some mM_153 := rfl
set_option maxRecDepth 5000 in
theorem hP_154 : mk_P[154]? = some mM_154 := rfl
set_option maxRecDepth 5000 in
theorem hP_155 : mk_P[155]? = some mM_155 := rfl
set_option maxRecDepth 5000 in
theorem hP_156 : mk_P[156]? = some mM_156 := rfl
set_option maxRecDepth 5000 in
theorem hP_157 : mk_P[157]? = some mM_157 := rfl
set_option maxRecDepth 5000 in
theorem hP_158 : mk_P[158]? = some mM_158 := rfl
set_option maxRecDepth 5000 in
theorem hP_159 : mk_P[159]? = some mM_159 := rfl
set_option maxRecDepth 5000 in
theorem hP_160 : mk_P[160]? = some mM_160 := rfl
set_option maxRecDepth 5000 in
theorem hP_161 : mk_P[161]? = some mM_161 := rfl
set_option maxRecDepth 5000 in
theorem hP_162 : mk_P[162]? = some mM_162 := rfl
set_option maxRecDepth 5000 in
theorem hP_163 : mk_P[163]? = some mM_163 := rfl
set_option maxRecDepth 5000 in
theorem hP_164 : mk_P[164]? = some mM_164 := rfl
set_option maxRecDepth 5000 in
theorem hP_165 : mk_P[165]? = some mM_165 := rfl
set_option maxRecDepth 5000 in
theorem hP_166 : mk_P[166]? = some mM_166 := rfl
set_option maxRecDepth 5000 in
theorem hP_167 : mk_P[167]? = some mM_167 := rfl
set_option maxRecDepth 5000 in
theorem hP_168 : mk_P[168]? = some mM_168 := rfl
set_option maxRecDepth 5000 in
theorem hP_169 : mk_P[169]? = some mM_169 := rfl
set_option maxRecDepth 5000 in
theorem hP_170 : mk_P[170]? = some mM_170 := rfl
set_option maxRecDepth 5000 in
theorem hP_171 : mk_P[171]? = some mM_171 := rfl
set_option maxRecDepth 5000 in
theorem hP_172 : mk_P[172]? = some mM_172 := rfl
set_option maxRecDepth 5000 in
theorem hP_173 : mk_P[173]? = some mM_173 := rfl
set_option maxRecDepth 5000 in
theorem hP_174 : mk_P[174]? = some mM_174 := rfl
set_option maxRecDepth 5000 in
theorem hP_175 : mk_P[175]? = some mM_175 := rfl
set_option maxRecDepth 5000 in
theorem hP_176 : mk_P[176]? = some mM_176 := rfl
set_option maxRecDepth 5000 in
theorem hP_177 : mk_P[177]? = some mM_177 := rfl
set_option maxRecDepth 5000 in
theorem hP_178 : mk_P[178]? = some mM_178 := rfl
set_option maxRecDepth 5000 in
theorem hP_179 : mk_P[179]? = some mM_179 := rfl
set_option maxRecDepth 5000 in
theorem hP_180 : mk_P[180]? = some mM_180 := rfl
set_option maxRecDepth 5000 in
theorem hP_181 : mk_P[181]? = some mM_181 := rfl
set_option maxRecDepth 5000 in
theorem hP_182 : mk_P[182]? = some mM_182 := rfl
set_option maxRecDepth 5000 in
theorem hP_183 : mk_P[183]? = some mM_183 := rfl
set_option maxRecDepth 5000 in
theorem hP_184 : mk_P[184]? = some mM_184 := rfl
set_option maxRecDepth 5000 in
theorem hP_185 : mk_P[185]? = some mM_185 := rfl
set_option maxRecDepth 5000 in
theorem hP_186 : mk_P[186]? = some mM_186 := rfl
set_option maxRecDepth 5000 in
theorem hP_187 : mk_P[187]? = some mM_187 := rfl
set_option maxRecDepth 5000 in
theorem hP_188 : mk_P[188]? = some mM_188 := rfl
set_option maxRecDepth 5000 in
theorem hP_189 : mk_P[189]? = some mM_189 := rfl
set_option maxRecDepth 5000 in
theorem hP_190 : mk_P[190]? = some mM_190 := rfl
set_option maxRecDepth 5000 in
theorem hP_191 : mk_P[191]? = some mM_191 := rfl
set_option maxRecDepth 5000 in
theorem hP_192 : mk_P[192]? = some mM_192 := rfl
set_option maxRecDepth 5000 in
theorem hP_193 : mk_P[193]? = some mM_193 := rfl
set_option maxRecDepth 5000 in
theorem hP_194 : mk_P[194]? = some mM_194 := rfl
set_option maxRecDepth 5000 in
theorem hP_195 : mk_P[195]? = some mM_195 := rfl
set_option maxRecDepth 5000 in
theorem hP_196 : mk_P[196]? = some mM_196 := rfl
set_option maxRecDepth 5000 in
theorem hP_197 : mk_P[197]? = some mM_197 := rfl
set_option maxRecDepth 5000 in
theorem hP_198 : mk_P[198]? = some mM_198 := rfl
set_option maxRecDepth 5000 in
theorem hP_199 : mk_P[199]? = some mM_199 := rfl
set_option maxRecDepth 5000 in
theorem hP_200 : mk_P[200]? = some mM_200 := rfl
set_option maxRecDepth 5000 in
theorem hP_201 : mk_P[201]? = some mM_201 := rfl
set_option maxRecDepth 5000 in
theorem hP_202 : mk_P[202]? = some mM_202 := rfl
set_option maxRecDepth 5000 in
theorem hP_203 : mk_P[203]? = some mM_203 := rfl
set_option maxRecDepth 5000 in
theorem hP_204 : mk_P[204]? = some mM_204 := rfl
set_option maxRecDepth 5000 in
theorem hP_205 : mk_P[205]? = some mM_205 := rfl
set_option maxRecDepth 5000 in
theorem hP_206 : mk_P[206]? = some mM_206 := rfl
set_option maxRecDepth 5000 in
theorem hP_207 : mk_P[207]? = some mM_207 := rfl
set_option maxRecDepth 5000 in
theorem hP_208 : mk_P[208]? = some mM_208 := rfl
set_option maxRecDepth 5000 in
theorem hP_209 : mk_P[209]? = some mM_209 := rfl
set_option maxRecDepth 5000 in
theorem hP_210 : mk_P[210]? = some mM_210 := rfl
set_option maxRecDepth 5000 in
theorem hP_211 : mk_P[211]? = some mM_211 := rfl
set_option maxRecDepth 5000 in
theorem hP_212 : mk_P[212]? = some mM_212 := rfl
set_option maxRecDepth 5000 in
theorem hP_213 : mk_P[213]? = some mM_213 := rfl
set_option maxRecDepth 5000 in
theorem hP_214 : mk_P[214]? = some mM_214 := rfl
set_option maxRecDepth 5000 in
theorem hP_215 : mk_P[215]? = some mM_215 := rfl
set_option maxRecDepth 5000 in
theorem hP_216 : mk_P[216]? = some mM_216 := rfl
set_option maxRecDepth 5000 in
theorem hP_217 : mk_P[217]? = some mM_217 := rfl
set_option maxRecDepth 5000 in
theorem hP_218 : mk_P[218]? = some mM_218 := rfl
set_option maxRecDepth 5000 in
theorem hP_219 : mk_P[219]? = some mM_219 := rfl
set_option maxRecDepth 5000 in
theorem hP_220 : mk_P[220]? = some mM_220 := rfl
set_option maxRecDepth 5000 in
theorem hP_221 : mk_P[221]? = some mM_221 := rfl
set_option maxRecDepth 5000 in
theorem hP_222 : mk_P[222]? = some mM_222 := rfl
set_option maxRecDepth 5000 in
theorem hP_223 : mk_P[223]? = some mM_223 := rfl
set_option maxRecDepth 5000 in
theorem hP_224 : mk_P[224]? = some mM_224 := rfl
set_option maxRecDepth 5000 in
theorem hP_225 : mk_P[225]? = some mM_225 := rfl
set_option maxRecDepth 5000 in
theorem hP_226 : mk_P[226]? = some mM_226 := rfl
set_option maxRecDepth 5000 in
theorem hP_227 : mk_P[227]? = some mM_227 := rfl
set_option maxRecDepth 5000 in
theorem hP_228 : mk_P[228]? = some mM_228 := rfl
set_option maxRecDepth 5000 in
theorem hP_229 : mk_P[229]? = some mM_229 := rfl
set_option maxRecDepth 5000 in
theorem hP_230 : mk_P[230]? = some mM_230 := rfl
set_option maxRecDepth 5000 in
theorem hP_231 : mk_P[231]? = some mM_231 := rfl
set_option maxRecDepth 5000 in
theorem hP_232 : mk_P[232]? = some mM_232 := rfl
set_option maxRecDepth 5000 in
theorem hP_233 : mk_P[233]? = some mM_233 := rfl
set_option maxRecDepth 5000 in
theorem hP_234 : mk_P[234]? = some mM_234 := rfl
set_option maxRecDepth 5000 in
theorem hP_235 : mk_P[235]? = some mM_235 := rfl
set_option maxRecDepth 5000 in
theorem hP_236 : mk_P[236]? = some mM_236 := rfl
set_option maxRecDepth 5000 in
theorem hP_237 : mk_P[237]? = some mM_237 := rfl
set_option maxRecDepth 5000 in
theorem hP_238 : mk_P[238]? = some mM_238 := rfl
set_option maxRecDepth 5000 in
theorem hP_239 : mk_P[239]? = some mM_239 := rfl
set_option maxRecDepth 5000 in
theorem hP_240 : mk_P[240]? = some mM_240 := rfl
set_option maxRecDepth 5000 in
theorem hP_241 : mk_P[241]? = some mM_241 := rfl
set_option maxRecDepth 5000 in
theorem hP_242 : mk_P[242]? = some mM_242 := rfl
set_option maxRecDepth 5000 in
theorem hP_243 : mk_P[243]? = some mM_243 := rfl
set_option maxRecDepth 5000 in
theorem hP_244 : mk_P[244]? = some mM_244 := rfl
set_option maxRecDepth 5000 in
theorem hP_245 : mk_P[245]? = some mM_245 := rfl
set_option maxRecDepth 5000 in
theorem hP_246 : mk_P[246]? = some mM_246 := rfl
set_option maxRecDepth 5000 in
theorem hP_247 : mk_P[247]? = some mM_247 := rfl
set_option maxRecDepth 5000 in
theorem hP_248 : mk_P[248]? = some mM_248 := rfl
set_option maxRecDepth 5000 in
theorem hP_249 : mk_P[249]? = some mM_249 := rfl
set_option maxRecDepth 5000 in
theorem hP_250 : mk_P[250]? = some mM_250 := rfl
set_option maxRecDepth 5000 in
theorem hP_251 : mk_P[251]? = some mM_251 := rfl
set_option maxRecDepth 5000 in
theorem hP_252 : mk_P[252]? = some mM_252 := rfl
set_option maxRecDepth 5000 in
theorem hP_253 : mk_P[253]? = some mM_253 := rfl
set_option maxRecDepth 5000 in
theorem hP_254 : mk_P[254]? = some mM_254 := rfl
set_option maxRecDepth 5000 in
theorem hP_255 : mk_P[255]? = some mM_255 := rfl
set_option maxRecDepth 5000 in
theorem hP_256 : mk_P[256]? = some mM_256 := rfl
set_option maxRecDepth 5000 in
theorem hP_257 : mk_P[257]? = some mM_257 := rfl
set_option maxRecDepth 5000 in
theorem hP_258 : mk_P[258]? = some mM_258 := rfl
set_option maxRecDepth 5000 in
theorem hP_259 : mk_P[259]? = some mM_259 := rfl
