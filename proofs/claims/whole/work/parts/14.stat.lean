theorem mm_lookup_mem {α : Type} : ∀ (l : List (Nat × α)) (k : Nat) (q : α), l.lookup k = some q → (k, q) ∈ l
  | [], k, q, h => by simp at h
  | (a, b) :: r, k, q, h => by
    rw [List.lookup_cons] at h
    split at h
    · rename_i hk
      cases h
      rw [eq_of_beq hk]
      exact List.mem_cons_self
    · exact List.mem_cons_of_mem _ (mm_lookup_mem r k q h)
theorem mm_fc {M : mm_M} {l : List mm_M} (h : mm_OKM M) (h2 : ∀ x ∈ l, mm_OKM x) : ∀ x ∈ M :: l, mm_OKM x := List.forall_mem_cons.mpr ⟨h, h2⟩
set_option maxRecDepth 20000 in
theorem mk_all : ∀ M ∈ mk_P, mm_OKM M := mm_fc ck_0 (mm_fc ck_1 (mm_fc ck_2 (mm_fc ck_3 (mm_fc ck_4 (mm_fc ck_5 (mm_fc ck_6 (mm_fc ck_7 (mm_fc ck_8 (mm_fc ck_9 (mm_fc ck_10 (mm_fc ck_11 (mm_fc ck_12 (mm_fc ck_13 (mm_fc ck_14 (mm_fc ck_15 (mm_fc ck_16 (mm_fc ck_17 (mm_fc ck_18 (mm_fc ck_19 (mm_fc ck_20 (mm_fc ck_21 (mm_fc ck_22 (mm_fc ck_23 (mm_fc ck_24 (mm_fc ck_25 (mm_fc ck_26 (mm_fc ck_27 (mm_fc ck_28 (mm_fc ck_29 (mm_fc ck_30 (mm_fc ck_31 (mm_fc ck_32 (mm_fc ck_33 (mm_fc ck_34 (mm_fc ck_35 (mm_fc ck_36 (mm_fc ck_37 (mm_fc ck_38 (mm_fc ck_39 (mm_fc ck_40 (mm_fc ck_41 (mm_fc ck_42 (mm_fc ck_43 (mm_fc ck_44 (mm_fc ck_45 (mm_fc ck_46 (mm_fc ck_47 (mm_fc ck_48 (mm_fc ck_49 (mm_fc ck_50 (mm_fc ck_51 (mm_fc ck_52 (mm_fc ck_53 (mm_fc ck_54 (mm_fc ck_55 (mm_fc ck_56 (mm_fc ck_57 (mm_fc ck_58 (mm_fc ck_59 (mm_fc ck_60 (mm_fc ck_61 (mm_fc ck_62 (mm_fc ck_63 (mm_fc ck_64 (mm_fc ck_65 (mm_fc ck_66 (mm_fc ck_67 (mm_fc ck_68 (mm_fc ck_69 (mm_fc ck_70 (mm_fc ck_71 (mm_fc ck_72 (mm_fc ck_73 (mm_fc ck_74 (mm_fc ck_75 (mm_fc ck_76 (mm_fc ck_77 (mm_fc ck_78 (mm_fc ck_79 (mm_fc ck_80 (mm_fc ck_81 (mm_fc ck_82 (mm_fc ck_83 (mm_fc ck_84 (mm_fc ck_85 (mm_fc ck_86 (mm_fc ck_87 (mm_fc ck_88 (mm_fc ck_89 (mm_fc ck_90 (mm_fc ck_91 (mm_fc ck_92 (mm_fc ck_93 (mm_fc ck_94 (mm_fc ck_95 (mm_fc ck_96 (mm_fc ck_97 (mm_fc ck_98 (mm_fc ck_99 (mm_fc ck_100 (mm_fc ck_101 (mm_fc ck_102 (mm_fc ck_103 (mm_fc ck_104 (mm_fc ck_105 (mm_fc ck_106 (mm_fc ck_107 (mm_fc ck_108 (mm_fc ck_109 (mm_fc ck_110 (mm_fc ck_111 (mm_fc ck_112 (mm_fc ck_113 (mm_fc ck_114 (mm_fc ck_115 (mm_fc ck_116 (mm_fc ck_117 (mm_fc ck_118 (mm_fc ck_119 (mm_fc ck_120 (mm_fc ck_121 (mm_fc ck_122 (mm_fc ck_123 (mm_fc ck_124 (mm_fc ck_125 (mm_fc ck_126 (mm_fc ck_127 (mm_fc ck_128 (mm_fc ck_129 (mm_fc ck_130 (mm_fc ck_131 (mm_fc ck_132 (mm_fc ck_133 (mm_fc ck_134 (mm_fc ck_135 (mm_fc ck_136 (mm_fc ck_137 (mm_fc ck_138 (mm_fc ck_139 (mm_fc ck_140 (mm_fc ck_141 (mm_fc ck_142 (mm_fc ck_143 (mm_fc ck_144 (mm_fc ck_145 (mm_fc ck_146 (mm_fc ck_147 (mm_fc ck_148 (mm_fc ck_149 (mm_fc ck_150 (mm_fc ck_151 (mm_fc ck_152 (mm_fc ck_153 (mm_fc ck_154 (mm_fc ck_155 (mm_fc ck_156 (mm_fc ck_157 (mm_fc ck_158 (mm_fc ck_159 (mm_fc ck_160 (mm_fc ck_161 (mm_fc ck_162 (mm_fc ck_163 (mm_fc ck_164 (mm_fc ck_165 (mm_fc ck_166 (mm_fc ck_167 (mm_fc ck_168 (mm_fc ck_169 (mm_fc ck_170 (mm_fc ck_171 (mm_fc ck_172 (mm_fc ck_173 (mm_fc ck_174 (mm_fc ck_175 (mm_fc ck_176 (mm_fc ck_177 (mm_fc ck_178 (mm_fc ck_179 (mm_fc ck_180 (mm_fc ck_181 (mm_fc ck_182 (mm_fc ck_183 (mm_fc ck_184 (mm_fc ck_185 (mm_fc ck_186 (mm_fc ck_187 (mm_fc ck_188 (mm_fc ck_189 (mm_fc ck_190 (mm_fc ck_191 (mm_fc ck_192 (mm_fc ck_193 (mm_fc ck_194 (mm_fc ck_195 (mm_fc ck_196 (mm_fc ck_197 (mm_fc ck_198 (mm_fc ck_199 (mm_fc ck_200 (mm_fc ck_201 (mm_fc ck_202 (mm_fc ck_203 (mm_fc ck_204 (mm_fc ck_205 (mm_fc ck_206 (mm_fc ck_207 (mm_fc ck_208 (mm_fc ck_209 (mm_fc ck_210 (mm_fc ck_211 (mm_fc ck_212 (mm_fc ck_213 (mm_fc ck_214 (mm_fc ck_215 (mm_fc ck_216 (mm_fc ck_217 (mm_fc ck_218 (mm_fc ck_219 (mm_fc ck_220 (mm_fc ck_221 (mm_fc ck_222 (mm_fc ck_223 (mm_fc ck_224 (mm_fc ck_225 (mm_fc ck_226 (mm_fc ck_227 (mm_fc ck_228 (mm_fc ck_229 (mm_fc ck_230 (mm_fc ck_231 (mm_fc ck_232 (mm_fc ck_233 (mm_fc ck_234 (mm_fc ck_235 (mm_fc ck_236 (mm_fc ck_237 (mm_fc ck_238 (mm_fc ck_239 (mm_fc ck_240 (mm_fc ck_241 (mm_fc ck_242 (mm_fc ck_243 (mm_fc ck_244 (mm_fc ck_245 (mm_fc ck_246 (mm_fc ck_247 (mm_fc ck_248 (mm_fc ck_249 (mm_fc ck_250 (mm_fc ck_251 (mm_fc ck_252 (mm_fc ck_253 (mm_fc ck_254 (mm_fc ck_255 (mm_fc ck_256 (mm_fc ck_257 (mm_fc ck_258 (mm_fc ck_259 (fun _ h => absurd h List.not_mem_nil))))))))))))))))))))))))))))))))))))))))))))))))))))))))))))))))))))))))))))))))))))))))))))))))))))))))))))))))))))))))))))))))))))))))))))))))))))))))))))))))))))))))))))))))))))))))))))))))))))))))))))))))))))))))))))))))))))))))))))))))))))))))))))))))))))
theorem mk_okP : mm_okP mk_TB mk_cl mk_SR mk_P := by
  intro k M hM
  obtain ⟨h1, h2, h3⟩ := mk_all M (List.mem_of_getElem? hM)
  unfold mm_hd at h1
  rw [Bool.and_eq_true, decide_eq_true_eq] at h1
  refine ⟨h1.1, h1.2, List.mem_filter.mpr ⟨h2, rfl⟩, fun pc q hq => ?_⟩
  have h4 := List.all_eq_true.mp h3 (pc, q) (mm_lookup_mem _ _ _ hq)
  unfold mm_f at h4
  rw [Bool.and_eq_true, decide_eq_true_eq] at h4
  exact ⟨h4.1, mm_ck_ok h4.2⟩
theorem mk_clsA {R : String} {T : u_T} {N : Nat} {pl : Nat → Option Nat} (h : ((List.range N).all fun k => mm_at mk_LT (pl k) (u_lay R T k)) = true) : ∀ w ∈ u_ws R T N, w ∈ mk_TB := by
  intro w hw
  obtain ⟨k, hk, rfl⟩ := List.mem_map.mp hw
  have h1 := List.all_eq_true.mp h k hk
  exact mm_at_in h1 (by unfold u_lay; split <;> rfl)
theorem mk_clsB {R : String} {N p1 p2 : Nat} (h : (mm_at mk_LT (some p1) (.instantiable R N) && mm_at mk_LT (some p2) (.initialized R)) = true) : Cond.instantiable R N ∈ mk_TB ∧ Cond.initialized R ∈ mk_TB := by
  rw [Bool.and_eq_true] at h
  exact ⟨mm_at_in h.1 rfl, mm_at_in h.2 rfl⟩
theorem mk_clsC {ty : Nat → FieldType} {N : Nat} {fs : List Value} (h : ((List.range N).all fun k => decide (defaultValue (ty k) = vp_V fs k)) = true) : ∀ j, j < N → defaultValue (ty j) = vp_V fs j := fun j hj => of_decide_eq_true (List.all_eq_true.mp h j (List.mem_range.mpr hj))
theorem mk_clsD {fs : List Value} (h : (fs.all fun v => decide (v = .int 0 ∨ v = .long 0 ∨ v = .null)) = true) : ∀ v ∈ fs, v = .int 0 ∨ v = .long 0 ∨ v = .null := fun v hv => of_decide_eq_true (List.all_eq_true.mp h v hv)
theorem mk_clsOK : mm_clsOK mk_TB mk_cl mk_G := by
  intro c q hq
  match c, hq with
  | 0, hq => cases hq; exact ⟨mk_clsA mk_in0, nmX0, (mk_clsB mk_it0).1, (mk_clsB mk_it0).2, tyX0, mk_G.getD 0 [], tyX0_ok, rfl, rfl, mk_clsC mk_df0, mk_clsD mk_dz0⟩
  | 1, hq => cases hq; exact ⟨mk_clsA mk_in1, nmX1, (mk_clsB mk_it1).1, (mk_clsB mk_it1).2, tyX1, mk_G.getD 1 [], tyX1_ok, rfl, rfl, mk_clsC mk_df1, mk_clsD mk_dz1⟩
  | 2, hq => cases hq; exact ⟨mk_clsA mk_in2, nmX2, (mk_clsB mk_it2).1, (mk_clsB mk_it2).2, tyX2, mk_G.getD 2 [], tyX2_ok, rfl, rfl, mk_clsC mk_df2, mk_clsD mk_dz2⟩
  | 3, hq => cases hq; exact ⟨mk_clsA mk_in3, nmX3, (mk_clsB mk_it3).1, (mk_clsB mk_it3).2, tyX3, mk_G.getD 3 [], tyX3_ok, rfl, rfl, mk_clsC mk_df3, mk_clsD mk_dz3⟩
  | 4, hq => cases hq; exact ⟨mk_clsA mk_in4, nmX4, (mk_clsB mk_it4).1, (mk_clsB mk_it4).2, tyX4, mk_G.getD 4 [], tyX4_ok, rfl, rfl, mk_clsC mk_df4, mk_clsD mk_dz4⟩
  | 5, hq => cases hq; exact ⟨mk_clsA mk_in5, nmX5, (mk_clsB mk_it5).1, (mk_clsB mk_it5).2, tyX5, mk_G.getD 5 [], tyX5_ok, rfl, rfl, mk_clsC mk_df5, mk_clsD mk_dz5⟩
  | 6, hq => cases hq; exact ⟨mk_clsA mk_in6, nmX6, (mk_clsB mk_it6).1, (mk_clsB mk_it6).2, tyX6, mk_G.getD 6 [], tyX6_ok, rfl, rfl, mk_clsC mk_df6, mk_clsD mk_dz6⟩
  | 7, hq => cases hq; exact ⟨mk_clsA mk_in7, nmX7, (mk_clsB mk_it7).1, (mk_clsB mk_it7).2, tyX7, mk_G.getD 7 [], tyX7_ok, rfl, rfl, mk_clsC mk_df7, mk_clsD mk_dz7⟩
  | 8, hq => cases hq; exact ⟨mk_clsA mk_in8, nmX8, (mk_clsB mk_it8).1, (mk_clsB mk_it8).2, tyX8, mk_G.getD 8 [], tyX8_ok, rfl, rfl, mk_clsC mk_df8, mk_clsD mk_dz8⟩
  | k + 9, hq => simp [mk_cl] at hq
theorem mk_stat (l : Launch) (z : Nat) (E : Nat → Nat) : mm_Stat l mk_TB mk_cl mk_SR mk_P mk_G mk_S z E := ⟨mk_clsOK, mk_okP, fun _ hw => mm_kp_or (List.mem_filter.mp hw).2, ⟨_, _, rfl⟩, ⟨_, _, rfl⟩, mk_str l z E⟩
