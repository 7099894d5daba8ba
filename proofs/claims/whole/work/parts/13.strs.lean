def jm_pre : mm_M := (⟨"jdk/internal/util/Preconditions", "checkIndex", "(IILjava/util/function/BiFunction;)I"⟩, prog_19_method_11_code, 3, some .int, [])
theorem jd_pre_0 : decode jm_pre.2.1 0 = .ok (.iload_n 0, 1) := by decide +kernel
theorem jd_pre_1 : decode jm_pre.2.1 1 = .ok (.ifCond .lt 8, 3) := by decide +kernel
theorem jd_pre_4 : decode jm_pre.2.1 4 = .ok (.iload_n 0, 1) := by decide +kernel
theorem jd_pre_5 : decode jm_pre.2.1 5 = .ok (.iload_n 1, 1) := by decide +kernel
theorem jd_pre_6 : decode jm_pre.2.1 6 = .ok (.if_icmp .lt 10, 3) := by decide +kernel
theorem jd_pre_9 : decode jm_pre.2.1 9 = .ok (.aload_n 2, 1) := by decide +kernel
theorem jd_pre_10 : decode jm_pre.2.1 10 = .ok (.iload_n 0, 1) := by decide +kernel
theorem jd_pre_11 : decode jm_pre.2.1 11 = .ok (.iload_n 1, 1) := by decide +kernel
theorem jd_pre_12 : decode jm_pre.2.1 12 = .ok (.invokestatic 95, 3) := by decide +kernel
theorem jd_pre_15 : decode jm_pre.2.1 15 = .ok (.athrow, 1) := by decide +kernel
theorem jd_pre_16 : decode jm_pre.2.1 16 = .ok (.iload_n 0, 1) := by decide +kernel
theorem jd_pre_17 : decode jm_pre.2.1 17 = .ok (.ireturn, 1) := by decide +kernel
set_option maxRecDepth 20000 in
theorem jc_pre : Cond.code jm_pre.1 jm_pre.2.1 jm_pre.2.2.1 jm_pre.2.2.2.1 ∈ mk_TB := List.mem_filter.mpr ⟨List.mem_cons_of_mem _ (List.mem_append_right _ (List.mem_append_right _ (List.mem_append_right _ (List.mem_append_left _ (List.mem_of_getElem? (i := 35) rfl))))), rfl⟩
def jm_chk : mm_M := (⟨"java/lang/String", "checkIndex", "(II)V"⟩, prog_14_method_155_code, 2, none, [])
theorem jd_chk_0 : decode jm_chk.2.1 0 = .ok (.iload_n 0, 1) := by decide +kernel
theorem jd_chk_1 : decode jm_chk.2.1 1 = .ok (.iload_n 1, 1) := by decide +kernel
theorem jd_chk_2 : decode jm_chk.2.1 2 = .ok (.getstatic 1053, 3) := by decide +kernel
theorem jd_chk_5 : decode jm_chk.2.1 5 = .ok (.invokestatic 1059, 3) := by decide +kernel
theorem jd_chk_8 : decode jm_chk.2.1 8 = .ok (.pop, 1) := by decide +kernel
theorem jd_chk_9 : decode jm_chk.2.1 9 = .ok (.return_, 1) := by decide +kernel
set_option maxRecDepth 20000 in
theorem jc_chk : Cond.code jm_chk.1 jm_chk.2.1 jm_chk.2.2.1 jm_chk.2.2.2.1 ∈ mk_TB := List.mem_filter.mpr ⟨List.mem_cons_of_mem _ (List.mem_append_right _ (List.mem_append_right _ (List.mem_append_right _ (List.mem_append_left _ (List.mem_of_getElem? (i := 30) rfl))))), rfl⟩
def jm_lat : mm_M := (⟨"java/lang/String", "isLatin1", "()Z"⟩, prog_14_method_154_code, 1, some .boolean, [])
theorem jd_lat_0 : decode jm_lat.2.1 0 = .ok (.getstatic 38, 3) := by decide +kernel
theorem jd_lat_3 : decode jm_lat.2.1 3 = .ok (.ifCond .eq 14, 3) := by decide +kernel
theorem jd_lat_6 : decode jm_lat.2.1 6 = .ok (.aload_n 0, 1) := by decide +kernel
theorem jd_lat_7 : decode jm_lat.2.1 7 = .ok (.getfield 15, 3) := by decide +kernel
theorem jd_lat_10 : decode jm_lat.2.1 10 = .ok (.ifCond .ne 7, 3) := by decide +kernel
theorem jd_lat_13 : decode jm_lat.2.1 13 = .ok (.iconst 1, 1) := by decide +kernel
theorem jd_lat_14 : decode jm_lat.2.1 14 = .ok (.goto 4, 3) := by decide +kernel
theorem jd_lat_17 : decode jm_lat.2.1 17 = .ok (.iconst 0, 1) := by decide +kernel
theorem jd_lat_18 : decode jm_lat.2.1 18 = .ok (.ireturn, 1) := by decide +kernel
set_option maxRecDepth 20000 in
theorem jc_lat : Cond.code jm_lat.1 jm_lat.2.1 jm_lat.2.2.1 jm_lat.2.2.2.1 ∈ mk_TB := List.mem_filter.mpr ⟨List.mem_cons_of_mem _ (List.mem_append_right _ (List.mem_append_right _ (List.mem_append_right _ (List.mem_append_left _ (List.mem_of_getElem? (i := 24) rfl))))), rfl⟩
def jm_cod : mm_M := (⟨"java/lang/String", "coder", "()B"⟩, prog_14_method_152_code, 1, some .byte, [])
theorem jd_cod_0 : decode jm_cod.2.1 0 = .ok (.getstatic 38, 3) := by decide +kernel
theorem jd_cod_3 : decode jm_cod.2.1 3 = .ok (.ifCond .eq 10, 3) := by decide +kernel
theorem jd_cod_6 : decode jm_cod.2.1 6 = .ok (.aload_n 0, 1) := by decide +kernel
theorem jd_cod_7 : decode jm_cod.2.1 7 = .ok (.getfield 15, 3) := by decide +kernel
theorem jd_cod_10 : decode jm_cod.2.1 10 = .ok (.goto 4, 3) := by decide +kernel
theorem jd_cod_13 : decode jm_cod.2.1 13 = .ok (.iconst 1, 1) := by decide +kernel
theorem jd_cod_14 : decode jm_cod.2.1 14 = .ok (.ireturn, 1) := by decide +kernel
set_option maxRecDepth 20000 in
theorem jc_cod : Cond.code jm_cod.1 jm_cod.2.1 jm_cod.2.2.1 jm_cod.2.2.2.1 ∈ mk_TB := List.mem_filter.mpr ⟨List.mem_cons_of_mem _ (List.mem_append_right _ (List.mem_append_right _ (List.mem_append_right _ (List.mem_append_left _ (List.mem_of_getElem? (i := 14) rfl))))), rfl⟩
def jm_l1 : mm_M := (⟨"java/lang/StringLatin1", "charAt", "([BI)C"⟩, prog_15_method_2_code, 2, some .char, [])
theorem jd_l1_0 : decode jm_l1.2.1 0 = .ok (.iload_n 1, 1) := by decide +kernel
theorem jd_l1_1 : decode jm_l1.2.1 1 = .ok (.aload_n 0, 1) := by decide +kernel
theorem jd_l1_2 : decode jm_l1.2.1 2 = .ok (.arraylength, 1) := by decide +kernel
theorem jd_l1_3 : decode jm_l1.2.1 3 = .ok (.invokestatic 9, 3) := by decide +kernel
theorem jd_l1_6 : decode jm_l1.2.1 6 = .ok (.aload_n 0, 1) := by decide +kernel
theorem jd_l1_7 : decode jm_l1.2.1 7 = .ok (.iload_n 1, 1) := by decide +kernel
theorem jd_l1_8 : decode jm_l1.2.1 8 = .ok (.baload, 1) := by decide +kernel
theorem jd_l1_9 : decode jm_l1.2.1 9 = .ok (.sipush 255, 3) := by decide +kernel
theorem jd_l1_12 : decode jm_l1.2.1 12 = .ok (.iand, 1) := by decide +kernel
theorem jd_l1_13 : decode jm_l1.2.1 13 = .ok (.i2c, 1) := by decide +kernel
theorem jd_l1_14 : decode jm_l1.2.1 14 = .ok (.ireturn, 1) := by decide +kernel
set_option maxRecDepth 20000 in
theorem jc_l1 : Cond.code jm_l1.1 jm_l1.2.1 jm_l1.2.2.1 jm_l1.2.2.2.1 ∈ mk_TB := List.mem_filter.mpr ⟨List.mem_cons_of_mem _ (List.mem_append_right _ (List.mem_append_right _ (List.mem_append_right _ (List.mem_append_left _ (List.mem_of_getElem? (i := 27) rfl))))), rfl⟩
def jm_len : mm_M := (⟨"java/lang/String", "length", "()I"⟩, prog_14_method_54_code, 1, some .int, [])
theorem jd_len_0 : decode jm_len.2.1 0 = .ok (.aload_n 0, 1) := by decide +kernel
theorem jd_len_1 : decode jm_len.2.1 1 = .ok (.getfield 9, 3) := by decide +kernel
theorem jd_len_4 : decode jm_len.2.1 4 = .ok (.arraylength, 1) := by decide +kernel
theorem jd_len_5 : decode jm_len.2.1 5 = .ok (.aload_n 0, 1) := by decide +kernel
theorem jd_len_6 : decode jm_len.2.1 6 = .ok (.invokevirtual 335, 3) := by decide +kernel
theorem jd_len_9 : decode jm_len.2.1 9 = .ok (.ishr, 1) := by decide +kernel
theorem jd_len_10 : decode jm_len.2.1 10 = .ok (.ireturn, 1) := by decide +kernel
set_option maxRecDepth 20000 in
theorem jc_len : Cond.code jm_len.1 jm_len.2.1 jm_len.2.2.1 jm_len.2.2.2.1 ∈ mk_TB := List.mem_filter.mpr ⟨List.mem_cons_of_mem _ (List.mem_append_right _ (List.mem_append_right _ (List.mem_append_right _ (List.mem_append_left _ (List.mem_of_getElem? (i := 10) rfl))))), rfl⟩
def jm_cha : mm_M := (⟨"java/lang/String", "charAt", "(I)C"⟩, prog_14_method_56_code, 2, some .char, [])
theorem jd_cha_0 : decode jm_cha.2.1 0 = .ok (.aload_n 0, 1) := by decide +kernel
theorem jd_cha_1 : decode jm_cha.2.1 1 = .ok (.invokevirtual 492, 3) := by decide +kernel
theorem jd_cha_4 : decode jm_cha.2.1 4 = .ok (.ifCond .eq 12, 3) := by decide +kernel
theorem jd_cha_7 : decode jm_cha.2.1 7 = .ok (.aload_n 0, 1) := by decide +kernel
theorem jd_cha_8 : decode jm_cha.2.1 8 = .ok (.getfield 9, 3) := by decide +kernel
theorem jd_cha_11 : decode jm_cha.2.1 11 = .ok (.iload_n 1, 1) := by decide +kernel
theorem jd_cha_12 : decode jm_cha.2.1 12 = .ok (.invokestatic 495, 3) := by decide +kernel
theorem jd_cha_15 : decode jm_cha.2.1 15 = .ok (.ireturn, 1) := by decide +kernel
theorem jd_cha_16 : decode jm_cha.2.1 16 = .ok (.aload_n 0, 1) := by decide +kernel
theorem jd_cha_17 : decode jm_cha.2.1 17 = .ok (.getfield 9, 3) := by decide +kernel
theorem jd_cha_20 : decode jm_cha.2.1 20 = .ok (.iload_n 1, 1) := by decide +kernel
theorem jd_cha_21 : decode jm_cha.2.1 21 = .ok (.invokestatic 498, 3) := by decide +kernel
theorem jd_cha_24 : decode jm_cha.2.1 24 = .ok (.ireturn, 1) := by decide +kernel
set_option maxRecDepth 20000 in
theorem jc_cha : Cond.code jm_cha.1 jm_cha.2.1 jm_cha.2.2.1 jm_cha.2.2.2.1 ∈ mk_TB := List.mem_filter.mpr ⟨List.mem_cons_of_mem _ (List.mem_append_right _ (List.mem_append_right _ (List.mem_append_right _ (List.mem_append_left _ (List.mem_of_getElem? (i := 20) rfl))))), rfl⟩
theorem jl_cod : Cond.methodLink "java/lang/String" 335 jm_cod.1 ∈ mk_TB := mm_at_in (p := some 603) (by decide +kernel) rfl
theorem jl_lat : Cond.methodLink "java/lang/String" 492 jm_lat.1 ∈ mk_TB := mm_at_in (p := some 613) (by decide +kernel) rfl
theorem jl_l1 : Cond.methodLink "java/lang/String" 495 jm_l1.1 ∈ mk_TB := mm_at_in (p := some 617) (by decide +kernel) rfl
theorem jl_chk : Cond.methodLink "java/lang/StringLatin1" 9 jm_chk.1 ∈ mk_TB := mm_at_in (p := some 620) (by decide +kernel) rfl
theorem jl_pre : Cond.methodLink "java/lang/String" 1059 jm_pre.1 ∈ mk_TB := mm_at_in (p := some 625) (by decide +kernel) rfl
theorem ji_cod : Cond.instanceMethod jm_cod.1 ∈ mk_TB := mm_at_in (p := some 604) (by decide +kernel) rfl
theorem js_cod : Cond.selects "java/lang/String" jm_cod.1 jm_cod.1 ∈ mk_TB := mm_at_in (p := some 605) (by decide +kernel) rfl
theorem ji_lat : Cond.instanceMethod jm_lat.1 ∈ mk_TB := mm_at_in (p := some 614) (by decide +kernel) rfl
theorem js_lat : Cond.selects "java/lang/String" jm_lat.1 jm_lat.1 ∈ mk_TB := mm_at_in (p := some 615) (by decide +kernel) rfl
theorem ji_len : Cond.instanceMethod jm_len.1 ∈ mk_TB := mm_at_in (p := some 600) (by decide +kernel) rfl
theorem js_len : Cond.selects "java/lang/String" jm_len.1 jm_len.1 ∈ mk_TB := mm_at_in (p := some 601) (by decide +kernel) rfl
theorem ji_cha : Cond.instanceMethod jm_cha.1 ∈ mk_TB := mm_at_in (p := some 610) (by decide +kernel) rfl
theorem js_cha : Cond.selects "java/lang/String" jm_cha.1 jm_cha.1 ∈ mk_TB := mm_at_in (p := some 611) (by decide +kernel) rfl
theorem jt_pre : Cond.static jm_pre.1 ∈ mk_TB := mm_at_in (p := some 626) (by decide +kernel) rfl
theorem jt_chk : Cond.static jm_chk.1 ∈ mk_TB := mm_at_in (p := some 621) (by decide +kernel) rfl
theorem jt_l1 : Cond.static jm_l1.1 ∈ mk_TB := mm_at_in (p := some 618) (by decide +kernel) rfl
theorem jn_str : Cond.initialized "java/lang/String" ∈ mk_TB := mm_at_in (p := some 123) (by decide +kernel) rfl
theorem jn_l1 : Cond.initialized "java/lang/StringLatin1" ∈ mk_TB := mm_at_in (p := some 124) (by decide +kernel) rfl
theorem jn_pre : Cond.initialized "jdk/internal/util/Preconditions" ∈ mk_TB := mm_at_in (p := some 125) (by decide +kernel) rfl
theorem jf_cs : Cond.fieldLink "java/lang/String" 38 "java/lang/String" "COMPACT_STRINGS" "Z" ∈ mk_TB := mm_at_in (p := some 607) (by decide +kernel) rfl
theorem jf_si : Cond.fieldLink "java/lang/String" 1053 "jdk/internal/util/Preconditions" "SIOOBE_FORMATTER" "Ljava/util/function/BiFunction;" ∈ mk_TB := mm_at_in (p := some 623) (by decide +kernel) rfl
theorem jf_va : Cond.fieldLink "java/lang/String" 9 "java/lang/String" "value" "[B" ∈ mk_TB := mm_at_in (p := some 1719) (by decide +kernel) rfl
theorem jf_co : Cond.fieldLink "java/lang/String" 15 "java/lang/String" "coder" "B" ∈ mk_TB := mm_at_in (p := some 1720) (by decide +kernel) rfl

def mm_Qq (v : Option Value) : Array Value → State → Outcome → State → Prop := fun _ st oc t => oc = .returned v ∧ t.heap = st.heap
theorem mm_quiet {p : Program} {l : Launch} {e : Env} {R : Room} {s : State} {m : MethodId} {args : Array Value} {below : List Frame} {meth : Method} {c : Code} {Q : State → Prop} {H : Heap} {locs : List Loc} {cells slots pc : Nat} {ls : Array Slot} {st0 rest : List Value} {v : Option Value} {a : Array Value}
    (hr : va_Run p l e R s m args below meth c H locs cells slots 0 0 (F0 m pc ls st0) rest (mm_Qq v a) (fun _ => False)) (kk : W p l e R s m args below meth c H locs cells slots Q (F0 m (pc + 3) ls (v.toList ++ rest))) : W p l e R s m args below meth c H locs cells slots Q (F0 m pc ls st0) := by
  intro T hT X
  obtain ⟨v', st₀, t, T', L, h0, X', hL, e1, e2, ⟨hv, hh⟩, st⟩ := hr T hT X
  cases hv
  obtain ⟨t2, a1, b1⟩ := kk T' (by rw [e1, hh, h0]) (Stand.forget X' (fun q h => (hL q h).elim))
  exact ⟨t2, st t2 a1, b1⟩
theorem jm_hts {M : mm_M} {args : Array Value} {s : State} (h1 : ∀ w ∈ mm_ws mk_TB M, w.before args s = true) {w : Cond} (hw : w ∈ mk_TB) (hg : goodWord w = true) : w.before args s = true := h1 w (List.mem_cons_of_mem _ (List.mem_filter.mpr ⟨hw, hg⟩))
def jm_room (f lo : Nat) : Room := { frames := f, cells := 0, slots := 0, locals := lo }
theorem jm_good {M : mm_M} : GoodIn (mk_TB.filter goodWord) (mk_TB.filter goodWord) := fun w hw => ⟨hw, good_of_word (List.mem_filter.mp hw).2⟩
theorem jm_goodc {M : mm_M} (hc : Cond.code M.1 M.2.1 M.2.2.1 M.2.2.2.1 ∈ mk_TB) : GoodIn (mk_TB.filter goodWord) (mm_ws mk_TB M) := by
  intro w hw
  rcases List.mem_cons.mp hw with rfl | hw
  · exact ⟨List.mem_filter.mpr ⟨hc, rfl⟩, good_of_word rfl⟩
  · exact ⟨hw, good_of_word (List.mem_filter.mp hw).2⟩
set_option maxHeartbeats 1000000 in
/-- Preconditions.checkIndex(i, n, f): i, within -/
theorem j_pre (l : Launch) (i n : Int32) (f : Value) (hf : f = .null ∨ ∃ a, f = .ref a) (h0 : ¬ i < 0) (h1 : i < n) : Met l jm_pre.1 (mm_ws mk_TB jm_pre) (jm_room 0 0) (va_Pc [.int i, .int n, f] (fun _ => True)) (mm_Qq (some (.int i))) 0 0 (fun _ => False) := by
  refine Met.ofW (cc := jm_pre.2.1) (maxL := 3) (ret := some .int) (by decide) rfl ?_
  intro p e s m args below meth c s₁ B hml hv
  obtain ⟨rfl, -⟩ := hv
  have hx := B.exec
  have hb := B.bytes
  have hr := B.returns
  have hlocks := B.notSynchronized
  have hl : lv_has ((lg_sl ([.int i, .int n, f]) ++ List.replicate (3 - (lg_sl ([.int i, .int n, f])).length) Slot.unset).toArray) 3 [(0, .int i), (1, .int n), (2, f)] := by
    rcases hf with rfl | ⟨a, rfl⟩ <;> exact lv_entry _ (n := 3) (Nat.le_of_ble_eq_true rfl)
  rw [lg_entry_eq]
  generalize (lg_sl ([.int i, .int n, f]) ++ List.replicate (3 - (lg_sl ([.int i, .int n, f])).length) Slot.unset).toArray = ls at hl ⊢
  refine lv_iload_n hx hb jd_pre_0 rfl (lv_at hl 0 rfl) ?_
  refine lv_if_lt (tgt := 9) hx hb jd_pre_1 (by decide) (fun h => absurd h h0) (fun _ => ?_)
  refine lv_iload_n hx hb jd_pre_4 rfl (lv_at hl 0 rfl) ?_
  refine lv_iload_n hx hb jd_pre_5 rfl (lv_at hl 1 rfl) ?_
  refine lv_icmp_lt (tgt := 16) hx hb jd_pre_6 (by decide) (fun _ => ?_) (fun h => absurd h1 h)
  refine lv_iload_n hx hb jd_pre_16 rfl (lv_at hl 0 rfl) ?_
  exact W.iret hx hb hr (fun t ht _ => ⟨rfl, ht⟩) (fun q h => by cases h) jd_pre_17 hlocks
set_option maxHeartbeats 1000000 in
/-- String.checkIndex(i, n) -/
theorem j_chk (l : Launch) (z : Nat) (i n : Int32) (h0 : ¬ i < 0) (h1 : i < n) : Met l jm_chk.1 (mm_ws mk_TB jm_chk) (jm_room 1 30) (va_Pc [.int i, .int n] (fun U => va_Zq "jdk/internal/util/Preconditions" "SIOOBE_FORMATTER" "Ljava/util/function/BiFunction;" (fun a : Nat => z ≤ a) U U.heap)) (mm_Qq none) 0 0 (fun _ => False) := by
  refine Met.ofW (cc := jm_chk.2.1) (maxL := 2) (ret := none) (by decide) rfl ?_
  intro p e s m args below meth c s₁ B hml hv
  obtain ⟨rfl, hZq⟩ := hv
  have hx := B.exec
  have hb := B.bytes
  have hr := B.returns
  have hlocks := B.notSynchronized
  have hts0 := atoms_spec (ws := mm_ws mk_TB jm_chk) B.pre
  have hts : ∀ w ∈ mk_TB.filter goodWord, w.before _ s = true := fun w hw => hts0 w (List.mem_cons_of_mem _ hw)
  have hown : s.vm.findClass "java/lang/String" = some m.cls := findClass_of_methodNamed B.named
  have hS : va_S (fun a : Nat => z ≤ a) s.heap s.heap [] := va_S.rf
  have hl := lv_entry ([.int i, .int n]) (n := 2) (Nat.le_of_ble_eq_true rfl)
  rw [lg_entry_eq]
  generalize (lg_sl ([.int i, .int n]) ++ List.replicate (2 - (lg_sl ([.int i, .int n])).length) Slot.unset).toArray = ls at hl ⊢
  have hl : lv_has ls 2 [(0, .int i), (1, .int n)] := hl
  refine lv_iload_n hx hb jd_chk_0 rfl (lv_at hl 0 rfl) ?_
  refine lv_iload_n hx hb jd_chk_1 rfl (lv_at hl 1 rfl) ?_
  have key : ∀ f : Value, (f = .null ∨ ∃ a, f = .ref a) → va_Z "jdk/internal/util/Preconditions" "SIOOBE_FORMATTER" "Ljava/util/function/BiFunction;" f (fun a : Nat => z ≤ a) s s.heap → W p l e (headSpec (mm_ws mk_TB jm_chk) (jm_room 1 30)).room s m ([.int i, .int n] : List Value).toArray below meth c s.heap [] 0 0 (MQ below (mm_Qq none) ([.int i, .int n] : List Value).toArray s 0 0 (fun _ => False)) (F0 m 2 ls [.int n, .int i]) := by
    intro f hf hZ
    refine va_gets hx hb hZ hS hown (jm_hts hts0 jf_si rfl) (fun _ h => h) jd_chk_2 ?_
    refine mm_quiet (a := #[]) (v := some (.int i)) (rest := []) (va_runS (As := [.int i, .int n, f]) (rest := []) ⟨hx, hb, hml, hown, hts⟩ (j_pre l i n f hf h0 h1) ⟨callB_of 3 hts (jm_goodc jc_pre) rfl rfl rfl (jm_hts hts0 jn_pre rfl) (jm_hts hts0 jl_pre rfl) ⟨by decide, by decide, by decide +kernel⟩ ⟨by decide, by decide⟩, jm_hts hts0 jt_pre rfl⟩ ⟨fun a U g mk q => q, fun U _ _ => ⟨rfl, trivial⟩⟩ rfl rfl hl.1 rfl (lv_room (Nat.le_of_ble_eq_true rfl)) jd_chk_5 ⟨Nat.zero_le _, Nat.zero_le _⟩) ?_
    refine lv_pop hx hb jd_chk_8 rfl ?_
    exact W.vret hx hb hr (fun t ht _ => ⟨rfl, ht⟩) (fun q h => by cases h) jd_chk_9 hlocks
  rcases hZq with h | ⟨t, h⟩
  · exact key _ (Or.inl rfl) h
  · exact key _ (Or.inr ⟨t, rfl⟩) h
set_option maxHeartbeats 1000000 in
/-- String.isLatin1() -/
theorem j_lat (l : Launch) (z a : Nat) : Met l jm_lat.1 (mm_ws mk_TB jm_lat) (jm_room 0 0) (va_Pc [.ref a] (fun U => va_Z "java/lang/String" "COMPACT_STRINGS" "Z" (.int 1) (fun a : Nat => z ≤ a) U U.heap ∧ va_OF "java/lang/String" "coder" "B" (.int 0) a (fun a : Nat => z ≤ a) U U.heap)) (mm_Qq (some (.int 1))) 0 0 (fun _ => False) := by
  refine Met.ofW (cc := jm_lat.2.1) (maxL := 1) (ret := some .boolean) (by decide) rfl ?_
  intro p e s m args below meth c s₁ B hml hv
  obtain ⟨rfl, hZ, hO⟩ := hv
  have hx := B.exec
  have hb := B.bytes
  have hr := B.returns
  have hlocks := B.notSynchronized
  have hts0 := atoms_spec (ws := mm_ws mk_TB jm_lat) B.pre
  have hown : s.vm.findClass "java/lang/String" = some m.cls := findClass_of_methodNamed B.named
  have hS : va_S (fun a : Nat => z ≤ a) s.heap s.heap [] := va_S.rf
  have hl := lv_entry ([.ref a]) (n := 1) (Nat.le_of_ble_eq_true rfl)
  rw [lg_entry_eq]
  generalize (lg_sl ([.ref a]) ++ List.replicate (1 - (lg_sl ([.ref a])).length) Slot.unset).toArray = ls at hl ⊢
  have hl : lv_has ls 1 [(0, .ref a)] := hl
  refine va_gets hx hb hZ hS hown (jm_hts hts0 jf_cs rfl) (fun _ h => h) jd_lat_0 ?_
  refine lv_if_eq (tgt := 17) hx hb jd_lat_3 (by decide) (fun h => absurd h (by decide)) (fun _ => ?_)
  refine lv_aload_n hx hb jd_lat_6 rfl (lv_at hl 0 rfl) ?_
  refine vk_getf hx hb hO hS hown (jm_hts hts0 jf_co rfl) (fun _ h => h) jd_lat_7 ?_
  refine lv_if_ne (tgt := 17) hx hb jd_lat_10 (by decide) (fun h => absurd rfl h) (fun _ => ?_)
  refine lv_iconst (v := 1) hx hb jd_lat_13 (by decide) ?_
  refine lv_goto (tgt := 18) hx hb jd_lat_14 (by decide) ?_
  exact W.zret hx hb hr (by decide) (fun t ht _ => ⟨rfl, ht⟩) (fun q h => by cases h) jd_lat_18 hlocks
set_option maxHeartbeats 1000000 in
/-- String.coder() -/
theorem j_cod (l : Launch) (z a : Nat) : Met l jm_cod.1 (mm_ws mk_TB jm_cod) (jm_room 0 0) (va_Pc [.ref a] (fun U => va_Z "java/lang/String" "COMPACT_STRINGS" "Z" (.int 1) (fun a : Nat => z ≤ a) U U.heap ∧ va_OF "java/lang/String" "coder" "B" (.int 0) a (fun a : Nat => z ≤ a) U U.heap)) (mm_Qq (some (.int 0))) 0 0 (fun _ => False) := by
  refine Met.ofW (cc := jm_cod.2.1) (maxL := 1) (ret := some .byte) (by decide) rfl ?_
  intro p e s m args below meth c s₁ B hml hv
  obtain ⟨rfl, hZ, hO⟩ := hv
  have hx := B.exec
  have hb := B.bytes
  have hr := B.returns
  have hlocks := B.notSynchronized
  have hts0 := atoms_spec (ws := mm_ws mk_TB jm_cod) B.pre
  have hown : s.vm.findClass "java/lang/String" = some m.cls := findClass_of_methodNamed B.named
  have hS : va_S (fun a : Nat => z ≤ a) s.heap s.heap [] := va_S.rf
  have hl := lv_entry ([.ref a]) (n := 1) (Nat.le_of_ble_eq_true rfl)
  rw [lg_entry_eq]
  generalize (lg_sl ([.ref a]) ++ List.replicate (1 - (lg_sl ([.ref a])).length) Slot.unset).toArray = ls at hl ⊢
  have hl : lv_has ls 1 [(0, .ref a)] := hl
  refine va_gets hx hb hZ hS hown (jm_hts hts0 jf_cs rfl) (fun _ h => h) jd_cod_0 ?_
  refine lv_if_eq (tgt := 13) hx hb jd_cod_3 (by decide) (fun h => absurd h (by decide)) (fun _ => ?_)
  refine lv_aload_n hx hb jd_cod_6 rfl (lv_at hl 0 rfl) ?_
  refine vk_getf hx hb hO hS hown (jm_hts hts0 jf_co rfl) (fun _ h => h) jd_cod_7 ?_
  refine lv_goto (tgt := 14) hx hb jd_cod_10 (by decide) ?_
  exact W.zret hx hb hr (by decide) (fun t ht _ => ⟨rfl, ht⟩) (fun q h => by cases h) jd_cod_14 hlocks

theorem jm_Y_blind {S : List (List Int32)} {z : Nat} {E : Nat → Nat} {vs : List Value} : FrameBlind (va_Pc vs (fun U => mm_Y S z E U U.heap)) := fun _ U g mk q => ⟨q.1, mm_Y.moved (u := U) (U := U.calling g mk _) (H := U.heap) (Vm.Alike.refl U.vm) q.2⟩
set_option maxHeartbeats 1000000 in
/-- StringLatin1.charAt(t, i) -/
theorem j_l1 (l : Launch) (z t N : Nat) (g : Nat → Int32) (i v : Int32) (h0 : ¬ i < 0) (h1 : i < Int32.ofNat N) (hi : i.toNatClampNeg < N) (hv : (((g i.toNatClampNeg) &&& 255).toUInt32 % 65536).toInt32 = v) (hn : narrow .char (.int v) = .int v) : Met l jm_l1.1 (mm_ws mk_TB jm_l1) (jm_room 2 60) (va_Pc [.ref t, .int i] (fun U => va_T .byte t N (fun j => .int (g j)) (fun a : Nat => z ≤ a) U U.heap ∧ va_Zq "jdk/internal/util/Preconditions" "SIOOBE_FORMATTER" "Ljava/util/function/BiFunction;" (fun a : Nat => z ≤ a) U U.heap)) (mm_Qq (some (.int v))) 0 0 (fun _ => False) := by
  refine Met.ofW (cc := jm_l1.2.1) (maxL := 2) (ret := some .char) (by decide) rfl ?_
  intro p e s m args below meth c s₁ B hml hvv
  obtain ⟨rfl, hT, hZq⟩ := hvv
  have hx := B.exec
  have hb := B.bytes
  have hr := B.returns
  have hlocks := B.notSynchronized
  have hts0 := atoms_spec (ws := mm_ws mk_TB jm_l1) B.pre
  have hts : ∀ w ∈ mk_TB.filter goodWord, w.before _ s = true := fun w hw => hts0 w (List.mem_cons_of_mem _ hw)
  have hown : s.vm.findClass "java/lang/StringLatin1" = some m.cls := findClass_of_methodNamed B.named
  have hS : va_S (fun a : Nat => z ≤ a) s.heap s.heap [] := va_S.rf
  have hl := lv_entry ([.ref t, .int i]) (n := 2) (Nat.le_of_ble_eq_true rfl)
  rw [lg_entry_eq]
  generalize (lg_sl ([.ref t, .int i]) ++ List.replicate (2 - (lg_sl ([.ref t, .int i])).length) Slot.unset).toArray = ls at hl ⊢
  have hl : lv_has ls 2 [(0, .ref t), (1, .int i)] := hl
  refine lv_iload_n hx hb jd_l1_0 rfl (lv_at hl 1 rfl) ?_
  refine lv_aload_n hx hb jd_l1_1 rfl (lv_at hl 0 rfl) ?_
  refine va_tlen hx hb hT hS rfl jd_l1_2 ?_
  refine mm_quiet (a := #[]) (v := none) (rest := []) (va_runS (As := [.int i, .int (Int32.ofNat N)]) (rest := []) ⟨hx, hb, hml, hown, hts⟩ (j_chk l z i (Int32.ofNat N) h0 h1) ⟨callB_of 2 hts (jm_goodc jc_chk) rfl rfl rfl (jm_hts hts0 jn_str rfl) (jm_hts hts0 jl_chk rfl) ⟨by decide, by decide, by decide +kernel⟩ ⟨by decide, by decide⟩, jm_hts hts0 jt_chk rfl⟩ ⟨fun a U g mk q => ⟨q.1, va_Zq.moved (u := U) (U := U.calling g mk a) (H := U.heap) (Vm.Alike.refl U.vm) q.2⟩, fun U hU hW => ⟨rfl, by show va_Zq _ _ _ _ U U.heap; rw [hU]; exact hZq.moved hW.alike⟩⟩ rfl rfl hl.1 rfl (lv_room (Nat.le_of_ble_eq_true rfl)) jd_l1_3 ⟨Nat.zero_le _, Nat.zero_le _⟩) ?_
  refine lv_aload_n hx hb jd_l1_6 rfl (lv_at hl 0 rfl) ?_
  refine lv_iload_n hx hb jd_l1_7 rfl (lv_at hl 1 rfl) ?_
  refine va_tb hx hb hT hS (i := i) (fun q => q.elim h0 (fun q => absurd hi (Nat.not_lt.mpr q))) rfl jd_l1_8 ?_
  refine lv_sipush (v := 255) hx hb jd_l1_9 (by decide) ?_
  refine lv_iand hx hb jd_l1_12 ?_
  refine lv_i2c hx hb jd_l1_13 hv ?_
  exact W.zret hx hb hr hn (fun t ht _ => ⟨rfl, ht⟩) (fun q h => by cases h) jd_l1_14 hlocks
set_option maxHeartbeats 1000000 in
/-- String.length() of a text constant -/
theorem j_len (l : Launch) (S : List (List Int32)) (z : Nat) (E : Nat → Nat) (k : Nat) (hk : k < S.length) : Met l jm_len.1 (mm_ws mk_TB jm_len) (jm_room 1 30) (va_Pc [.ref (E (16 + k))] (fun U => mm_Y S z E U U.heap)) (mm_Qq (some (.int (Int32.ofNat ((S.map List.length).getD k 0))))) 0 0 (fun _ => False) := by
  refine Met.ofW (cc := jm_len.2.1) (maxL := 1) (ret := some .int) (by decide) rfl ?_
  intro p e s m args below meth c s₁ B hml hvv
  obtain ⟨rfl, ⟨adV, hVS⟩, hZ, hZq⟩ := hvv
  have hx := B.exec
  have hb := B.bytes
  have hr := B.returns
  have hlocks := B.notSynchronized
  have hts0 := atoms_spec (ws := mm_ws mk_TB jm_len) B.pre
  have hts : ∀ w ∈ mk_TB.filter goodWord, w.before _ s = true := fun w hw => hts0 w (List.mem_cons_of_mem _ hw)
  have hown : s.vm.findClass "java/lang/String" = some m.cls := findClass_of_methodNamed B.named
  have hS : va_S (fun a : Nat => z ≤ a) s.heap s.heap [] := va_S.rf
  have hl := lv_entry ([.ref (E (16 + k))]) (n := 1) (Nat.le_of_ble_eq_true rfl)
  rw [lg_entry_eq]
  generalize (lg_sl ([.ref (E (16 + k))]) ++ List.replicate (1 - (lg_sl ([.ref (E (16 + k))])).length) Slot.unset).toArray = ls at hl ⊢
  have hl : lv_has ls 1 [(0, .ref (E (16 + k)))] := hl
  obtain ⟨hO, hOc, hOv, hT⟩ := hVS.1 k hk
  refine lv_aload_n hx hb jd_len_0 rfl (lv_at hl 0 rfl) ?_
  refine vk_getf hx hb hOv hS hown (jm_hts hts0 jf_va rfl) (fun _ h => h) jd_len_1 ?_
  refine va_tlen hx hb hT hS rfl jd_len_4 ?_
  refine lv_aload_n hx hb jd_len_5 rfl (lv_at hl 0 rfl) ?_
  refine mm_quiet (a := #[]) (v := some (.int 0)) (rest := [.int (Int32.ofNat ((S.map List.length).getD k 0))]) (va_runV (As := []) (b := E (16 + k)) (rest := [.int (Int32.ofNat ((S.map List.length).getD k 0))]) ⟨hx, hb, hml, hown, hts⟩ (j_cod l z (E (16 + k))) ⟨callB_of 0 hts (jm_goodc jc_cod) rfl rfl rfl (jm_hts hts0 jn_str rfl) (jm_hts hts0 jl_cod rfl) ⟨by decide, by decide, by decide +kernel⟩ ⟨by decide, by decide⟩, jm_hts hts0 ji_cod rfl, jm_hts hts0 js_cod rfl⟩ ⟨fun a U g mk q => ⟨q.1, va_Z.moved (u := U) (U := U.calling g mk a) (H := U.heap) (Vm.Alike.refl U.vm) q.2.1, va_OF.moved (u := U) (U := U.calling g mk a) (H := U.heap) (Vm.Alike.refl U.vm) q.2.2⟩, vk_recv (adK := fun i => E (16 + i)) (i := k) hVS hk hS, fun U hU hW => ⟨rfl, by rw [hU]; exact hZ.moved hW.alike, by rw [hU]; exact hOc.moved hW.alike⟩⟩ rfl rfl hl.1 rfl (lv_room (Nat.le_of_ble_eq_true rfl)) jd_len_6 ⟨Nat.zero_le _, Nat.zero_le _⟩) ?_
  refine lv_ishr hx hb jd_len_9 ?_
  have e1 : (Int32.ofNat ((S.map List.length).getD k 0)) >>> ((0 : Int32) &&& 31) = Int32.ofNat ((S.map List.length).getD k 0) := by
    have : (0 : Int32) &&& 31 = 0 := by decide
    rw [this]
    simp
  rw [e1]
  exact W.iret hx hb hr (fun t ht _ => ⟨rfl, ht⟩) (fun q h => by cases h) jd_len_10 hlocks
set_option maxHeartbeats 1000000 in
/-- String.charAt(i) of a text constant -/
theorem j_cha (l : Launch) (S : List (List Int32)) (z : Nat) (E : Nat → Nat) (k : Nat) (hk : k < S.length) (i v : Int32) (h0 : ¬ i < 0) (h1 : i < Int32.ofNat ((S.map List.length).getD k 0)) (hi : i.toNatClampNeg < (S.map List.length).getD k 0) (hv : ((((S.getD k []).getD i.toNatClampNeg 0) &&& 255).toUInt32 % 65536).toInt32 = v) (hn : narrow .char (.int v) = .int v) : Met l jm_cha.1 (mm_ws mk_TB jm_cha) (jm_room 3 90) (va_Pc [.ref (E (16 + k)), .int i] (fun U => mm_Y S z E U U.heap)) (mm_Qq (some (.int v))) 0 0 (fun _ => False) := by
  refine Met.ofW (cc := jm_cha.2.1) (maxL := 2) (ret := some .char) (by decide) rfl ?_
  intro p e s m args below meth c s₁ B hml hvv
  obtain ⟨rfl, ⟨adV, hVS⟩, hZ, hZq⟩ := hvv
  have hx := B.exec
  have hb := B.bytes
  have hr := B.returns
  have hlocks := B.notSynchronized
  have hts0 := atoms_spec (ws := mm_ws mk_TB jm_cha) B.pre
  have hts : ∀ w ∈ mk_TB.filter goodWord, w.before _ s = true := fun w hw => hts0 w (List.mem_cons_of_mem _ hw)
  have hown : s.vm.findClass "java/lang/String" = some m.cls := findClass_of_methodNamed B.named
  have hS : va_S (fun a : Nat => z ≤ a) s.heap s.heap [] := va_S.rf
  have hl := lv_entry ([.ref (E (16 + k)), .int i]) (n := 2) (Nat.le_of_ble_eq_true rfl)
  rw [lg_entry_eq]
  generalize (lg_sl ([.ref (E (16 + k)), .int i]) ++ List.replicate (2 - (lg_sl ([.ref (E (16 + k)), .int i])).length) Slot.unset).toArray = ls at hl ⊢
  have hl : lv_has ls 2 [(0, .ref (E (16 + k))), (1, .int i)] := hl
  obtain ⟨hO, hOc, hOv, hT⟩ := hVS.1 k hk
  refine lv_aload_n hx hb jd_cha_0 rfl (lv_at hl 0 rfl) ?_
  refine mm_quiet (a := #[]) (v := some (.int 1)) (rest := []) (va_runV (As := []) (b := E (16 + k)) (rest := []) ⟨hx, hb, hml, hown, hts⟩ (j_lat l z (E (16 + k))) ⟨callB_of 0 hts (jm_goodc jc_lat) rfl rfl rfl (jm_hts hts0 jn_str rfl) (jm_hts hts0 jl_lat rfl) ⟨by decide, by decide, by decide +kernel⟩ ⟨by decide, by decide⟩, jm_hts hts0 ji_lat rfl, jm_hts hts0 js_lat rfl⟩ ⟨fun a U g mk q => ⟨q.1, va_Z.moved (u := U) (U := U.calling g mk a) (H := U.heap) (Vm.Alike.refl U.vm) q.2.1, va_OF.moved (u := U) (U := U.calling g mk a) (H := U.heap) (Vm.Alike.refl U.vm) q.2.2⟩, vk_recv (adK := fun i => E (16 + i)) (i := k) hVS hk hS, fun U hU hW => ⟨rfl, by rw [hU]; exact hZ.moved hW.alike, by rw [hU]; exact hOc.moved hW.alike⟩⟩ rfl rfl hl.1 rfl (lv_room (Nat.le_of_ble_eq_true rfl)) jd_cha_1 ⟨Nat.zero_le _, Nat.zero_le _⟩) ?_
  refine lv_if_eq (tgt := 16) hx hb jd_cha_4 (by decide) (fun h => absurd h (by decide)) (fun _ => ?_)
  refine lv_aload_n hx hb jd_cha_7 rfl (lv_at hl 0 rfl) ?_
  refine vk_getf hx hb hOv hS hown (jm_hts hts0 jf_va rfl) (fun _ h => h) jd_cha_8 ?_
  refine lv_iload_n hx hb jd_cha_11 rfl (lv_at hl 1 rfl) ?_
  refine mm_quiet (a := #[]) (v := some (.int v)) (rest := []) (va_runS (As := [.ref (adV k), .int i]) (rest := []) ⟨hx, hb, hml, hown, hts⟩ (j_l1 l z (adV k) ((S.map List.length).getD k 0) (fun j => (S.getD k []).getD j 0) i v h0 h1 hi hv hn) ⟨callB_of 2 hts (jm_goodc jc_l1) rfl rfl rfl (jm_hts hts0 jn_l1 rfl) (jm_hts hts0 jl_l1 rfl) ⟨by decide, by decide, by decide +kernel⟩ ⟨by decide, by decide⟩, jm_hts hts0 jt_l1 rfl⟩ ⟨fun a U g mk q => ⟨q.1, va_T.moved (u := U) (U := U.calling g mk a) (H := U.heap) (Vm.Alike.refl U.vm) q.2.1, va_Zq.moved (u := U) (U := U.calling g mk a) (H := U.heap) (Vm.Alike.refl U.vm) q.2.2⟩, fun U hU hW => ⟨rfl, by rw [hU]; exact hT.moved hW.alike, by rw [hU]; exact hZq.moved hW.alike⟩⟩ rfl rfl hl.1 rfl (lv_room (Nat.le_of_ble_eq_true rfl)) jd_cha_12 ⟨Nat.zero_le _, Nat.zero_le _⟩) ?_
  exact W.zret hx hb hr hn (fun t ht _ => ⟨rfl, ht⟩) (fun q h => by cases h) jd_cha_15 hlocks
theorem jm_signs : ∀ tx ∈ mk_S, tx.length < 1000 ∧ ∀ b ∈ tx, ((b &&& 255).toUInt32 % 65536).toInt32 = b ∧ narrow .char (.int b) = .int b := by decide +kernel
set_option maxHeartbeats 1000000 in
/-- the text constants' calls -/
theorem mk_str (l : Launch) (z : Nat) (E : Nat → Nat) : mm_StrOK l mk_TB mk_S z E := by
  intro p e R s m args below meth c Q y cc nL hx hb hml hown hts hY hzs hfr hlo
  refine ⟨?_, ?_⟩
  · intro pc k ls H locs cells slots rest x tx hlk hd hS1 h16 hcat hls hc hsl hS kk
    have hk : x.toNat - 16 < mk_S.length := (List.getElem?_eq_some_iff.mp hS1).1
    have hE : E x.toNat = E (16 + (x.toNat - 16)) := by congr 1; omega
    have hlen : (mk_S.map List.length).getD (x.toNat - 16) 0 = tx.length := by
      rw [List.getD_eq_getElem?_getD, List.getElem?_map, hS1]
      rfl
    rw [hE]
    obtain ⟨adV, hVS⟩ := hY.1
    refine mm_quiet (a := #[]) (v := some (.int (Int32.ofNat ((mk_S.map List.length).getD (x.toNat - 16) 0)))) (rest := rest) (va_runV (As := []) (b := E (16 + (x.toNat - 16))) (rest := rest) ⟨hx, hb, hml, hown, hts⟩ (j_len l mk_S z E (x.toNat - 16) hk) ⟨callB_of 0 hts (mm_good jc_len) rfl rfl rfl (hts _ jn_str) (hts _ hlk) ⟨by decide, by decide, by decide +kernel⟩ ⟨by simp only [jm_room]; omega, by simp only [jm_room]; show 8 + (1 + 11) + 30 ≤ _; omega⟩, hts _ ji_len, hts _ js_len⟩ ⟨jm_Y_blind, vk_recv (adK := fun i => E (16 + i)) (i := x.toNat - 16) hVS hk hS, fun U hU hW => ⟨rfl, by show mm_Y mk_S z E U U.heap; rw [hU]; exact (hY.kept hS.2.1).moved hW.alike⟩⟩ rfl rfl hls rfl (lv_room hcat) hd ⟨hc, hsl⟩) ?_
    rw [hlen]
    exact kk
  · intro pc k ls H locs cells slots rest x tx j hlk hd hS1 h16 hin hcat hls hc hsl hS kk
    have hk : x.toNat - 16 < mk_S.length := (List.getElem?_eq_some_iff.mp hS1).1
    have hE : E x.toNat = E (16 + (x.toNat - 16)) := by congr 1; omega
    have hlen : (mk_S.map List.length).getD (x.toNat - 16) 0 = tx.length := by
      rw [List.getD_eq_getElem?_getD, List.getElem?_map, hS1]
      rfl
    have hget : mk_S.getD (x.toNat - 16) [] = tx := by rw [List.getD_eq_getElem?_getD, hS1]; rfl
    have h0 : ¬ j < 0 := fun q => hin (Or.inl q)
    have hlt : j.toNatClampNeg < tx.length := Nat.not_le.mp fun q => hin (Or.inr q)
    obtain ⟨hsm, hb1⟩ := jm_signs tx (List.mem_of_getElem? hS1)
    have hmem : tx.getD j.toNatClampNeg 0 ∈ tx := by
      rw [List.getD_eq_getElem?_getD, List.getElem?_eq_getElem hlt]
      exact List.getElem_mem _
    obtain ⟨hv, hn⟩ := hb1 _ hmem
    have h1 : j < Int32.ofNat ((mk_S.map List.length).getD (x.toNat - 16) 0) := by
      rw [hlen, Int32.lt_iff_toInt_lt, Int32.toInt_ofNat_of_lt (by omega)]
      have : j.toInt = ((j.toNatClampNeg : Nat) : Int) := by
        have h2 : 0 ≤ j.toInt := by
          have := Int32.not_lt.mp h0
          simpa using Int32.le_iff_toInt_le.mp this
        show j.toInt = ((j.toInt.toNat : Nat) : Int)
        omega
      omega
    rw [hE]
    obtain ⟨adV, hVS⟩ := hY.1
    refine mm_quiet (a := #[]) (v := some (.int (tx.getD j.toNatClampNeg 0))) (rest := rest) (va_runV (As := [.int j]) (b := E (16 + (x.toNat - 16))) (rest := rest) ⟨hx, hb, hml, hown, hts⟩ (j_cha l mk_S z E (x.toNat - 16) hk j (tx.getD j.toNatClampNeg 0) h0 h1 (by rw [hlen]; exact hlt) (by rw [hget]; exact hv) hn) ⟨callB_of 1 hts (mm_good jc_cha) rfl rfl rfl (hts _ jn_str) (hts _ hlk) ⟨by decide, by decide, by decide +kernel⟩ ⟨by simp only [jm_room]; omega, by simp only [jm_room]; show 8 + (2 + 11) + 90 ≤ _; omega⟩, hts _ ji_cha, hts _ js_cha⟩ ⟨jm_Y_blind, vk_recv (adK := fun i => E (16 + i)) (i := x.toNat - 16) hVS hk hS, fun U hU hW => ⟨rfl, by show mm_Y mk_S z E U U.heap; rw [hU]; exact (hY.kept hS.2.1).moved hW.alike⟩⟩ rfl rfl hls rfl (lv_room hcat) hd ⟨hc, hsl⟩) ?_
    exact kk
