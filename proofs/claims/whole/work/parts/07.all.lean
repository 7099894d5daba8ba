theorem mm_al_pad {z : Nat} {E : Nat → Nat} : ∀ (j k : Nat), mm_al z E k (List.replicate j none) = []
  | 0, k => rfl
  | j + 1, k => by rw [List.replicate_succ, mm_al]; exact mm_al_pad j (k + 1)
theorem mm_ent_al {z : Nat} {E : Nat → Nat} {j : Nat} : ∀ (as : List Value) (k : Nat), mm_al z E k (mm_ent as ++ List.replicate j none) = lv_args k (as.map (mm_tv z E))
  | [], k => by simp [mm_ent, mm_al_pad, lv_args]
  | v :: r, k => by
    by_cases hv : v.category = 2
    · have := mm_ent_al (z := z) (E := E) (j := j) r (k + 1 + 1)
      simp [mm_ent, hv, mm_al, lv_args, mm_tv_cat, this]
    · have h1 : v.category = 1 := by rcases lv_cat v with h | h <;> omega
      have := mm_ent_al (z := z) (E := E) (j := j) r (k + 1)
      simp [mm_ent, mm_al, lv_args, mm_tv_cat, h1, this]
theorem mm_ent_len {z : Nat} {E : Nat → Nat} : ∀ (as : List Value), (lg_sl (as.map (mm_tv z E))).length = (mm_ent as).length
  | [] => rfl
  | v :: r => by
    have := mm_ent_len (z := z) (E := E) r
    simp only [lg_sl] at this
    by_cases hv : v.category = 2
    · simp [mm_ent, hv, lg_sl, mm_tv_cat, this]
    · simp [mm_ent, hv, lg_sl, mm_tv_cat, this]
def mm_StrOK (l : Launch) (TB : List Cond) (S : List (List Int32)) (z : Nat) (E : Nat → Nat) : Prop := ∀ (p : Program) (e : Env) (R : Room) (s : State) (m : MethodId) (args : Array Value) (below : List Frame) (meth : Method) (c : Code) (Q : State → Prop) (y : MethodName) (cc : ByteArray) (nL : Nat), p.tables.exec = Jvm.exec → c.code = cc → c.maxLocals = nL → s.vm.findClass y.cls = some m.cls → (∀ w ∈ TB, w.before args s = true) → mm_Y S z E s s.heap → z ≤ s.heap.size → 8 ≤ R.frames → 400 ≤ R.locals → mm_strL p l e R s m args below meth c Q TB S y cc nL z E ∧ mm_strC p l e R s m args below meth c Q TB S y cc nL z E
/-- what is fixed for all of a run -/
def mm_Stat (l : Launch) (TB : List Cond) (cl : List vw_C) (SR : List (String × Nat × String)) (P : List mm_M) (G : List (List Value)) (S : List (List Int32)) (z : Nat) (E : Nat → Nat) : Prop := mm_clsOK TB cl G ∧ mm_okP TB cl SR P ∧ (∀ w ∈ TB, goodWord w = true ∨ mm_nk w) ∧ (∃ T N, cl[5]? = some ("WashLine$State", T, N)) ∧ (∃ T N, cl[6]? = some ("WashLine$Text", T, N)) ∧ mm_StrOK l TB S z E
theorem mm_hts {TB : List Cond} (hg : ∀ w ∈ TB, goodWord w = true ∨ mm_nk w) {M : mm_M} {args : Array Value} {s : State} (h1 : ∀ w ∈ mm_ws TB M, w.before args s = true) (h2 : mm_N TB s) : ∀ w ∈ TB, w.before args s = true := by
  intro w hw
  rcases hg w hw with h | h
  · exact h1 w (List.mem_cons_of_mem _ (List.mem_filter.mpr ⟨hw, h⟩))
  · have h3 := h2 w hw h
    rcases h with ⟨a, i, x, b, rfl⟩ | ⟨C, T, rfl⟩ | ⟨C, rfl⟩
    · exact va_Nw.use rfl h3
    · exact va_Nw.use rfl h3
    · exact va_AO.use h3
theorem mm_good {TB : List Cond} {M : mm_M} (hc : Cond.code M.1 M.2.1 M.2.2.1 M.2.2.2.1 ∈ TB) : GoodIn TB (mm_ws TB M) := by
  intro w hw
  rcases List.mem_cons.mp hw with rfl | hw
  · exact ⟨hc, good_of_word rfl⟩
  · obtain ⟨h1, h2⟩ := List.mem_filter.mp hw
    exact ⟨h1, good_of_word h2⟩
def mm_Snd (l : Launch) (TB : List Cond) (cl : List vw_C) (SR : List (String × Nat × String)) (P : List mm_M) (G : List (List Value)) (S : List (List Int32)) (D : va_G) (cA : Nat → ClassId) (z : Nat) (E : Nat → Nat) (X : mm_X) (n : Nat) : Prop :=
  ∀ (d mi pc : Nat) (M : mm_M) (L : mm_L) (st : List Value) (w : mm_W) (r : Option Value) (w' : mm_W), P[mi]? = some M → mm_exec X G S P n d mi pc L st w = some (r, w') →
  ∀ (p : Program) (e : Env) (R : Room) (s : State) (m : MethodId) (args : Array Value) (below : List Frame) (meth : Method) (c : Code), p.tables.exec = Jvm.exec → c.code = M.2.1 → c.maxLocals = M.2.2.1 → meth.sig.returnType = M.2.2.2.1 → meth.locks = false → s.vm.findClass M.1.cls = some m.cls → meth.name = M.1.name → (∀ w ∈ TB, w.before args s = true) → mm_B TB D cl cA X SR S z E s s.heap → z ≤ s.heap.size → d + 8 ≤ R.frames → 40 * d + 400 ≤ R.locals →
  ∀ (ls : Array Slot) (H : Heap) (locs : List Loc) (cells slots mc ms : Nat), mm_RL z E M.2.2.1 L ls → mm_HR D cl cA z E w H → va_S (fun a : Nat => z ≤ a) s.heap H locs → cells + w'.length = mc + w.length → slots + mm_sl w' = ms + mm_sl w → mc ≤ R.cells → ms ≤ R.slots →
    W p l e R s m args below meth c H locs cells slots (MQ below (mm_Post D cl cA z E r w') args s mc ms (fun a : Nat => z ≤ a)) (F0 m pc ls (st.map (mm_tv z E)))
/-- a callee's contract out of its run -/
theorem mm_met {l : Launch} {TB : List Cond} {cl : List vw_C} {SR : List (String × Nat × String)} {P : List mm_M} {G : List (List Value)} {S : List (List Int32)} {D : va_G} {cA : Nat → ClassId} {z : Nat} {E : Nat → Nat} {X : mm_X} {n : Nat} (hst : mm_Stat l TB cl SR P G S z E) (ih : mm_Snd l TB cl SR P G S D cA z E X n)
    {d k : Nat} {M : mm_M} {as : List Value} {w w2 : mm_W} {r : Option Value} (hM : P[k]? = some M) (hlen : (mm_ent as).length ≤ M.2.2.1) (he : mm_exec X G S P n d k 0 (mm_ent as ++ List.replicate (M.2.2.1 - (mm_ent as).length) none) [] w = some (r, w2)) :
    Met l M.1 (mm_ws TB M) (mm_room d (w2.length - w.length) (mm_sl w2 - mm_sl w)) (mm_Pre TB D cl cA X SR S z E w as) (mm_Post D cl cA z E r w2) (w2.length - w.length) (mm_sl w2 - mm_sl w) (fun a : Nat => z ≤ a) := by
  obtain ⟨hcls, hP, hgd, hc5, hc6, hstr⟩ := hst
  obtain ⟨hpl, hmh, hcode, hall⟩ := hP k M hM
  refine Met.ofW (cc := M.2.1) (maxL := M.2.2.1) (ret := M.2.2.2.1) hpl rfl ?_
  intro p e s m args below meth c s₁ B hml hv
  obtain ⟨rfl, hH, hB⟩ := hv
  have hts0 := atoms_spec (ws := mm_ws TB M) B.pre
  have hts := mm_hts hgd hts0 hB.2.2.2
  have hg := mm_grow _ _ _ _ _ _ _ _ _ he
  have hl := lv_entry (as.map (mm_tv z E)) (n := M.2.2.1) (by rw [mm_ent_len]; exact hlen)
  rw [lg_entry_eq]
  generalize (lg_sl (as.map (mm_tv z E)) ++ List.replicate (M.2.2.1 - (lg_sl (as.map (mm_tv z E))).length) Slot.unset).toArray = ls at hl ⊢
  exact ih d k 0 M _ [] w r w2 hM he p e _ s m _ below meth c B.exec B.bytes hml B.returns B.notSynchronized (findClass_of_methodNamed B.named) (name_of_methodNamed B.named B.method).1 hts hB (by rw [hH.1]; exact Nat.le_add_right _ _) (Nat.le_refl _) (Nat.le_refl _)
    ls s.heap [] 0 0 (w2.length - w.length) (mm_sl w2 - mm_sl w) ⟨by simp; omega, by rw [mm_ent_al]; exact hl⟩ hH va_S.rf (by omega) (by omega) (Nat.le_refl _) (Nat.le_refl _)
