
theorem mm_tv_rf (z : Nat) (E : Nat → Nat) (o : Option Nat) : mm_tv z E (mm_rf o) = va_rf (o.map (fun q => z + q)) := by cases o <;> rfl
theorem mm_fit_ok {z : Nat} {E : Nat → Nat} {v x : Value} {ty : FieldType} (hk : mm_kind v ty) (h : mm_fit v x = true) : narrow ty (mm_tv z E x) = mm_tv z E x ∧ fits ty (mm_tv z E x) = true := by
  rcases hk with ⟨rfl, rfl⟩ | ⟨rfl, rfl⟩ | ⟨rfl, rfl⟩ | ⟨rfl, ⟨n, rfl⟩ | ⟨t, rfl⟩⟩ <;> cases x <;> simp [mm_fit, mm_tv, narrow, fits] at h ⊢
  rcases h with rfl | rfl <;> decide
def mm_tys : List FieldType := [.int, .long, .byte, .boolean, .object "WashLine$Text", .object "WashLine$State"]
def mm_ln (q : mm_I) : Nat := match q.1 with
  | .tableswitch _ _ _ _ => q.2.2.1
  | i => mm_len i
theorem mm_sw_in {lo : Int32} {tg : List Nat} {dflt : Nat} {x : Int32} (hb : lo.toInt + tg.length < 2 ^ 31) : (∃ (j : Nat) (t : Nat), tg[j]? = some t ∧ x.toInt = lo.toInt + j ∧ mm_sw x lo tg dflt = t) ∨ ((x.toInt < lo.toInt ∨ lo.toInt + tg.length ≤ x.toInt) ∧ mm_sw x lo tg dflt = dflt) := by
  induction tg generalizing lo with
  | nil => right; refine ⟨?_, rfl⟩; simp; omega
  | cons t r ih =>
    by_cases hx : x = lo
    · left; subst hx; exact ⟨0, t, rfl, by simp, by simp [mm_sw]⟩
    · have hne : x.toInt ≠ lo.toInt := fun h => hx (Int32.toInt_inj.mp h)
      by_cases hr : r = []
      · subst hr
        right
        simp at hb ⊢
        exact ⟨by omega, by simp [mm_sw, hx]⟩
      · have hlen : 0 < r.length := List.length_pos_iff.mpr hr
        simp at hb
        have hlo : (lo + 1).toInt = lo.toInt + 1 := by
          rw [Int32.toInt_add]
          have := lo.minValue_le_toInt
          have h2 : (1 : Int32).toInt = 1 := rfl
          rw [h2]
          have h3 : (-2147483648 : Int) ≤ lo.toInt := by simpa using lo.minValue_le_toInt
          rw [Int.bmod_eq_of_le] <;> omega
        rcases ih (lo := lo + 1) (by rw [hlo]; omega) with ⟨j, u, h1, h2, h3⟩ | ⟨h1, h2⟩
        · left
          exact ⟨j + 1, u, by simpa using h1, by rw [h2, hlo]; push_cast; omega, by simp [mm_sw, hx, h3]⟩
        · right
          rw [hlo] at h1
          refine ⟨?_, by simp [mm_sw, hx, h2]⟩
          simp
          omega
theorem mm_sl_eq {slots : Nat} {w : mm_W} {k : Nat} {e0 e : mm_E} (h : w[k]? = some e0) (hs : mm_sl1 e = mm_sl1 e0) : slots + mm_sl w = slots + mm_sl (w.set k e) := by rw [mm_sl_set w k e0 e h hs]
theorem mm_if_or {b : Bool} {t f : Nat} {L : mm_L} {st : List Value} {w : mm_W} {r : mm_R} (h : mm_if b t f L st w = some r) : (b = true ∧ r = .inl (t, L, st, w)) ∨ (¬ b = true ∧ r = .inl (f, L, st, w)) := by
  unfold mm_if mm_nx at h
  split at h
  · cases h; exact Or.inl ⟨by assumption, rfl⟩
  · cases h; exact Or.inr ⟨by assumption, rfl⟩
/-- the length of a text constant, a sign of it: calls into the JDK -/
def mm_strL (p : Program) (l : Launch) (e : Env) (R : Room) (s : State) (m : MethodId) (args : Array Value) (below : List Frame) (meth : Method) (c : Code) (Q : State → Prop) (TB : List Cond) (S : List (List Int32)) (y : MethodName) (cc : ByteArray) (nL z : Nat) (E : Nat → Nat) : Prop :=
  ∀ (pc k : Nat) (ls : Array Slot) (H : Heap) (locs : List Loc) (cells slots : Nat) (rest : List Value) (x : UInt32) (tx : List Int32), Cond.methodLink y.cls k ⟨"java/lang/String", "length", "()I"⟩ ∈ TB → decode cc pc = .ok (.invokevirtual k, 3) → S[x.toNat - 16]? = some tx → 16 ≤ x.toNat → (rest.map fun v => v.category).sum ≤ 8 → ls.size = nL → cells ≤ R.cells → slots ≤ R.slots → va_S (fun a : Nat => z ≤ a) s.heap H locs →
    W p l e R s m args below meth c H locs cells slots Q (F0 m (pc + 3) ls (.int (Int32.ofNat tx.length) :: rest)) → W p l e R s m args below meth c H locs cells slots Q (F0 m pc ls (.ref (E x.toNat) :: rest))
def mm_strC (p : Program) (l : Launch) (e : Env) (R : Room) (s : State) (m : MethodId) (args : Array Value) (below : List Frame) (meth : Method) (c : Code) (Q : State → Prop) (TB : List Cond) (S : List (List Int32)) (y : MethodName) (cc : ByteArray) (nL z : Nat) (E : Nat → Nat) : Prop :=
  ∀ (pc k : Nat) (ls : Array Slot) (H : Heap) (locs : List Loc) (cells slots : Nat) (rest : List Value) (x : UInt32) (tx : List Int32) (j : Int32), Cond.methodLink y.cls k ⟨"java/lang/String", "charAt", "(I)C"⟩ ∈ TB → decode cc pc = .ok (.invokevirtual k, 3) → S[x.toNat - 16]? = some tx → 16 ≤ x.toNat → ¬ (j < 0 ∨ tx.length ≤ j.toNatClampNeg) → (rest.map fun v => v.category).sum ≤ 8 → ls.size = nL → cells ≤ R.cells → slots ≤ R.slots → va_S (fun a : Nat => z ≤ a) s.heap H locs →
    W p l e R s m args below meth c H locs cells slots Q (F0 m (pc + 3) ls (.int (tx.getD j.toNatClampNeg 0) :: rest)) → W p l e R s m args below meth c H locs cells slots Q (F0 m pc ls (.int j :: .ref (E x.toNat) :: rest))
theorem mm_cat_tv (z : Nat) (E : Nat → Nat) (st : List Value) : ((st.map (mm_tv z E)).map fun v => v.category).sum = mm_cat st := by
  unfold mm_cat
  rw [List.map_map]
  congr 1
  apply List.map_congr_left
  intro v _
  exact mm_tv_cat z E v
section MM1
variable {p : Program} {l : Launch} {e : Env} {R : Room} {s : State} {m : MethodId} {args : Array Value} {below : List Frame} {meth : Method} {c : Code} {Q : State → Prop}
set_option maxHeartbeats 4000000 in
set_option maxRecDepth 100000 in
theorem mm_one {TB : List Cond} {cl : List vw_C} {SR : List (String × Nat × String)} {P : List mm_M} {G : List (List Value)} {S : List (List Int32)} {D : va_G} {cA : Nat → ClassId} {z : Nat} {E : Nat → Nat} {X : mm_X} {y : MethodName} {cc : ByteArray} {nL : Nat} {rt : Option FieldType}
    (hx : p.tables.exec = Jvm.exec) (hb : c.code = cc) (hml : c.maxLocals = nL) (hown : s.vm.findClass y.cls = some m.cls) (hnm : meth.name = y.name) (hts : ∀ w ∈ TB, w.before args s = true) (hcls : mm_clsOK TB cl G) (hK : mm_K D cl cA mm_tys s) (hX : mm_X1 X SR z E s s.heap) (hzs : z ≤ s.heap.size)
    (hc5 : ∃ T N, cl[5]? = some ("WashLine$State", T, N)) (hc6 : ∃ T N, cl[6]? = some ("WashLine$Text", T, N)) (hfr : 8 ≤ R.frames) (hlo : 400 ≤ R.locals)
    (hSl : mm_strL p l e R s m args below meth c Q TB S y cc nL z E) (hSc : mm_strC p l e R s m args below meth c Q TB S y cc nL z E)
    {q : mm_I} {pc : Nat} {L L' : mm_L} {st st' : List Value} {w w' : mm_W} {ls : Array Slot} {H : Heap} {locs : List Loc} {cells slots pc' : Nat}
    (hd : decode cc pc = .ok (q.1, mm_ln q)) (hk : mm_lnk TB cl mm_tys SR P y pc q) (hl : mm_RL z E nL L ls) (hH : mm_HR D cl cA z E w H) (hS : va_S (fun a : Nat => z ≤ a) s.heap H locs)
    (hstep : mm_step X G S rt q pc L st w = some (.inl (pc', L', st', w'))) (hcells : cells + w'.length ≤ R.cells + w.length) (hslots : slots + mm_sl w' ≤ R.slots + mm_sl w)
    (kk : ∀ (ls' : Array Slot) (H' : Heap) (locs' : List Loc) (c' s' : Nat), mm_RL z E nL L' ls' → mm_HR D cl cA z E w' H' → va_S (fun a : Nat => z ≤ a) s.heap H' locs' → c' + w.length = cells + w'.length → s' + mm_sl w = slots + mm_sl w' → W p l e R s m args below meth c H' locs' c' s' Q (F0 m pc' ls' (st'.map (mm_tv z E)))) :
    W p l e R s m args below meth c H locs cells slots Q (F0 m pc ls (st.map (mm_tv z E))) := by
  obtain ⟨i, a, b, v, dead, tg⟩ := q
  have kk0 := kk ls H locs cells slots
  have hA : ∀ k : Nat, (fun a : Nat => z ≤ a) (z + k) := fun k => Nat.le_add_right z k
  cases i with
  | iconst n =>
    simp only [mm_lnk] at hk
    subst hk
    simp only [mm_step, mm_nx] at hstep
    cases hstep
    exact lv_iconst hx hb hd rfl (kk0 hl hH hS rfl rfl)
  | bipush n =>
    simp only [mm_lnk] at hk
    subst hk
    simp only [mm_step, mm_nx] at hstep
    cases hstep
    exact lv_bipush hx hb hd rfl (kk0 hl hH hS rfl rfl)
  | sipush n =>
    simp only [mm_lnk] at hk
    subst hk
    simp only [mm_step, mm_nx] at hstep
    cases hstep
    exact lv_sipush hx hb hd rfl (kk0 hl hH hS rfl rfl)
  | lconst n =>
    simp only [mm_lnk] at hk
    subst hk
    simp only [mm_step, mm_nx] at hstep
    cases hstep
    exact lv_lconst hx hb hd rfl (kk0 hl hH hS rfl rfl)
  | aconst_null =>
    simp only [mm_step, mm_nx] at hstep
    cases hstep
    exact lv_null hx hb hd (kk0 hl hH hS rfl rfl)
  | ldc k =>
    simp only [mm_lnk] at hk
    rcases hk with ⟨x, rfl, hm⟩ | ⟨j, x, tx, rfl, hj, hs⟩
    · simp only [mm_step, mm_nx] at hstep
      cases hstep
      exact lv_ldc hx hb hown (hts _ hm) hd (kk0 hl hH hS rfl rfl)
    · simp only [mm_step, mm_nx] at hstep
      cases hstep
      have h1 := kk0 hl hH hS rfl rfl
      simp only [List.map_cons, mm_tv, hj] at h1
      exact va_ldcS hx hb hown (hX.2.2 j _ hs) hd h1
  | ldc_w k =>
    simp only [mm_lnk] at hk
    obtain ⟨x, rfl, hm⟩ := hk
    simp only [mm_step, mm_nx] at hstep
    cases hstep
    exact lv_ldcw hx hb hown (hts _ hm) hd (kk0 hl hH hS rfl rfl)
  | ldc2_w k =>
    simp only [mm_lnk] at hk
    obtain ⟨x, rfl, hm⟩ := hk
    simp only [mm_step, mm_nx] at hstep
    cases hstep
    exact lv_ldc2 hx hb hown (hts _ hm) hd (kk0 hl hH hS rfl rfl)
  | iload_n k =>
    simp only [mm_lnk] at hk
    simp only [mm_step, mm_nx] at hstep
    split at hstep
    · rename_i x hv
      cases hstep
      exact lv_iload_n hx hb hd hk (hl.ld hv) (kk0 hl hH hS rfl rfl)
    · cases hstep
  | lload_n k =>
    simp only [mm_lnk] at hk
    simp only [mm_step, mm_nx] at hstep
    split at hstep
    · rename_i x hv
      cases hstep
      exact lv_lload_n hx hb hd hk (hl.ld hv) (kk0 hl hH hS rfl rfl)
    · cases hstep
  | iload k =>
    simp only [mm_lnk] at hk
    subst hk
    simp only [mm_step, mm_nx] at hstep
    split at hstep
    · rename_i x hv
      cases hstep
      exact lv_iload hx hb hd (hl.ld hv) (kk0 hl hH hS rfl rfl)
    · cases hstep
  | lload k =>
    simp only [mm_lnk] at hk
    subst hk
    simp only [mm_step, mm_nx] at hstep
    split at hstep
    · rename_i x hv
      cases hstep
      exact lv_lload hx hb hd (hl.ld hv) (kk0 hl hH hS rfl rfl)
    · cases hstep
  | aload_n k =>
    simp only [mm_lnk] at hk
    simp only [mm_step, mm_nx] at hstep
    split at hstep
    · rename_i x hv
      cases hstep
      exact lv_aload_n hx hb hd hk (hl.ld hv) (kk0 hl hH hS rfl rfl)
    · rename_i x hv
      cases hstep
      exact lv_aload_n hx hb hd hk (hl.ld hv) (kk0 hl hH hS rfl rfl)
    · rename_i hv
      cases hstep
      exact lv_aload_nN hx hb hd hk (hl.ld hv) (kk0 hl hH hS rfl rfl)
    · cases hstep
  | aload k =>
    simp only [mm_lnk] at hk
    subst hk
    simp only [mm_step, mm_nx] at hstep
    split at hstep
    · rename_i x hv
      cases hstep
      exact lv_aload hx hb hd (hl.ld hv) (kk0 hl hH hS rfl rfl)
    · rename_i hv
      cases hstep
      exact lv_aloadN hx hb hd (hl.ld hv) (kk0 hl hH hS rfl rfl)
    · cases hstep
  | istore_n k =>
    simp only [mm_lnk] at hk
    simp only [mm_step, mm_nx] at hstep
    split at hstep
    · rename_i x r
      split at hstep
      · rename_i L1 hL
        cases hstep
        exact lv_istore_n hx hb hd hk hl.2 (by rw [← hl.1]; exact mm_st1_lt hL) rfl fun ls' hl' => kk ls' H locs cells slots (hl.st1 hL hl') hH hS rfl rfl
      · cases hstep
    · cases hstep
  | istore k =>
    simp only [mm_lnk] at hk
    subst hk
    simp only [mm_step, mm_nx] at hstep
    split at hstep
    · rename_i x r
      split at hstep
      · rename_i L1 hL
        cases hstep
        exact lv_istore hx hb hd hl.2 (by rw [← hl.1]; exact mm_st1_lt hL) rfl fun ls' hl' => kk ls' H locs cells slots (hl.st1 hL hl') hH hS rfl rfl
      · cases hstep
    · cases hstep
  | lstore_n k =>
    simp only [mm_lnk] at hk
    simp only [mm_step, mm_nx] at hstep
    split at hstep
    · rename_i x r
      split at hstep
      · rename_i L1 hL
        cases hstep
        exact lv_lstore_n hx hb hd hk hl.2 (by rw [← hl.1]; exact mm_st2_lt hL) rfl fun ls' hl' => kk ls' H locs cells slots (hl.st2 hL hl') hH hS rfl rfl
      · cases hstep
    · cases hstep
  | lstore k =>
    simp only [mm_lnk] at hk
    subst hk
    simp only [mm_step, mm_nx] at hstep
    split at hstep
    · rename_i x r
      split at hstep
      · rename_i L1 hL
        cases hstep
        exact lv_lstore hx hb hd hl.2 (by rw [← hl.1]; exact mm_st2_lt hL) rfl fun ls' hl' => kk ls' H locs cells slots (hl.st2 hL hl') hH hS rfl rfl
      · cases hstep
    · cases hstep
  | astore_n k =>
    simp only [mm_lnk] at hk
    simp only [mm_step, mm_nx] at hstep
    split at hstep
    · rename_i x r
      split at hstep
      · rename_i L1 hL
        cases hstep
        exact lv_astore_n hx hb hd hk hl.2 (by rw [← hl.1]; exact mm_st1_lt hL) rfl fun ls' hl' => kk ls' H locs cells slots (hl.st1 hL hl') hH hS rfl rfl
      · cases hstep
    · rename_i r
      split at hstep
      · rename_i L1 hL
        cases hstep
        exact lv_astore_nN hx hb hd hk hl.2 (by rw [← hl.1]; exact mm_st1_lt hL) rfl fun ls' hl' => kk ls' H locs cells slots (hl.st1 hL hl') hH hS rfl rfl
      · cases hstep
    · cases hstep
  | astore k =>
    simp only [mm_lnk] at hk
    subst hk
    simp only [mm_step, mm_nx] at hstep
    split at hstep
    · rename_i x r
      split at hstep
      · rename_i L1 hL
        cases hstep
        exact lv_astore hx hb hd hl.2 (by rw [← hl.1]; exact mm_st1_lt hL) rfl fun ls' hl' => kk ls' H locs cells slots (hl.st1 hL hl') hH hS rfl rfl
      · cases hstep
    · rename_i r
      split at hstep
      · rename_i L1 hL
        cases hstep
        exact lv_astoreN hx hb hd hl.2 (by rw [← hl.1]; exact mm_st1_lt hL) rfl fun ls' hl' => kk ls' H locs cells slots (hl.st1 hL hl') hH hS rfl rfl
      · cases hstep
    · cases hstep
  | iinc k n =>
    simp only [mm_lnk] at hk
    obtain ⟨rfl, rfl⟩ := hk
    simp only [mm_step, mm_nx] at hstep
    split at hstep
    · rename_i x y1 hv e1
      cases e1
      split at hstep
      · rename_i L1 hL
        cases hstep
        obtain ⟨j, hj⟩ := List.getElem?_of_mem (mm_RL.mem (z := z) (E := E) hv)
        exact lv_iinc hx hb hd hl.2 hj rfl (by rw [← hl.1]; exact mm_st1_lt hL) rfl fun ls' hl' => kk ls' H locs cells slots (hl.st1 hL hl') hH hS rfl rfl
      · cases hstep
    · cases hstep
  | iadd =>
    simp only [mm_step, mm_nx] at hstep
    split at hstep
    · cases hstep
      exact lv_iadd hx hb hd (kk0 hl hH hS rfl rfl)
    · cases hstep
  | isub =>
    simp only [mm_step, mm_nx] at hstep
    split at hstep
    · cases hstep
      exact lv_isub hx hb hd (kk0 hl hH hS rfl rfl)
    · cases hstep
  | imul =>
    simp only [mm_step, mm_nx] at hstep
    split at hstep
    · cases hstep
      exact lv_imul hx hb hd (kk0 hl hH hS rfl rfl)
    · cases hstep
  | iand =>
    simp only [mm_step, mm_nx] at hstep
    split at hstep
    · cases hstep
      exact lv_iand hx hb hd (kk0 hl hH hS rfl rfl)
    · cases hstep
  | ior =>
    simp only [mm_step, mm_nx] at hstep
    split at hstep
    · cases hstep
      exact lv_ior hx hb hd (kk0 hl hH hS rfl rfl)
    · cases hstep
  | ixor =>
    simp only [mm_step, mm_nx] at hstep
    split at hstep
    · cases hstep
      exact lv_ixor hx hb hd (kk0 hl hH hS rfl rfl)
    · cases hstep
  | ishl =>
    simp only [mm_step, mm_nx] at hstep
    split at hstep
    · cases hstep
      exact lv_ishl hx hb hd (kk0 hl hH hS rfl rfl)
    · cases hstep
  | ishr =>
    simp only [mm_step, mm_nx] at hstep
    split at hstep
    · cases hstep
      exact lv_ishr hx hb hd (kk0 hl hH hS rfl rfl)
    · cases hstep
  | ladd =>
    simp only [mm_step, mm_nx] at hstep
    split at hstep
    · cases hstep
      exact lv_ladd hx hb hd (kk0 hl hH hS rfl rfl)
    · cases hstep
  | lsub =>
    simp only [mm_step, mm_nx] at hstep
    split at hstep
    · cases hstep
      exact lv_lsub hx hb hd (kk0 hl hH hS rfl rfl)
    · cases hstep
  | lmul =>
    simp only [mm_step, mm_nx] at hstep
    split at hstep
    · cases hstep
      exact lv_lmul hx hb hd (kk0 hl hH hS rfl rfl)
    · cases hstep
  | lcmp =>
    simp only [mm_step, mm_nx] at hstep
    split at hstep
    · cases hstep
      exact W.lcmp hx hb hd (kk0 hl hH hS rfl rfl)
    · cases hstep
  | ineg =>
    simp only [mm_step, mm_nx] at hstep
    split at hstep
    · cases hstep
      exact lv_ineg hx hb hd (kk0 hl hH hS rfl rfl)
    · cases hstep
  | iushr =>
    simp only [mm_step, mm_nx] at hstep
    split at hstep
    · cases hstep
      exact lv_iushr hx hb hd rfl (kk0 hl hH hS rfl rfl)
    · cases hstep
  | i2l =>
    simp only [mm_step, mm_nx] at hstep
    split at hstep
    · cases hstep
      exact lv_i2l hx hb hd rfl (kk0 hl hH hS rfl rfl)
    · cases hstep
  | l2i =>
    simp only [mm_step, mm_nx] at hstep
    split at hstep
    · cases hstep
      exact lv_l2i hx hb hd rfl (kk0 hl hH hS rfl rfl)
    · cases hstep
  | i2b =>
    simp only [mm_step, mm_nx] at hstep
    split at hstep
    · cases hstep
      exact lv_i2b hx hb hd rfl (kk0 hl hH hS rfl rfl)
    · cases hstep
  | i2c =>
    simp only [mm_step, mm_nx] at hstep
    split at hstep
    · cases hstep
      exact lv_i2c hx hb hd rfl (kk0 hl hH hS rfl rfl)
    · cases hstep
  | idiv =>
    simp only [mm_step, mm_nx] at hstep
    split at hstep
    · split at hstep
      · cases hstep
      · rename_i hne
        cases hstep
        exact lv_idiv hx hb hd hne (kk0 hl hH hS rfl rfl)
    · cases hstep
  | irem =>
    simp only [mm_step, mm_nx] at hstep
    split at hstep
    · split at hstep
      · cases hstep
      · rename_i hne
        cases hstep
        exact lv_irem hx hb hd hne (kk0 hl hH hS rfl rfl)
    · cases hstep
  | ldiv =>
    simp only [mm_step, mm_nx] at hstep
    split at hstep
    · split at hstep
      · cases hstep
      · rename_i hne
        cases hstep
        exact lv_ldiv hx hb hd hne (kk0 hl hH hS rfl rfl)
    · cases hstep
  | lrem =>
    simp only [mm_step, mm_nx] at hstep
    split at hstep
    · split at hstep
      · cases hstep
      · rename_i hne
        cases hstep
        exact lv_lrem hx hb hd hne (kk0 hl hH hS rfl rfl)
    · cases hstep
  | dup =>
    simp only [mm_step, mm_nx] at hstep
    split at hstep
    · split at hstep
      · rename_i hc
        cases hstep
        exact lv_dup hx hb hd (by rw [mm_tv_cat]; exact hc) (kk0 hl hH hS rfl rfl)
      · cases hstep
    · cases hstep
  | pop =>
    simp only [mm_step, mm_nx] at hstep
    split at hstep
    · split at hstep
      · rename_i hc
        cases hstep
        exact lv_pop hx hb hd (by rw [mm_tv_cat]; exact hc) (kk0 hl hH hS rfl rfl)
      · cases hstep
    · cases hstep
  | dup2 =>
    simp only [mm_step, mm_nx] at hstep
    split at hstep
    · split at hstep
      · rename_i hc
        cases hstep
        exact lv_dup2_11 hx hb hd (by rw [mm_tv_cat]; exact hc.1) (by rw [mm_tv_cat]; exact hc.2) (kk0 hl hH hS rfl rfl)
      · cases hstep
    · cases hstep
  | goto o =>
    simp only [mm_lnk] at hk
    simp only [mm_step, mm_nx] at hstep
    cases hstep
    exact lv_goto hx hb hd hk (kk0 hl hH hS rfl rfl)
  | ifCond cd o =>
    simp only [mm_lnk] at hk
    simp only [mm_step] at hstep
    split at hstep
    · cases cd
      · rcases mm_if_or hstep with ⟨hc, hr⟩ | ⟨hc, hr⟩
        · simp only [decide_eq_true_eq] at hc
          cases hr
          exact lv_if_eq hx hb hd hk (fun _ => kk0 hl hH hS rfl rfl) (fun h => by first | exact absurd hc h | exact absurd h hc)
        · simp only [decide_eq_true_eq] at hc
          cases hr
          exact lv_if_eq hx hb hd hk (fun h => absurd h hc) (fun _ => kk0 hl hH hS rfl rfl)
      · rcases mm_if_or hstep with ⟨hc, hr⟩ | ⟨hc, hr⟩
        · simp only [decide_eq_true_eq] at hc
          cases hr
          exact lv_if_ne hx hb hd hk (fun _ => kk0 hl hH hS rfl rfl) (fun h => by first | exact absurd hc h | exact absurd h hc)
        · simp only [decide_eq_true_eq] at hc
          cases hr
          exact lv_if_ne hx hb hd hk (fun h => absurd h hc) (fun _ => kk0 hl hH hS rfl rfl)
      · rcases mm_if_or hstep with ⟨hc, hr⟩ | ⟨hc, hr⟩
        · simp only [decide_eq_true_eq] at hc
          cases hr
          exact lv_if_lt hx hb hd hk (fun _ => kk0 hl hH hS rfl rfl) (fun h => by first | exact absurd hc h | exact absurd h hc)
        · simp only [decide_eq_true_eq] at hc
          cases hr
          exact lv_if_lt hx hb hd hk (fun h => absurd h hc) (fun _ => kk0 hl hH hS rfl rfl)
      · rcases mm_if_or hstep with ⟨hc, hr⟩ | ⟨hc, hr⟩
        · simp only [decide_eq_true_eq] at hc
          cases hr
          exact lv_if_ge hx hb hd hk (fun _ => kk0 hl hH hS rfl rfl) (fun h => by first | exact absurd hc h | exact absurd h hc)
        · simp only [decide_eq_true_eq] at hc
          cases hr
          exact lv_if_ge hx hb hd hk (fun h => absurd h hc) (fun _ => kk0 hl hH hS rfl rfl)
      · rcases mm_if_or hstep with ⟨hc, hr⟩ | ⟨hc, hr⟩
        · simp only [decide_eq_true_eq] at hc
          cases hr
          exact lv_if_gt hx hb hd hk (fun _ => kk0 hl hH hS rfl rfl) (fun h => by first | exact absurd hc h | exact absurd h hc)
        · simp only [decide_eq_true_eq] at hc
          cases hr
          exact lv_if_gt hx hb hd hk (fun h => absurd h hc) (fun _ => kk0 hl hH hS rfl rfl)
      · rcases mm_if_or hstep with ⟨hc, hr⟩ | ⟨hc, hr⟩
        · simp only [decide_eq_true_eq] at hc
          cases hr
          exact lv_if_le hx hb hd hk (fun _ => kk0 hl hH hS rfl rfl) (fun h => by first | exact absurd hc h | exact absurd h hc)
        · simp only [decide_eq_true_eq] at hc
          cases hr
          exact lv_if_le hx hb hd hk (fun h => absurd h hc) (fun _ => kk0 hl hH hS rfl rfl)
    · cases hstep
  | if_icmp cd o =>
    simp only [mm_lnk] at hk
    simp only [mm_step] at hstep
    split at hstep
    · cases cd
      · rcases mm_if_or hstep with ⟨hc, hr⟩ | ⟨hc, hr⟩
        · simp only [decide_eq_true_eq] at hc
          cases hr
          exact lv_icmp_eq hx hb hd hk (fun _ => kk0 hl hH hS rfl rfl) (fun h => by first | exact absurd hc h | exact absurd h hc)
        · simp only [decide_eq_true_eq] at hc
          cases hr
          exact lv_icmp_eq hx hb hd hk (fun h => absurd h hc) (fun _ => kk0 hl hH hS rfl rfl)
      · rcases mm_if_or hstep with ⟨hc, hr⟩ | ⟨hc, hr⟩
        · simp only [decide_eq_true_eq] at hc
          cases hr
          exact lv_icmp_ne hx hb hd hk (fun _ => kk0 hl hH hS rfl rfl) (fun h => by first | exact absurd hc h | exact absurd h hc)
        · simp only [decide_eq_true_eq] at hc
          cases hr
          exact lv_icmp_ne hx hb hd hk (fun h => absurd h hc) (fun _ => kk0 hl hH hS rfl rfl)
      · rcases mm_if_or hstep with ⟨hc, hr⟩ | ⟨hc, hr⟩
        · simp only [decide_eq_true_eq] at hc
          cases hr
          exact lv_icmp_lt hx hb hd hk (fun _ => kk0 hl hH hS rfl rfl) (fun h => by first | exact absurd hc h | exact absurd h hc)
        · simp only [decide_eq_true_eq] at hc
          cases hr
          exact lv_icmp_lt hx hb hd hk (fun h => absurd h hc) (fun _ => kk0 hl hH hS rfl rfl)
      · rcases mm_if_or hstep with ⟨hc, hr⟩ | ⟨hc, hr⟩
        · simp only [decide_eq_true_eq] at hc
          cases hr
          exact lv_icmp_ge hx hb hd hk (fun _ => kk0 hl hH hS rfl rfl) (fun h => by first | exact absurd hc h | exact absurd h hc)
        · simp only [decide_eq_true_eq] at hc
          cases hr
          exact lv_icmp_ge hx hb hd hk (fun h => absurd h hc) (fun _ => kk0 hl hH hS rfl rfl)
      · rcases mm_if_or hstep with ⟨hc, hr⟩ | ⟨hc, hr⟩
        · simp only [decide_eq_true_eq] at hc
          cases hr
          exact lv_icmp_gt hx hb hd hk (fun _ => kk0 hl hH hS rfl rfl) (fun h => by first | exact absurd hc h | exact absurd h hc)
        · simp only [decide_eq_true_eq] at hc
          cases hr
          exact lv_icmp_gt hx hb hd hk (fun h => absurd h hc) (fun _ => kk0 hl hH hS rfl rfl)
      · rcases mm_if_or hstep with ⟨hc, hr⟩ | ⟨hc, hr⟩
        · simp only [decide_eq_true_eq] at hc
          cases hr
          exact lv_icmp_le hx hb hd hk (fun _ => kk0 hl hH hS rfl rfl) (fun h => by first | exact absurd hc h | exact absurd h hc)
        · simp only [decide_eq_true_eq] at hc
          cases hr
          exact lv_icmp_le hx hb hd hk (fun h => absurd h hc) (fun _ => kk0 hl hH hS rfl rfl)
    · cases hstep
  | ifnonnull o =>
    simp only [mm_lnk] at hk
    simp only [mm_step, mm_nx] at hstep
    split at hstep
    · cases hstep
      exact lv_ifnonnull hx hb hd hk (kk0 hl hH hS rfl rfl)
    · cases hstep
      exact lv_ifnonnullN hx hb hd (kk0 hl hH hS rfl rfl)
    · cases hstep
  | tableswitch dflt lo hi offs =>
    simp only [mm_lnk] at hk
    obtain ⟨l1, rfl, hl1, hdf, hhi, hbd, hto⟩ := hk
    simp only [mm_step, mm_nx] at hstep
    split at hstep
    · rename_i x r l2 e1
      cases e1
      cases hstep
      rcases mm_sw_in (lo := l1) (tg := tg) (dflt := a) (x := x) (by rw [hl1]; exact hbd) with ⟨j, t, h1, h2, h3⟩ | ⟨h1, h2⟩
      · obtain ⟨o, ho, hpt⟩ := hto j t h1
        have hj := (List.getElem?_eq_some_iff.mp h1).1
        rw [h3] at kk0
        rw [hl1] at h2
        exact lv_tableIn hx hb hd (by omega) (by omega) (by rw [show (x.toInt - lo).toNat = j by omega]; exact ho) hpt (kk0 hl hH hS rfl rfl)
      · rw [h2] at kk0
        rw [hl1] at h1
        exact lv_tableOut hx hb hd (by omega) hdf (kk0 hl hH hS rfl rfl)
    · cases hstep
  | getfield k =>
    simp only [mm_lnk] at hk
    obtain ⟨C, T, N, hc, hbN, hlk⟩ := hk
    simp only [mm_step, mm_nx] at hstep
    split at hstep
    · rename_i k1 r
      split at hstep
      · rename_i c1 fs hw
        split at hstep
        · rename_i hca
          subst hca
          split at hstep
          · rename_i x hf
            cases hstep
            exact va_get (D := D) (cl := cl) (v := mm_tv z E x) hx hb hts (hcls _ _ hc).1 hown hK.va0 (hH.P hw) 0 rfl hc b hbN (hts _ hlk) (fun _ h => h) (by rw [List.getElem?_map, hf]; rfl) hd (kk0 hl hH hS rfl rfl)
          · cases hstep
        · cases hstep
      · cases hstep
    · cases hstep
  | arraylength =>
    simp only [mm_step, mm_nx] at hstep
    split at hstep
    · rename_i k1 r
      split at hstep
      · rename_i t n f hw
        split at hstep
        · rename_i ht
          cases hstep
          have hty : ∃ ty, mm_tys[t]? = some ty := ⟨_, List.getElem?_eq_getElem (by exact ht)⟩
          obtain ⟨ty, hty⟩ := hty
          refine va_alen (D := D) (cl := cl) (x := mm_tA z (n, f)) hx hb (hK.va hty) (hH.P hw) 0 0 rfl rfl ?_ hd (kk0 hl hH hS rfl rfl)
          rcases f with f | f | f | f | f <;> rfl
        · cases hstep
      · cases hstep
    · rename_i x r
      split at hstep
      · rename_i hx0
        subst hx0
        cases hstep
        exact va_slen hx hb hX.1 (Nat.lt_of_lt_of_le hX.2.1 hzs) (Nat.not_le.mpr hX.2.1) hS hd (kk0 hl hH hS rfl rfl)
      · cases hstep
    · cases hstep
  | iaload =>
    simp only [mm_step, mm_nx] at hstep
    split at hstep
    · rename_i j k1 r
      split at hstep
      · rename_i t n f hw
        split at hstep
        · rename_i hc
          cases hstep
          obtain ⟨rfl, hin⟩ := hc
          exact va_iald (D := D) (cl := cl) hx hb (hK.va (t := 0) rfl) (hH.P hw) 0 0 rfl rfl hin hd (kk0 hl hH hS rfl rfl)
        · cases hstep
      · cases hstep
    · rename_i j x r
      split at hstep
      · rename_i hc
        cases hstep
        obtain ⟨rfl, hin⟩ := hc
        exact va_sld hx hb hX.1 (Nat.lt_of_lt_of_le hX.2.1 hzs) (Nat.not_le.mpr hX.2.1) hS hin hd (kk0 hl hH hS rfl rfl)
      · cases hstep
    · cases hstep
  | baload =>
    simp only [mm_step, mm_nx] at hstep
    split at hstep
    · rename_i j k1 r
      split at hstep
      · rename_i t n f hw
        split at hstep
        · rename_i hc
          cases hstep
          obtain ⟨rfl | rfl, hin⟩ := hc
          · exact va_bald (D := D) (cl := cl) hx hb (hK.va (t := 2) rfl) (hH.P hw) 0 0 rfl rfl hin hd (kk0 hl hH hS rfl rfl)
          · exact va_zald (D := D) (cl := cl) hx hb (hK.va (t := 3) rfl) (hH.P hw) 0 0 rfl rfl hin hd (kk0 hl hH hS rfl rfl)
        · cases hstep
      · cases hstep
    · cases hstep
  | laload =>
    simp only [mm_step, mm_nx] at hstep
    split at hstep
    · rename_i j k1 r
      split at hstep
      · rename_i t n f hw
        split at hstep
        · rename_i hc
          cases hstep
          obtain ⟨rfl, hin⟩ := hc
          exact va_lald (D := D) (cl := cl) hx hb (hK.va (t := 1) rfl) (hH.P hw) 0 0 rfl rfl hin hd (kk0 hl hH hS rfl rfl)
        · cases hstep
      · cases hstep
    · cases hstep
  | aaload =>
    simp only [mm_step, mm_nx] at hstep
    split at hstep
    · rename_i j k1 r
      split at hstep
      · rename_i t n f hw
        split at hstep
        · rename_i hc
          cases hstep
          obtain ⟨ht, hin⟩ := hc
          have h1 := kk0 hl hH hS rfl rfl
          rw [List.map_cons, mm_tv_rf] at h1
          rcases ht with rfl | rfl
          · exact va_aldq (D := D) (cl := cl) (C := "WashLine$Text") (f := fun j => (f j).map (fun q => z + q)) hx hb (hK.va (t := 4) rfl) (hH.P hw) 0 0 rfl rfl hin hd h1
          · exact va_aldq (D := D) (cl := cl) (C := "WashLine$State") (f := fun j => (f j).map (fun q => z + q)) hx hb (hK.va (t := 5) rfl) (hH.P hw) 0 0 rfl rfl hin hd h1
        · cases hstep
      · cases hstep
    · cases hstep
  | putfield k =>
    simp only [mm_lnk] at hk
    obtain ⟨C, T, N, ty, hc, hbN, hlk, hty, hkd, hfin⟩ := hk
    simp only [mm_step, mm_nx] at hstep
    split at hstep
    · rename_i x k1 r
      split at hstep
      · rename_i c1 fs hw
        split at hstep
        · rename_i hcond
          obtain ⟨rfl, hbl, hft⟩ := hcond
          cases hstep
          obtain ⟨hn, hfit⟩ := mm_fit_ok (z := z) (E := E) hkd hft
          obtain ⟨hin, hnms, -, -, ty0, fs0, hty0, -⟩ := hcls _ _ hc
          have hap := va_apart (own := y.cls) hts hin ty0 hty0 hnms hK.va0 hc
          obtain ⟨r', h1, cell, q1, q2, q3, q4⟩ := hH.2 _ _ hw
          have hr : r' = (C, T, N) := Option.some.inj (h1.symm.trans hc)
          subst hr
          obtain ⟨hSl1, hfc, kC, hkC, hkind⟩ := hK.1 _ _ hc
          obtain ⟨cf, kf, fi, f, hi, hsl⟩ := hSl1 b hbN
          have hst := (u_facts hfc hkC (u_lays hts hin hbN) hi).1
          have hlay := hts _ (hin _ (u_in_lay hbN))
          unfold u_lay at hlay
          have fin : ∀ (H' : Heap) (loc : List Loc), H'[z + k1]? = some (cell.setSlot f.slot (mm_tv z E x)) → H'.size = H.size → (∀ q, q ≠ z + k1 → H'[q]? = H[q]?) → va_S (fun a : Nat => z ≤ a) s.heap H' loc → W p l e R s m args below meth c H' loc cells slots Q (F0 m (pc + 3) ls (st'.map (mm_tv z E))) := by
            intro H' loc e1 e2 e3 hS'
            rw [hsl] at e1
            refine kk ls H' loc cells slots hl (hH.set hw ⟨_, hc, t_OB.to (V := updV (vp_V (fs.map (mm_tv z E))) b (mm_tv z E x)) ⟨_, e1, q2, q3, t_set q4 hap hbN _⟩ (fun j _ => ?_)⟩ e2 e3) hS' (by rw [List.length_set]) (mm_sl_eq hw (by simp [mm_sl1]))
            rw [List.map_set]
            exact vp_updV_set (by rw [List.length_map]; exact hbl) _ j
          rcases hfin with hf | ⟨hf, hin2, hdecl⟩
          · rw [if_neg (by rw [hf]; decide)] at hlay
            have h6 := u_store hfc hkC hkind hlay hi hty hn hfit
            exact W.putK hx hb (f := f) ⟨hown, hts _ hlk, ⟨_, _, _, hi⟩, hst⟩ (by rw [q2]; exact h6) q1 q3 (by rw [hsl]; exact k2_hasslot (q4 b hbN)) rfl rfl hd fun H' e1 e2 e3 => fin H' _ e1 e2 e3 (hS.put e2 e3 (hA k1))
          · rw [if_pos hf] at hlay
            have hcf : m.cls = cf := by
              obtain ⟨_, _, c', _, _, _, -, -, hf', -, -, -, hown2, -⟩ := Cond.laysFinal_spec hlay
              have e1 : c' = cf := by have := hi.symm.trans hf'; simp at this; exact this.1.symm
              rw [hdecl] at hown2
              rw [← e1]; exact Option.some.inj (hown.symm.trans hown2)
            have h6 := u_fits hfc hkC hkind (Or.inr hlay) hi hty hn hfit
            exact W.putFinK hx hb hown (hts _ hlk) hi hst hcf (hnm.trans hin2) (by rw [q2]; exact h6) q1 q3 (by rw [hsl]; exact k2_hasslot (q4 b hbN)) rfl rfl hd fun H' e1 e2 e3 => fin H' _ e1 e2 e3 (hS.put e2 e3 (hA k1))
        · cases hstep
      · cases hstep
    · cases hstep
  | iastore =>
    simp only [mm_step, mm_nx] at hstep
    split at hstep
    · rename_i x j k1 r
      split at hstep
      · rename_i t n f hw
        split at hstep
        · rename_i hcond
          obtain ⟨rfl, hin⟩ := hcond
          cases hstep
          refine W.iast hx hb (hH.2 _ _ hw) ((hK.2 0 _ rfl).1 n (fun j => .int (f j))) (fun q => by cases q) (by show ¬ (j < 0 ∨ (arrV _ _ _).slots.size ≤ _); rw [arrV_size]; exact hin) rfl rfl hd fun H1 e1 z1 oq => ?_
          refine kk ls H1 _ cells slots hl (hH.set hw ?_ z1 oq) (hS.put z1 oq (hA k1)) (by rw [List.length_set]) (mm_sl_eq hw rfl)
          show H1[z + k1]? = some (vp_cell _ _)
          rw [e1]
          show some ((vp_cell _ (n, .inl f)).setSlot _ _) = some (vp_cell _ (n, .inl (upd f j.toNatClampNeg x)))
          rw [vp_cell_i, vp_cell_i, arrV_store]
          congr 2
          funext q
          by_cases hq : q = j.toNatClampNeg
          · subst hq
            simp [updV, upd]
            try rfl
          · simp [updV, upd, hq]
        · cases hstep
      · cases hstep
    · cases hstep
  | lastore =>
    simp only [mm_step, mm_nx] at hstep
    split at hstep
    · rename_i x j k1 r
      split at hstep
      · rename_i t n f hw
        split at hstep
        · rename_i hcond
          obtain ⟨rfl, hin⟩ := hcond
          cases hstep
          refine W.last hx hb (hH.2 _ _ hw) ((hK.2 1 _ rfl).1 n (fun j => .long (f j))) (fun q => by cases q) (by show ¬ (j < 0 ∨ (arrV _ _ _).slots.size ≤ _); rw [arrV_size]; exact hin) rfl rfl hd fun H1 e1 z1 oq => ?_
          refine kk ls H1 _ cells slots hl (hH.set hw ?_ z1 oq) (hS.put z1 oq (hA k1)) (by rw [List.length_set]) (mm_sl_eq hw rfl)
          show H1[z + k1]? = some (vp_cell _ _)
          rw [e1]
          show some ((vp_cell _ (n, .inr (.inl f))).setSlot _ _) = some (vp_cell _ (n, .inr (.inl (vp_updL f j.toNatClampNeg x))))
          rw [vp_cell_l, vp_cell_l, arrV_store]
          congr 2
          funext q
          by_cases hq : q = j.toNatClampNeg
          · subst hq
            simp [updV, vp_updL]
            try rfl
          · simp [updV, vp_updL, hq]
        · cases hstep
      · cases hstep
    · cases hstep
  | bastore =>
    simp only [mm_step, mm_nx] at hstep
    split at hstep
    · rename_i x j k1 r
      split at hstep
      · rename_i t n f hw
        split at hstep
        · rename_i hin
          split at hstep
          · rename_i ht
            subst ht
            cases hstep
            refine W.bast hx hb (hH.2 _ _ hw) ((hK.2 2 _ rfl).1 n (fun j => .int (f j))) (fun q => by cases q) (by show ¬ (j < 0 ∨ (arrV _ _ _).slots.size ≤ _); rw [arrV_size]; exact hin) rfl rfl hd fun H1 e1 z1 oq => ?_
            refine kk ls H1 _ cells slots hl (hH.set hw ?_ z1 oq) (hS.put z1 oq (hA k1)) (by rw [List.length_set]) (mm_sl_eq hw rfl)
            show H1[z + k1]? = some (vp_cell _ _)
            rw [e1]
            show some ((vp_cell _ (n, .inl f)).setSlot _ _) = some (vp_cell _ (n, .inl (upd f j.toNatClampNeg (vp_nar .byte x))))
            rw [vp_cell_i, vp_cell_i, arrV_store]
            congr 2
            funext q
            by_cases hq : q = j.toNatClampNeg
            · subst hq
              simp [updV, upd, vp_nar]
              try rfl
            · simp [updV, upd, vp_nar, hq]
          · split at hstep
            · rename_i ht2 ht
              subst ht
              cases hstep
              refine W.zast hx hb (hH.2 _ _ hw) ((hK.2 3 _ rfl).1 n (fun j => .int (f j))) (fun q => by cases q) (by show ¬ (j < 0 ∨ (arrV _ _ _).slots.size ≤ _); rw [arrV_size]; exact hin) rfl rfl hd fun H1 e1 z1 oq => ?_
              refine kk ls H1 _ cells slots hl (hH.set hw ?_ z1 oq) (hS.put z1 oq (hA k1)) (by rw [List.length_set]) (mm_sl_eq hw rfl)
              show H1[z + k1]? = some (vp_cell _ _)
              rw [e1]
              show some ((vp_cell _ (n, .inl f)).setSlot _ _) = some (vp_cell _ (n, .inl (upd f j.toNatClampNeg (vp_nar .boolean x))))
              rw [vp_cell_i, vp_cell_i, arrV_store]
              congr 2
              funext q
              by_cases hq : q = j.toNatClampNeg
              · subst hq
                simp [updV, upd, vp_nar]
                try rfl
              · simp [updV, upd, vp_nar, hq]
            · cases hstep
        · cases hstep
      · cases hstep
    · cases hstep
  | aastore =>
    simp only [mm_step, mm_nx] at hstep
    split at hstep
    · rename_i x j k1 r
      split at hstep
      · rename_i t n f hw
        split at hstep
        · rename_i hcond
          obtain ⟨ht, hin⟩ := hcond
          split at hstep
          · cases hstep
            rcases ht with rfl | rfl
            ·
              refine va_WaastN (C := "WashLine$Text") hx hb (hH.2 _ _ hw) ((hK.2 4 _ rfl).1 n (fun j => va_rf ((f j).map (fun q => z + q)))) (fun q => by cases q) (by show ¬ (j < 0 ∨ (arrV _ _ _).slots.size ≤ _); rw [arrV_size]; exact hin) rfl rfl hd fun H1 e1 z1 oq => ?_
              refine kk ls H1 _ cells slots hl (hH.set hw ?_ z1 oq) (hS.put z1 oq (hA k1)) (by rw [List.length_set]) (mm_sl_eq hw rfl)
              show H1[z + k1]? = some (vp_cell _ _)
              rw [e1]
              show some ((vp_cell _ (n, .inr (.inr (.inr (.inr (fun j => (f j).map (fun q => z + q))))))).setSlot _ _) = some (vp_cell _ (n, .inr (.inr (.inr (.inr (fun q1 => ((va_up f j.toNatClampNeg none) q1).map (fun q => z + q)))))))
              rw [vp_cell_q, vp_cell_q, arrV_store]
              congr 2
              funext q
              by_cases hq : q = j.toNatClampNeg
              · subst hq
                simp [updV, va_up, va_rf]
              · simp [updV, va_up, hq]
            ·
              refine va_WaastN (C := "WashLine$State") hx hb (hH.2 _ _ hw) ((hK.2 5 _ rfl).1 n (fun j => va_rf ((f j).map (fun q => z + q)))) (fun q => by cases q) (by show ¬ (j < 0 ∨ (arrV _ _ _).slots.size ≤ _); rw [arrV_size]; exact hin) rfl rfl hd fun H1 e1 z1 oq => ?_
              refine kk ls H1 _ cells slots hl (hH.set hw ?_ z1 oq) (hS.put z1 oq (hA k1)) (by rw [List.length_set]) (mm_sl_eq hw rfl)
              show H1[z + k1]? = some (vp_cell _ _)
              rw [e1]
              show some ((vp_cell _ (n, .inr (.inr (.inr (.inr (fun j => (f j).map (fun q => z + q))))))).setSlot _ _) = some (vp_cell _ (n, .inr (.inr (.inr (.inr (fun q1 => ((va_up f j.toNatClampNeg none) q1).map (fun q => z + q)))))))
              rw [vp_cell_q, vp_cell_q, arrV_store]
              congr 2
              funext q
              by_cases hq : q = j.toNatClampNeg
              · subst hq
                simp [updV, va_up, va_rf]
              · simp [updV, va_up, hq]
          · rename_i o
            split at hstep
            · rename_i c1 vs ho
              split at hstep
              · rename_i hcc
                cases hstep
                rcases hcc with ⟨rfl, rfl⟩ | ⟨rfl, rfl⟩
                ·
                  obtain ⟨T, N, hcl⟩ := hc6
                  obtain ⟨r', hr', cellV, g1, g2, g3, -⟩ := hH.2 _ _ ho
                  have hcls1 := (hK.1 _ _ hcl).2
                  obtain ⟨kA, comp, k1', k2, k3, -⟩ := (hK.2 4 _ rfl).2
                  have hcomp : comp = D.1 6 := Option.some.inj (k3.symm.trans hcls1.1)
                  subst hcomp
                  obtain ⟨kC, hkC, -⟩ := hcls1.2
                  have h0 : ¬ j < 0 := fun q => hin (Or.inl q)
                  have hlt : j.toNatClampNeg < n := Nat.not_le.mp fun q => hin (Or.inr q)
                  refine W.aast hx hb (hH.2 _ _ hw) (fun q h => by cases h) (fun h => by cases h) k1' k2 rfl hkC ⟨h0, by show _ < (arrV _ _ _).slots.size; rw [arrV_size]; exact hlt⟩ g1 (fun q h => by rw [g3] at h; cases h) (by rw [g2]; exact hkC) (by rw [g2]; exact va_assign hcls1) rfl rfl hd fun H1 e1 z1 oq => ?_
                  refine kk ls H1 _ cells slots hl (hH.set hw ?_ z1 oq) (hS.put z1 oq (hA k1)) (by rw [List.length_set]) (mm_sl_eq hw rfl)
                  show H1[z + k1]? = some (vp_cell _ _)
                  rw [e1]
                  show some ((vp_cell _ (n, .inr (.inr (.inr (.inr (fun j => (f j).map (fun q => z + q))))))).setSlot _ _) = some (vp_cell _ (n, .inr (.inr (.inr (.inr (fun q1 => ((va_up f j.toNatClampNeg (some o)) q1).map (fun q => z + q)))))))
                  rw [vp_cell_q, vp_cell_q, arrV_store]
                  congr 2
                  funext q
                  by_cases hq : q = j.toNatClampNeg
                  · subst hq
                    simp [updV, va_up, va_rf]
                  · simp [updV, va_up, hq]
                ·
                  obtain ⟨T, N, hcl⟩ := hc5
                  obtain ⟨r', hr', cellV, g1, g2, g3, -⟩ := hH.2 _ _ ho
                  have hcls1 := (hK.1 _ _ hcl).2
                  obtain ⟨kA, comp, k1', k2, k3, -⟩ := (hK.2 5 _ rfl).2
                  have hcomp : comp = D.1 5 := Option.some.inj (k3.symm.trans hcls1.1)
                  subst hcomp
                  obtain ⟨kC, hkC, -⟩ := hcls1.2
                  have h0 : ¬ j < 0 := fun q => hin (Or.inl q)
                  have hlt : j.toNatClampNeg < n := Nat.not_le.mp fun q => hin (Or.inr q)
                  refine W.aast hx hb (hH.2 _ _ hw) (fun q h => by cases h) (fun h => by cases h) k1' k2 rfl hkC ⟨h0, by show _ < (arrV _ _ _).slots.size; rw [arrV_size]; exact hlt⟩ g1 (fun q h => by rw [g3] at h; cases h) (by rw [g2]; exact hkC) (by rw [g2]; exact va_assign hcls1) rfl rfl hd fun H1 e1 z1 oq => ?_
                  refine kk ls H1 _ cells slots hl (hH.set hw ?_ z1 oq) (hS.put z1 oq (hA k1)) (by rw [List.length_set]) (mm_sl_eq hw rfl)
                  show H1[z + k1]? = some (vp_cell _ _)
                  rw [e1]
                  show some ((vp_cell _ (n, .inr (.inr (.inr (.inr (fun j => (f j).map (fun q => z + q))))))).setSlot _ _) = some (vp_cell _ (n, .inr (.inr (.inr (.inr (fun q1 => ((va_up f j.toNatClampNeg (some o)) q1).map (fun q => z + q)))))))
                  rw [vp_cell_q, vp_cell_q, arrV_store]
                  congr 2
                  funext q
                  by_cases hq : q = j.toNatClampNeg
                  · subst hq
                    simp [updV, va_up, va_rf]
                  · simp [updV, va_up, hq]
              · cases hstep
            · cases hstep
          · cases hstep
        · cases hstep
      · cases hstep
    · cases hstep
  | newarray t =>
    simp only [mm_lnk] at hk
    obtain ⟨ha4, hty, hac⟩ := hk
    simp only [mm_step, mm_nx] at hstep
    split at hstep
    · rename_i n r
      split at hstep
      · rename_i hcond
        obtain ⟨hn0, hn1⟩ := hcond
        split at hstep
        · rename_i e1 he1
          cases hstep
          have hsz : mm_sl1 e1 = n.toNatClampNeg ∧ ∀ (cB : ClassId) (H1 : Heap), H1[H.size]? = some (arrV cB n.toNatClampNeg (fun _ => defaultValue (newarray.typeOf t))) → cB = cA a → va_at D cl (H.size, mm_tE cA z E e1) H1 := by
            rcases a with _ | _ | _ | _ | a
            all_goals first | omega | skip
            all_goals
              simp only [mm_new, Option.some.injEq] at he1
              subst he1
              refine ⟨rfl, fun cB H1 h1 h2 => ?_⟩
              subst h2
              have hty' := Option.some.inj hty
              rw [← hty'] at h1
              exact h1
          rw [List.length_append, List.length_singleton] at hcells
          rw [mm_sl_push, hsz.1] at hslots
          refine va_newaK hx hb (hts _ hac) rfl hd rfl hn0 rfl ?_ (by omega) (by omega) rfl fun H1 cB f1 f2 f3 f4 f5 => ?_
          · have : componentBytes (newarray.typeOf t) ≤ 8 := by cases t <;> decide
            calc _ ≤ 60000 * 8 := Nat.mul_le_mul hn1 this
              _ ≤ _ := by decide
          · have hcB : cB = cA a := by
              have h5 := (hK.2 a _ hty).2
              have h6 : s.vm.findClass ("[" ++ (newarray.typeOf t).toString) = some (cA a) := by cases t <;> exact h5
              exact Option.some.inj (f5.symm.trans h6)
            have hh : H.size = z + w.length := hH.1
            have h7 := kk ls H1 locs (cells + 1) (slots + n.toNatClampNeg) hl (hH.push (hsz.2 cB H1 f1 hcB) f2 f3) ⟨Nat.le_trans hS.1 (by omega), fun x h1 h2 => (f3 x (Nat.lt_of_lt_of_le h1 hS.1)).trans (hS.2.1 x h1 h2), hS.2.2⟩ (by simp; omega) (by rw [mm_sl_push, hsz.1]; omega)
            rw [List.map_cons] at h7
            simp only [mm_tv] at h7
            rw [← hh] at h7
            exact h7
        · cases hstep
      · cases hstep
    · cases hstep
  | anewarray k =>
    simp only [mm_lnk] at hk
    obtain ⟨C, hty, hlk, hao⟩ := hk
    simp only [mm_step, mm_nx] at hstep
    split at hstep
    · rename_i n r
      split at hstep
      · rename_i hcond
        obtain ⟨hn0, hn1, ha⟩ := hcond
        cases hstep
        rw [List.length_append, List.length_singleton] at hcells
        rw [mm_sl_push] at hslots
        simp only [mm_sl1] at hslots
        refine W.anew hx hb hown (hts _ hlk) (hts _ hao) rfl hd rfl hn0 (by omega) (by omega) (by omega) fun cB kA comp f1 f2 f3 f4 => ?_
        have hcB : cB = cA a := by
          obtain ⟨kA', comp', g1, g2, g3, g4⟩ := (hK.2 a _ hty).2
          exact Option.some.inj (f1.symm.trans g4)
        generalize hH1 : H.push ({ cls := cB, slots := Array.replicate n.toNatClampNeg .null, vm := .none } : Cell) = H1
        have z1 : H1.size = H.size + 1 := by rw [← hH1, Array.size_push]
        have e1 : H1[H.size]? = some (arrV cB n.toNatClampNeg (fun _ => .null)) := by rw [← hH1, Array.getElem?_push_size, ← arrV_new]
        have o1 : ∀ q : Nat, q < H.size → H1[q]? = H[q]? := fun q hq => by rw [← hH1, Array.getElem?_push, if_neg (Nat.ne_of_lt hq)]
        have hh : H.size = z + w.length := hH.1
        have h7 := kk ls H1 locs (cells + 1) (slots + n.toNatClampNeg) hl (hH.push (by rw [hcB] at e1; exact e1) z1 o1) ⟨Nat.le_trans hS.1 (by omega), fun x h1 h2 => (o1 x (Nat.lt_of_lt_of_le h1 hS.1)).trans (hS.2.1 x h1 h2), hS.2.2⟩ (by simp; omega) (by rw [mm_sl_push]; simp only [mm_sl1]; omega)
        rw [List.map_cons] at h7
        simp only [mm_tv] at h7
        rw [← hh] at h7
        exact h7
      · cases hstep
    · cases hstep
  | new k =>
    simp only [mm_lnk] at hk
    obtain ⟨C, T, N, hc, hlk⟩ := hk
    simp only [mm_step, mm_nx] at hstep
    split at hstep
    · rename_i fs hfs
      cases hstep
      obtain ⟨hin, -, hins, hini, ty0, fs0, hty0, hG, hfl, hdf, hall⟩ := hcls _ _ hc
      cases hfs.symm.trans hG
      rw [List.length_append, List.length_singleton] at hcells
      rw [mm_sl_push] at hslots
      simp only [mm_sl1] at hslots
      have hKn := hK.1 a _ hc
      have hmap : fs.map (mm_tv z E) = fs := by
        conv => rhs; rw [← List.map_id fs]
        apply List.map_congr_left
        intro v hv
        rcases hall v hv with rfl | rfl | rfl <;> rfl
      refine W.newcK hx hb hown (hts _ hlk) (hts _ hins) (hts _ hini) rfl hd (by omega) (by simp only at hfl ⊢; omega) hKn.2.1 rfl fun H1 kC hkC f1 f2 f3 => ?_
      have hh : H.size = z + w.length := hH.1
      have h7 := kk ls H1 locs (cells + 1) (slots + N) hl (hH.push ⟨_, hc, by
          show t_OB _ _ _ _ _ (vp_V (fs.map (mm_tv z E)))
          rw [hmap]
          exact (u_born ty0 hts hin hKn hkC f1 hty0).to hdf⟩ f2 f3) ⟨Nat.le_trans hS.1 (by omega), fun x h1 h2 => (f3 x (Nat.lt_of_lt_of_le h1 hS.1)).trans (hS.2.1 x h1 h2), hS.2.2⟩ (by simp; omega) (by rw [mm_sl_push]; simp only [mm_sl1]; simp only at hfl; omega)
      rw [List.map_cons] at h7
      simp only [mm_tv] at h7
      rw [← hh] at h7
      exact h7
    · cases hstep
  | checkcast k =>
    simp only [mm_lnk] at hk
    simp only [mm_step, mm_nx] at hstep
    split at hstep
    · rename_i k1 r
      split at hstep
      · rename_i t x hw
        split at hstep
        · rename_i ht
          subst ht
          cases hstep
          exact va_castA (D := D) (cl := cl) hx hb hown (hts _ hk) (hH.P hw) 0 rfl (va_nm_int (hK.2 0 _ rfl).2) hd (kk0 hl hH hS rfl rfl)
        · cases hstep
      · cases hstep
    · cases hstep
  | invokespecial k =>
    simp only [mm_lnk] at hk
    simp only [mm_step, mm_nx] at hstep
    split at hstep
    · rename_i hv
      rcases hk with ⟨-, h1, h2, h3⟩ | ⟨hv', -⟩
      · split at hstep
        · rename_i k1 r
          split at hstep
          · rename_i hcat
            cases hstep
            refine W.objInit hx hb hown (hts _ h1) (hts _ h2) (hts _ h3) rfl (by rw [hml]; exact hl.2.1) rfl hd (by omega) ?_ (kk0 hl hH hS rfl rfl)
            have := mm_cat_tv z E st'
            show 2 * 0 + _ + 12 ≤ _
            rw [this]
            omega
          · cases hstep
        · cases hstep
      · exact absurd hv hv'
    · exfalso
      repeat' split at hstep
      all_goals first | (cases hstep; done) | contradiction
  | invokestatic k =>
    simp only [mm_lnk] at hk
    simp only [mm_step, mm_nx] at hstep
    split at hstep
    · rename_i hv
      rcases hk with ⟨-, hlk, hnat, hstat, hini⟩ | ⟨hv', -⟩ | ⟨hv', -⟩ | ⟨hv', -⟩ | ⟨hv', -⟩ | ⟨hv', -⟩
      · split at hstep
        · rename_i n dp k1 sp j1 r
          split at hstep
          · rename_i t0 n0 f t1 n1 g hw0 hw1
            split at hstep
            · rename_i hcond
              obtain ⟨rfl, rfl, h1, h2, h3, h4, h5, hcat⟩ := hcond
              cases hstep
              have nn : ∀ q : Int32, ¬ q < 0 → q.toInt = ((q.toNatClampNeg : Nat) : Int) := by
                intro q hq
                have h0 : 0 ≤ q.toInt := by
                  have := Int32.not_lt.mp hq
                  simpa using Int32.le_iff_toInt_le.mp this
                show q.toInt = ((q.toInt.toNat : Nat) : Int)
                omega
              intro T hT X
              have hc0 : H[z + j1]? = some (vp_cell (cA 0) (n0, .inl f)) := hH.2 _ _ hw0
              have hc1 : H[z + k1]? = some (vp_cell (cA 0) (n1, .inl g)) := hH.2 _ _ hw1
              obtain ⟨-, k0, hk0, cm0, hkk0⟩ := (hK.2 0 _ rfl).1 n0 (fun j => .int (f j))
              obtain ⟨-, k1', hk1, cm1, hkk1⟩ := (hK.2 0 _ rfl).1 n1 (fun j => .int (g j))
              obtain ⟨vm', X', step⟩ := X.arraycopy hx hown (hts _ hlk) (hts _ hnat) (hts _ hstat) (hts _ hini) (src := z + j1) (dst := z + k1) (cs := vp_cell (cA 0) (n0, .inl f)) (cd := vp_cell (cA 0) (n1, .inl g)) (srcPos := sp) (destPos := dp) (n := n) (by rw [hT]; exact hc0) (by rw [hT]; exact hc1)
                (fun _ h => by cases h) (fun _ h => by cases h) (fun h => by cases h) (fun h => by cases h) hk0 hk1 hkk0 hkk1 (by simp [refKind]) h1 h2 h3
                (by rw [nn sp h1, nn n h3]; show ¬ _ > ((arrV (cA 0) n0 (fun j => .int (f j))).slots.size : Int); rw [arrV_size]; omega)
                (by rw [nn dp h2, nn n h3]; show ¬ _ > ((arrV (cA 0) n1 (fun j => .int (g j))).slots.size : Int); rw [arrV_size]; omega)
                (fun vm₁ _ i hi => by
                  have e1 : (vp_cell (cA 0) (n0, .inl f)).slots.getD (sp.toNatClampNeg + i) .null = .int (f (sp.toNatClampNeg + i)) := by
                    show (arrV (cA 0) n0 (fun j => .int (f j))).slots.getD _ _ = _
                    rw [Array.getD_eq_getD_getElem?, arrV_read _ _ (by omega)]
                    rfl
                  refine ⟨?_, ?_⟩
                  · rw [e1]
                    rfl
                  · rw [e1]
                    exact trivial)
                (g := F0 m pc ls (.int n :: .int dp :: .ref (z + k1) :: .int sp :: .ref (z + j1) :: st'.map (mm_tv z E))) rfl (by rw [hml]; exact hl.2.1) (rest := st'.map (mm_tv z E)) rfl (by rw [hb]; exact hd) (by omega) (by
                  have := mm_cat_tv z E st'
                  show 2 * 0 + _ + _ ≤ _
                  rw [this]
                  have h9 : nativeFrameWords "java/lang/System" "arraycopy" 5 = 7 := by decide
                  rw [h9]
                  omega)
              have e1 : copied (vp_cell (cA 0) (n0, .inl f)) (vp_cell (cA 0) (n1, .inl g)) sp dp n = vp_cell (cA 0) (n1, .inl (va_cpy f g sp.toNatClampNeg dp.toNatClampNeg n.toNatClampNeg)) := va_copied (fun z => .int z) (cA 0) (cA 0) f g h4
              rw [e1] at X' step
              have hlt : z + k1 < H.size := (Array.getElem?_eq_some_iff.mp hc1).1
              have hheap : ((T.setVm vm').setCell (z + k1) (vp_cell (cA 0) (n1, .inl (va_cpy f g sp.toNatClampNeg dp.toNatClampNeg n.toNatClampNeg)))).heap = H.setIfInBounds (z + k1) (vp_cell (cA 0) (n1, .inl (va_cpy f g sp.toNatClampNeg dp.toNatClampNeg n.toNatClampNeg))) := by rw [← hT]; rfl
              have oq : ∀ q : Nat, q ≠ z + k1 → (H.setIfInBounds (z + k1) (vp_cell (cA 0) (n1, .inl (va_cpy f g sp.toNatClampNeg dp.toNatClampNeg n.toNatClampNeg))))[q]? = H[q]? := fun q hq => by simp [Array.getElem?_setIfInBounds, Ne.symm hq]
              obtain ⟨t, a1, b1⟩ := kk ls _ _ cells slots hl (hH.set hw1 (show (H.setIfInBounds (z + k1) _)[z + k1]? = some _ by simp [Array.getElem?_setIfInBounds, hlt]; rfl) (by simp) oq) ⟨by simp; exact hS.1, fun q g1 g2 => by
                  rw [oq q (fun e => g2 (by rw [e]; exact hA k1))]
                  exact hS.2.1 q g1 g2, fun q hq => by
                  rcases List.mem_append.mp hq with h | h
                  · exact hS.2.2 q h
                  · obtain ⟨x, -, hz⟩ := List.mem_map.mp h
                    rw [← hz]
                    exact hA k1⟩ (by rw [List.length_set]) (mm_sl_eq hw1 rfl) _ hheap X'
              exact ⟨t, step t a1, b1⟩
            · cases hstep
          · cases hstep
        · cases hstep
      · rw [hv] at hv'; cases hv'
      · rw [hv] at hv'; cases hv'
      · rw [hv] at hv'; cases hv'
      · rw [hv] at hv'; cases hv'
      · exact absurd hv hv'
    · rename_i hv
      rcases hk with ⟨hv', -⟩ | ⟨hv', h1, h2, h3, h4⟩ | ⟨hv', h1, h2, h3, h4⟩ | ⟨hv', h1, h2, h3, h4⟩ | ⟨hv', h1, h2, h3, h4⟩ | ⟨-, n0, n1, n2, n3, -⟩
      · exact absurd hv' hv
      · subst hv'
        simp at hstep
        split at hstep
        · split at hstep
          · rename_i hcat
            cases hstep
            exact va_mmax hx hb (by rw [hml]; exact hl.2.1.symm) hown (hts _ h1) (hts _ h2) (hts _ h3) (hts _ h4) (by omega) (by rw [mm_cat_tv]; omega) (by omega) (by omega) hd (kk0 hl hH hS rfl rfl)
          · cases hstep
        · cases hstep
      · subst hv'
        simp at hstep
        split at hstep
        · split at hstep
          · rename_i hcat
            cases hstep
            exact va_mmin hx hb (by rw [hml]; exact hl.2.1.symm) hown (hts _ h1) (hts _ h2) (hts _ h3) (hts _ h4) (by omega) (by rw [mm_cat_tv]; omega) (by omega) (by omega) hd (kk0 hl hH hS rfl rfl)
          · cases hstep
        · cases hstep
      · subst hv'
        simp at hstep
        split at hstep
        · split at hstep
          · rename_i hcat
            cases hstep
            exact va_mmax_long hx hb (by rw [hml]; exact hl.2.1.symm) hown (hts _ h1) (hts _ h2) (hts _ h3) (hts _ h4) (by omega) (by rw [mm_cat_tv]; omega) (by omega) (by omega) hd (kk0 hl hH hS rfl rfl)
          · cases hstep
        · cases hstep
      · subst hv'
        simp at hstep
        split at hstep
        · split at hstep
          · rename_i hcat
            cases hstep
            exact va_mmin_long hx hb (by rw [hml]; exact hl.2.1.symm) hown (hts _ h1) (hts _ h2) (hts _ h3) (hts _ h4) (by omega) (by rw [mm_cat_tv]; omega) (by omega) (by omega) hd (kk0 hl hH hS rfl rfl)
          · cases hstep
        · cases hstep
      · exfalso
        rw [if_neg n0, if_neg n1, if_neg n2, if_neg n3] at hstep
        repeat' split at hstep
        all_goals first | (cases hstep; done) | contradiction
  | invokevirtual k =>
    simp only [mm_lnk] at hk
    simp only [mm_step, mm_nx] at hstep
    split at hstep
    · rename_i hv
      rcases hk with ⟨-, hlk, hsame, hnat, hinst, hsel, hcst⟩ | ⟨hv', -⟩ | ⟨hv', -⟩ | ⟨c1, C, T, N, M, hv', -⟩
      · split at hstep
        · rename_i k1 r
          split at hstep
          · rename_i t n f hw
            split at hstep
            · rename_i hcond
              obtain ⟨rfl, hcat⟩ := hcond
              cases hstep
              have hnm0 := va_nm_int (hK.2 0 _ rfl).2
              rw [List.length_append, List.length_singleton] at hcells
              rw [mm_sl_push] at hslots
              simp only [mm_sl1] at hslots
              intro T hT X
              have hc0 : H[z + k1]? = some (vp_cell (cA 0) (n, .inl f)) := hH.2 _ _ hw
              have hcellT : T.heap[z + k1]? = some (vp_cell (cA 0) (n, .inl f)) := by rw [hT]; exact hc0
              have hsz : (vp_cell (cA 0) (n, .inl f)).slots.size = n := arrV_size _ _ _
              have hcellE : ({ cls := (vp_cell (cA 0) (n, .inl f)).cls, slots := (vp_cell (cA 0) (n, .inl f)).slots } : Cell) = vp_cell (cA 0) (n, .inl f) := rfl
              obtain ⟨c0, t0', f1, f2, f3⟩ := Cond.castable_spec (hts _ hcst)
              cases hnm0.symm.trans f1
              obtain ⟨-, kA, hkA, comp, hkind⟩ := State.isArrayOf_alike X.warmed.alike ((hK.2 0 _ rfl).1 0 (fun _ => .null))
              obtain ⟨-, kS, hkS, compS, hkindS⟩ := (hK.2 0 _ rfl).1 0 (fun _ => .null)
              obtain ⟨vm', X', st1⟩ := X.cloneArray hx hown (hts _ hlk) (hts _ hsame) (hts _ hnat) (hts _ hinst) (hts _ hsel) (a := z + k1) (cell := vp_cell (cA 0) (n, .inl f)) hcellT (fun k h => by cases h) (fun h => by cases h) hnm0 f2 f3
                (fun i v hv => by
                  have hk' : T.vm.classes[cA 0]? = some kA := hkA
                  have hv2 : ∃ x : Int32, v = .int x := by
                    have hi : i < n := by
                      have := (Array.getElem?_eq_some_iff.mp hv).1
                      rw [hsz] at this
                      exact this
                    have h8 : (arrV (cA 0) n (fun j => .int (f j))).slots[i]? = some v := hv
                    rw [arrV_read _ _ hi] at h8
                    exact ⟨_, (Option.some.inj h8).symm⟩
                  obtain ⟨x, rfl⟩ := hv2
                  have hcl9 : (vp_cell (cA 0) (n, .inl f)).cls = cA 0 := rfl
                  rw [hcl9]
                  simp [State.fitsSlot, State.slotType?, hk', hkind, fits])
                (g := F0 m pc ls (.ref (z + k1) :: r.map (mm_tv z E))) rfl (by rw [hml]; exact hl.2.1) rfl (by rw [hb]; exact hd) (by omega) (by
                  have := mm_cat_tv z E r
                  show 2 * 0 + _ + 14 ≤ _
                  rw [this]
                  omega) (by omega) (by rw [hsz]; omega) (hloader := Vm.clonesLoader_of_array hkS hkindS)
              rw [hcellE, hsz] at X'
              generalize hH1 : H.push (vp_cell (cA 0) (n, .inl f)) = H1
              have z1 : H1.size = H.size + 1 := by rw [← hH1, Array.size_push]
              have e1 : H1[H.size]? = some (vp_cell (cA 0) (n, .inl f)) := by rw [← hH1, Array.getElem?_push_size]
              have o1 : ∀ q : Nat, q < H.size → H1[q]? = H[q]? := fun q hq => by rw [← hH1, Array.getElem?_push, if_neg (Nat.ne_of_lt hq)]
              have hh : H.size = z + w.length := hH.1
              have h7 := kk ls H1 locs (cells + 1) (slots + n) hl (hH.push e1 z1 o1) ⟨Nat.le_trans hS.1 (by omega), fun x h1 h2 => (o1 x (Nat.lt_of_lt_of_le h1 hS.1)).trans (hS.2.1 x h1 h2), hS.2.2⟩ (by simp; omega) (by rw [mm_sl_push]; simp only [mm_sl1]; omega)
              rw [List.map_cons] at h7
              simp only [mm_tv] at h7
              rw [← hh] at h7
              obtain ⟨t, b1, b2⟩ := h7 ((T.setVm vm').pushCell (vp_cell (cA 0) (n, .inl f))) (by rw [← hH1, ← hT]; rfl) X'
              refine ⟨t, st1 t ?_, b2⟩
              rw [hcellE, hT]
              exact b1
            · cases hstep
          · cases hstep
        · cases hstep
      · rw [hv] at hv'; cases hv'
      · rw [hv] at hv'; cases hv'
      · rw [hv] at hv'; cases hv'
    · split at hstep
      · rename_i hv0 hv
        rcases hk with ⟨hv', -⟩ | ⟨-, hlk⟩ | ⟨hv', -⟩ | ⟨c1, C, T, N, M, hv', -⟩
        · rw [hv] at hv'; cases hv'
        · split at hstep
          · rename_i x r
            split at hstep
            · rename_i tx htx
              split at hstep
              · rename_i hcond
                cases hstep
                exact hSl pc k ls H locs cells slots _ x tx hlk hd htx hcond.1 (by rw [mm_cat_tv]; exact hcond.2) hl.2.1 (by omega) (by omega) hS (kk0 hl hH hS rfl rfl)
              · cases hstep
            · cases hstep
          · cases hstep
        · rw [hv] at hv'; exact absurd hv' (by decide)
        · rw [hv] at hv'; cases hv'
      · split at hstep
        · rename_i hv0 hv1 hv
          rcases hk with ⟨hv', -⟩ | ⟨hv', -⟩ | ⟨-, hlk⟩ | ⟨c1, C, T, N, M, hv', -⟩
          · rw [hv] at hv'; cases hv'
          · rw [hv] at hv'; exact absurd hv' (by decide)
          · split at hstep
            · rename_i j x r
              split at hstep
              · rename_i tx htx
                split at hstep
                · rename_i hcond
                  cases hstep
                  exact hSc pc k ls H locs cells slots _ x tx j hlk hd htx hcond.1 hcond.2.2 (by rw [mm_cat_tv]; exact hcond.2.1) hl.2.1 (by omega) (by omega) hS (kk0 hl hH hS rfl rfl)
                · cases hstep
              · cases hstep
            · cases hstep
          · rw [hv] at hv'; cases hv'
        · exfalso
          repeat' split at hstep
          all_goals first | (cases hstep; done) | contradiction
  | return_ =>
    exfalso
    simp only [mm_step, mm_ret] at hstep
    repeat' split at hstep
    all_goals first | (cases hstep; done) | contradiction
  | ireturn =>
    exfalso
    simp only [mm_step, mm_ret] at hstep
    repeat' split at hstep
    all_goals first | (cases hstep; done) | contradiction
  | lreturn =>
    exfalso
    simp only [mm_step, mm_ret] at hstep
    repeat' split at hstep
    all_goals first | (cases hstep; done) | contradiction
  | areturn =>
    exfalso
    simp only [mm_step, mm_ret] at hstep
    repeat' split at hstep
    all_goals first | (cases hstep; done) | contradiction
  | _ => exact absurd hstep (by simp [mm_step])
end MM1
