/-! checks of a program against the tables, by a program -/
def mm_kp (w : Cond) : Bool := goodWord w || match w with
  | .methodLinkNest _ _ _ _ => true
  | .castable _ _ => true
  | .arrayOver (.object _) => true
  | _ => false
theorem mm_kp_or {w : Cond} (h : mm_kp w = true) : goodWord w = true ∨ mm_nk w := by
  unfold mm_kp at h
  rw [Bool.or_eq_true] at h
  rcases h with h | h
  · exact Or.inl h
  · right
    split at h
    · exact Or.inl ⟨_, _, _, _, rfl⟩
    · exact Or.inr (Or.inl ⟨_, _, rfl⟩)
    · exact Or.inr (Or.inr ⟨_, rfl⟩)
    · cases h
def mm_at (LT : List Cond) (p : Option Nat) (w : Cond) : Bool := match p with
  | some p => decide (LT[p]? = some w)
  | none => false
theorem mm_at_in {LT : List Cond} {p : Option Nat} {w : Cond} (h : mm_at LT p w = true) (hk : mm_kp w = true) : w ∈ LT.filter mm_kp := by
  unfold mm_at at h
  split at h
  · exact List.mem_filter.mpr ⟨List.mem_of_getElem? (of_decide_eq_true h), hk⟩
  · cases h
def mm_ifv (v : Value) (f : Int32 → Bool) : Bool := match v with
  | .int x => f x
  | _ => false
def mm_ilv (v : Value) (f : Int64 → Bool) : Bool := match v with
  | .long x => f x
  | _ => false
def mm_cls (cl : List vw_C) (a : Nat) (f : String → u_T → Nat → Bool) : Bool := match cl[a]? with
  | some (C, T, N) => f C T N
  | none => false
def mm_kindB (v : Value) (ty : FieldType) : Bool := match v, ty with
  | .int x, .int => x == 0
  | .int x, .boolean => x == 1
  | .long x, .long => x == 0
  | .null, .object _ => true
  | .null, .array _ => true
  | _, _ => false
theorem mm_kindB_ok {v : Value} {ty : FieldType} (h : mm_kindB v ty = true) : mm_kind v ty := by
  unfold mm_kindB at h
  split at h
  · have := eq_of_beq h; subst this; exact Or.inl ⟨rfl, rfl⟩
  · have := eq_of_beq h; subst this; exact Or.inr (Or.inl ⟨rfl, rfl⟩)
  · have := eq_of_beq h; subst this; exact Or.inr (Or.inr (Or.inl ⟨rfl, rfl⟩))
  · exact Or.inr (Or.inr (Or.inr ⟨rfl, Or.inl ⟨_, rfl⟩⟩))
  · exact Or.inr (Or.inr (Or.inr ⟨rfl, Or.inr ⟨_, rfl⟩⟩))
  · cases h
/-- a link to a method, plain or of a nest mate (host's place in the list of names) -/
def mm_mlk (LT : List Cond) (p : Option Nat) (own : String) (k : Nat) (y : MethodName) (nest : Bool) : Bool := if nest then mm_at LT p (.methodLinkNest own k y "WashLine") else mm_at LT p (.methodLink own k y)
theorem mm_mlk_in {LT : List Cond} {p : Option Nat} {own : String} {k : Nat} {y : MethodName} {nest : Bool} (h : mm_mlk LT p own k y nest = true) : Cond.methodLink own k y ∈ LT.filter mm_kp ∨ ∃ host, Cond.methodLinkNest own k y host ∈ LT.filter mm_kp := by
  unfold mm_mlk at h
  split at h
  · exact Or.inr ⟨_, mm_at_in h rfl⟩
  · exact Or.inl (mm_at_in h rfl)
def mm_ck (LT : List Cond) (cl : List vw_C) (SR : List (String × Nat × String)) (P : List mm_M) (y : MethodName) (pc : Nat) (q : mm_I) : Bool :=
  match q with
  | (i, a, b, v, _, tg) => match i with
    | .iconst n => mm_ifv v fun x => decide (x = Int32.ofInt n)
    | .bipush n => mm_ifv v fun x => decide (x = (Int8.ofInt n).toInt32)
    | .sipush n => mm_ifv v fun x => decide (x = (Int16.ofInt n).toInt32)
    | .lconst n => mm_ilv v fun x => decide (x = Int64.ofNat (n : Nat))
    | .ldc k => (mm_ifv v fun x => mm_at LT tg[0]? (.constant y.cls k x)) || (match v with
        | .float x => decide (16 ≤ x.toNat) && (match SR[x.toNat - 16]? with
          | some s => decide (s.1 = y.cls ∧ s.2.1 = k)
          | none => false)
        | _ => false)
    | .ldc_w k => mm_ifv v fun x => mm_at LT tg[0]? (.constant y.cls k x)
    | .ldc2_w k => mm_ilv v fun x => mm_at LT tg[0]? (.constantLong y.cls k x)
    | .iload_n k => decide ((k : Nat) = a)
    | .lload_n k => decide ((k : Nat) = a)
    | .aload_n k => decide ((k : Nat) = a)
    | .istore_n k => decide ((k : Nat) = a)
    | .lstore_n k => decide ((k : Nat) = a)
    | .astore_n k => decide ((k : Nat) = a)
    | .iload k => decide (k = a)
    | .lload k => decide (k = a)
    | .aload k => decide (k = a)
    | .istore k => decide (k = a)
    | .lstore k => decide (k = a)
    | .astore k => decide (k = a)
    | .iinc k n => decide (k = a) && mm_ifv v fun x => decide (x = Int32.ofInt n)
    | .goto o => decide ((pc : Int) + o = (a : Int))
    | .ifCond _ o => decide ((pc : Int) + o = (a : Int))
    | .if_icmp _ o => decide ((pc : Int) + o = (a : Int))
    | .ifnonnull o => decide ((pc : Int) + o = (a : Int))
    | .tableswitch dflt lo hi offs => (mm_ifv v fun l => decide (l.toInt = lo)) && decide ((pc : Int) + dflt = (a : Int)) && decide (hi = lo + tg.length - 1) && decide (lo + tg.length < 2147483648) && (List.range tg.length).all fun j => match tg[j]?, offs[j]? with
        | some t, some o => decide ((pc : Int) + o = (t : Int))
        | _, _ => false
    | .getfield k => mm_cls cl a fun _ T N => decide (b < N) && mm_at LT tg[0]? (.fieldLink y.cls k (T b).1 (T b).2.1 (T b).2.2.1)
    | .putfield k => mm_cls cl a fun _ T N => decide (b < N) && mm_at LT tg[0]? (.fieldLink y.cls k (T b).1 (T b).2.1 (T b).2.2.1) && (match parseFieldDescriptor (T b).2.2.1 with
        | some ty => mm_kindB v ty
        | none => false) && (!(T b).2.2.2 || (decide (y.name = "<init>") && decide ((T b).1 = y.cls)))
    | .newarray t => decide (a < 4) && decide (mm_tys[a]? = some (newarray.typeOf t)) && mm_at LT tg[0]? (.arrayClass (newarray.typeOf t))
    | .anewarray k => match mm_tys[a]? with
      | some (.object C) => mm_at LT tg[0]? (.classLink y.cls k C) && mm_at LT tg[1]? (.arrayOver (.object C))
      | _ => false
    | .new k => mm_cls cl a fun C _ _ => mm_at LT tg[0]? (.classLink y.cls k C)
    | .checkcast k => mm_at LT tg[0]? (.classLink y.cls k "[I")
    | .invokespecial k => if v = .null then mm_at LT tg[0]? (.methodLink y.cls k objectInit) && mm_at LT tg[1]? (.instanceMethod objectInit) && mm_at LT tg[2]? (.code objectInit ⟨#[0xb1]⟩ 1 none)
      else match P[a]? with
        | some M => decide (M.1.name = "<init>") && decide (M.2.2.2.1 = none) && mm_at LT tg[1]? (.instanceMethod M.1) && mm_at LT tg[2]? (.initialized M.1.cls) && decide (mm_np M.1 = some b) && mm_mlk LT tg[0]? y.cls k M.1 (tg[4]?.isSome)
        | none => false
    | .invokestatic k => if v = .null then mm_at LT tg[0]? (.methodLink y.cls k arraycopyName) && mm_at LT tg[1]? (.native arraycopyName) && mm_at LT tg[2]? (.static arraycopyName) && mm_at LT tg[3]? (.initialized "java/lang/System")
      else if v = .int 0 then mm_at LT tg[0]? (.methodLink y.cls k Lib.Math.max.name) && mm_at LT tg[1]? (.static Lib.Math.max.name) && mm_at LT tg[2]? (.initialized "java/lang/Math") && mm_at LT tg[3]? (.code Lib.Math.max.name Lib.Math.max.code 2 (some .int))
      else if v = .int 1 then mm_at LT tg[0]? (.methodLink y.cls k Lib.Math.min.name) && mm_at LT tg[1]? (.static Lib.Math.min.name) && mm_at LT tg[2]? (.initialized "java/lang/Math") && mm_at LT tg[3]? (.code Lib.Math.min.name Lib.Math.min.code 2 (some .int))
      else if v = .long 0 then mm_at LT tg[0]? (.methodLink y.cls k Lib.MathLoose.max_long.x) && mm_at LT tg[1]? (.static Lib.MathLoose.max_long.x) && mm_at LT tg[2]? (.initialized "java/lang/Math") && mm_at LT tg[3]? (.code Lib.MathLoose.max_long.x Lib.MathLoose.max_long.code 4 (some .long))
      else if v = .long 1 then mm_at LT tg[0]? (.methodLink y.cls k Lib.MathLoose.min_long.x) && mm_at LT tg[1]? (.static Lib.MathLoose.min_long.x) && mm_at LT tg[2]? (.initialized "java/lang/Math") && mm_at LT tg[3]? (.code Lib.MathLoose.min_long.x Lib.MathLoose.min_long.code 4 (some .long))
      else match P[a]? with
        | some M => mm_at LT tg[1]? (.static M.1) && mm_at LT tg[2]? (.initialized M.1.cls) && decide (mm_np M.1 = some b) && mm_mlk LT tg[0]? y.cls k M.1 (tg[4]?.isSome)
        | none => false
    | .invokevirtual k => if v = .null then mm_at LT tg[0]? (.methodLink y.cls k ⟨"[I", "clone", "()Ljava/lang/Object;"⟩) && mm_at LT tg[1]? (.sameMethod "[I" "java/lang/Object" "clone" "()Ljava/lang/Object;") && mm_at LT tg[2]? (.native ⟨"java/lang/Object", "clone", "()Ljava/lang/Object;"⟩) && mm_at LT tg[3]? (.instanceMethod ⟨"java/lang/Object", "clone", "()Ljava/lang/Object;"⟩) && mm_at LT tg[4]? (.selects "[I" ⟨"[I", "clone", "()Ljava/lang/Object;"⟩ ⟨"java/lang/Object", "clone", "()Ljava/lang/Object;"⟩) && mm_at LT tg[5]? (.castable "[I" "java/lang/Cloneable")
      else if v = .int 0 then mm_at LT tg[0]? (.methodLink y.cls k ⟨"java/lang/String", "length", "()I"⟩)
      else if v = .int 1 then mm_at LT tg[0]? (.methodLink y.cls k ⟨"java/lang/String", "charAt", "(I)C"⟩)
      else match v with
        | .ref c => mm_cls cl c fun C _ _ => match P[a]? with
          | some M => decide (M.1.cls = C) && mm_at LT tg[1]? (.instanceMethod M.1) && mm_at LT tg[3]? (.selects C M.1 M.1) && mm_at LT tg[2]? (.initialized C) && decide (mm_np M.1 = some b) && mm_mlk LT tg[0]? y.cls k M.1 (tg[4]?.isSome)
          | none => false
        | _ => false
    | _ => true
theorem mm_ifv_ok {v : Value} {f : Int32 → Bool} (h : mm_ifv v f = true) : ∃ x, v = .int x ∧ f x = true := by
  unfold mm_ifv at h
  split at h
  · exact ⟨_, rfl, h⟩
  · cases h
theorem mm_ilv_ok {v : Value} {f : Int64 → Bool} (h : mm_ilv v f = true) : ∃ x, v = .long x ∧ f x = true := by
  unfold mm_ilv at h
  split at h
  · exact ⟨_, rfl, h⟩
  · cases h
theorem mm_cls_ok {cl : List vw_C} {a : Nat} {f : String → u_T → Nat → Bool} (h : mm_cls cl a f = true) : ∃ C T N, cl[a]? = some (C, T, N) ∧ f C T N = true := by
  unfold mm_cls at h
  split at h
  · exact ⟨_, _, _, by assumption, h⟩
  · cases h
set_option maxHeartbeats 2000000 in
theorem mm_ck_ok {LT : List Cond} {cl : List vw_C} {SR : List (String × Nat × String)} {P : List mm_M} {y : MethodName} {pc : Nat} {q : mm_I} (h : mm_ck LT cl SR P y pc q = true) : mm_lnk (LT.filter mm_kp) cl mm_tys SR P y pc q := by
  obtain ⟨i, a, b, v, dead, tg⟩ := q
  cases i
  case iconst => obtain ⟨x, rfl, h⟩ := mm_ifv_ok h; have h' := of_decide_eq_true h; simp only [mm_lnk]; rw [h']
  case bipush => obtain ⟨x, rfl, h⟩ := mm_ifv_ok h; have h' := of_decide_eq_true h; simp only [mm_lnk]; rw [h']
  case sipush => obtain ⟨x, rfl, h⟩ := mm_ifv_ok h; have h' := of_decide_eq_true h; simp only [mm_lnk]; rw [h']
  case lconst => obtain ⟨x, rfl, h⟩ := mm_ilv_ok h; have h' := of_decide_eq_true h; simp only [mm_lnk]; rw [h']
  case ldc =>
    simp only [mm_ck, Bool.or_eq_true] at h
    rcases h with h | h
    · obtain ⟨x, rfl, h⟩ := mm_ifv_ok h
      exact Or.inl ⟨x, rfl, mm_at_in h rfl⟩
    · split at h
      · rename_i x
        rw [Bool.and_eq_true] at h
        obtain ⟨h1, h2⟩ := h
        split at h2
        · rename_i s hs
          simp only [decide_eq_true_eq] at h1 h2
          obtain ⟨s1, s2, s3⟩ := s
          obtain ⟨rfl, rfl⟩ := h2
          exact Or.inr ⟨x.toNat - 16, x, s3, rfl, by omega, hs⟩
        · cases h2
      · cases h
  case ldc_w => obtain ⟨x, rfl, h⟩ := mm_ifv_ok h; exact ⟨x, rfl, mm_at_in h rfl⟩
  case ldc2_w => obtain ⟨x, rfl, h⟩ := mm_ilv_ok h; exact ⟨x, rfl, mm_at_in h rfl⟩
  case iload_n => simp only [mm_ck, decide_eq_true_eq] at h; simp only [mm_lnk]; exact h
  case lload_n => simp only [mm_ck, decide_eq_true_eq] at h; simp only [mm_lnk]; exact h
  case aload_n => simp only [mm_ck, decide_eq_true_eq] at h; simp only [mm_lnk]; exact h
  case istore_n => simp only [mm_ck, decide_eq_true_eq] at h; simp only [mm_lnk]; exact h
  case lstore_n => simp only [mm_ck, decide_eq_true_eq] at h; simp only [mm_lnk]; exact h
  case astore_n => simp only [mm_ck, decide_eq_true_eq] at h; simp only [mm_lnk]; exact h
  case iload => simp only [mm_ck, decide_eq_true_eq] at h; simp only [mm_lnk]; exact h
  case lload => simp only [mm_ck, decide_eq_true_eq] at h; simp only [mm_lnk]; exact h
  case aload => simp only [mm_ck, decide_eq_true_eq] at h; simp only [mm_lnk]; exact h
  case istore => simp only [mm_ck, decide_eq_true_eq] at h; simp only [mm_lnk]; exact h
  case lstore => simp only [mm_ck, decide_eq_true_eq] at h; simp only [mm_lnk]; exact h
  case astore => simp only [mm_ck, decide_eq_true_eq] at h; simp only [mm_lnk]; exact h
  case iinc =>
    simp only [mm_ck, Bool.and_eq_true] at h
    obtain ⟨x, rfl, h2⟩ := mm_ifv_ok h.2
    simp only [decide_eq_true_eq] at h2
    exact ⟨of_decide_eq_true h.1, by rw [h2]⟩
  case goto => simp only [mm_ck, decide_eq_true_eq] at h; simp only [mm_lnk]; exact h
  case ifCond => simp only [mm_ck, decide_eq_true_eq] at h; simp only [mm_lnk]; exact h
  case if_icmp => simp only [mm_ck, decide_eq_true_eq] at h; simp only [mm_lnk]; exact h
  case ifnonnull => simp only [mm_ck, decide_eq_true_eq] at h; simp only [mm_lnk]; exact h
  case tableswitch =>
    simp only [mm_ck, Bool.and_eq_true, decide_eq_true_eq, List.all_eq_true, List.mem_range] at h
    obtain ⟨⟨⟨⟨h1, h2⟩, h3⟩, h4⟩, h5⟩ := h
    obtain ⟨l, rfl, h1⟩ := mm_ifv_ok h1
    refine ⟨l, rfl, of_decide_eq_true h1, h2, h3, by omega, fun j t ht => ?_⟩
    have h6 := h5 j (List.getElem?_eq_some_iff.mp ht).1
    rw [ht] at h6
    split at h6
    · rename_i t2 o e1 e2
      cases e1
      exact ⟨o, e2, of_decide_eq_true h6⟩
    · cases h6
  case getfield =>
    obtain ⟨C, T, N, h1, h2⟩ := mm_cls_ok h
    simp only [Bool.and_eq_true, decide_eq_true_eq] at h2
    exact ⟨C, T, N, h1, h2.1, mm_at_in h2.2 rfl⟩
  case putfield =>
    obtain ⟨C, T, N, h1, h2⟩ := mm_cls_ok h
    simp only [Bool.and_eq_true, Bool.or_eq_true, decide_eq_true_eq] at h2
    obtain ⟨⟨⟨h2, h3⟩, h4⟩, h5⟩ := h2
    split at h4
    · rename_i ty hty
      refine ⟨C, T, N, ty, h1, h2, mm_at_in h3 rfl, hty, mm_kindB_ok h4, ?_⟩
      rcases h5 with h5 | h5
      · exact Or.inl (by simpa using h5)
      · by_cases hf : (T b).2.2.2 = true
        · exact Or.inr ⟨hf, h5.1, h5.2⟩
        · exact Or.inl (by simpa using hf)
    · cases h4
  case newarray =>
    simp only [mm_ck, Bool.and_eq_true, decide_eq_true_eq] at h
    exact ⟨h.1.1, h.1.2, mm_at_in h.2 rfl⟩
  case anewarray =>
    simp only [mm_ck] at h
    split at h
    · rename_i C hC
      rw [Bool.and_eq_true] at h
      exact ⟨C, hC, mm_at_in h.1 rfl, mm_at_in h.2 rfl⟩
    · cases h
  case new =>
    obtain ⟨C, T, N, h1, h2⟩ := mm_cls_ok h
    exact ⟨C, T, N, h1, mm_at_in h2 rfl⟩
  case checkcast => exact mm_at_in h rfl
  case invokespecial =>
    simp only [mm_ck] at h
    split at h
    · rename_i hv
      simp only [Bool.and_eq_true] at h
      exact Or.inl ⟨hv, mm_at_in h.1.1 rfl, mm_at_in h.1.2 rfl, mm_at_in h.2 rfl⟩
    · rename_i hv
      split at h
      · rename_i M hM
        simp only [Bool.and_eq_true, decide_eq_true_eq] at h
        obtain ⟨⟨⟨⟨⟨h1, h2⟩, h3⟩, h4⟩, h5⟩, h6⟩ := h
        exact Or.inr ⟨hv, M, hM, h1, h2, mm_at_in h3 rfl, mm_at_in h4 rfl, h5, mm_mlk_in h6⟩
      · cases h
  case invokestatic =>
    simp only [mm_ck] at h
    split at h
    · rename_i hv
      simp only [Bool.and_eq_true] at h
      exact Or.inl ⟨hv, mm_at_in h.1.1.1 rfl, mm_at_in h.1.1.2 rfl, mm_at_in h.1.2 rfl, mm_at_in h.2 rfl⟩
    · rename_i hv
      split at h
      · rename_i hv1
        simp only [Bool.and_eq_true] at h
        exact Or.inr (Or.inl ⟨hv1, mm_at_in h.1.1.1 rfl, mm_at_in h.1.1.2 rfl, mm_at_in h.1.2 rfl, mm_at_in h.2 rfl⟩)
      · rename_i hv1
        split at h
        · rename_i hv2
          simp only [Bool.and_eq_true] at h
          exact Or.inr (Or.inr (Or.inl ⟨hv2, mm_at_in h.1.1.1 rfl, mm_at_in h.1.1.2 rfl, mm_at_in h.1.2 rfl, mm_at_in h.2 rfl⟩))
        · rename_i hv2
          split at h
          · rename_i hv3
            simp only [Bool.and_eq_true] at h
            exact Or.inr (Or.inr (Or.inr (Or.inl ⟨hv3, mm_at_in h.1.1.1 rfl, mm_at_in h.1.1.2 rfl, mm_at_in h.1.2 rfl, mm_at_in h.2 rfl⟩)))
          · rename_i hv3
            split at h
            · rename_i hv4
              simp only [Bool.and_eq_true] at h
              exact Or.inr (Or.inr (Or.inr (Or.inr (Or.inl ⟨hv4, mm_at_in h.1.1.1 rfl, mm_at_in h.1.1.2 rfl, mm_at_in h.1.2 rfl, mm_at_in h.2 rfl⟩))))
            · rename_i hv4
              split at h
              · rename_i M hM
                simp only [Bool.and_eq_true, decide_eq_true_eq] at h
                obtain ⟨⟨⟨h3, h4⟩, h5⟩, h6⟩ := h
                exact Or.inr (Or.inr (Or.inr (Or.inr (Or.inr ⟨hv, hv1, hv2, hv3, hv4, M, hM, mm_at_in h3 rfl, mm_at_in h4 rfl, h5, mm_mlk_in h6⟩))))
              · cases h
  case invokevirtual =>
    simp only [mm_ck] at h
    split at h
    · rename_i hv
      simp only [Bool.and_eq_true] at h
      obtain ⟨⟨⟨⟨⟨h1, h2⟩, h3⟩, h4⟩, h5⟩, h6⟩ := h
      exact Or.inl ⟨hv, mm_at_in h1 rfl, mm_at_in h2 rfl, mm_at_in h3 rfl, mm_at_in h4 rfl, mm_at_in h5 rfl, mm_at_in h6 rfl⟩
    · split at h
      · rename_i hv0 hv
        exact Or.inr (Or.inl ⟨hv, mm_at_in h rfl⟩)
      · split at h
        · rename_i hv0 hv1 hv
          exact Or.inr (Or.inr (Or.inl ⟨hv, mm_at_in h rfl⟩))
        · split at h
          · obtain ⟨C, T, N, g1, g2⟩ := mm_cls_ok h
            split at g2
            · rename_i M hM
              simp only [Bool.and_eq_true, decide_eq_true_eq] at g2
              obtain ⟨⟨⟨⟨⟨h1, h2⟩, h3⟩, h4⟩, h5⟩, h6⟩ := g2
              exact Or.inr (Or.inr (Or.inr ⟨_, C, T, N, M, rfl, g1, hM, h1, mm_at_in h2 rfl, mm_at_in h3 rfl, mm_at_in h4 rfl, h5, mm_mlk_in h6⟩))
            · cases g2
          · cases h
  all_goals exact trivial
