
/-! what the tables must say of a program of the small machine -/
def mm_len (i : Instr) : Nat := match i with
  | .bipush _ => 2
  | .sipush _ => 3
  | .ldc _ => 2
  | .ldc_w _ => 3
  | .ldc2_w _ => 3
  | .iload _ => 2
  | .lload _ => 2
  | .aload _ => 2
  | .istore _ => 2
  | .lstore _ => 2
  | .astore _ => 2
  | .iinc _ _ => 3
  | .goto _ => 3
  | .ifCond _ _ => 3
  | .if_icmp _ _ => 3
  | .ifnonnull _ => 3
  | .getfield _ => 3
  | .putfield _ => 3
  | .newarray _ => 2
  | .anewarray _ => 3
  | .new _ => 3
  | .checkcast _ => 3
  | .invokespecial _ => 3
  | .invokestatic _ => 3
  | .invokevirtual _ => 3
  | _ => 1
def mm_np (y : MethodName) : Option Nat := (parseMethodDescriptor y.desc).map (fun d => d.parameters.length)
/-- the kind of a field and its type -/
def mm_kind (v : Value) (ty : FieldType) : Prop := (v = .int 0 ∧ ty = .int) ∨ (v = .int 1 ∧ ty = .boolean) ∨ (v = .long 0 ∧ ty = .long) ∨ (v = .null ∧ ((∃ n, ty = .object n) ∨ ∃ t, ty = .array t))
def mm_lnk (TB : List Cond) (cl : List vw_C) (tys : List FieldType) (SR : List (String × Nat × String)) (P : List mm_M) (y : MethodName) (pc : Nat) (q : mm_I) : Prop :=
  match q with
  | (i, a, b, v, _, tg) => match i with
    | .iconst n => v = .int (Int32.ofInt n)
    | .bipush n => v = .int (Int8.ofInt n).toInt32
    | .sipush n => v = .int (Int16.ofInt n).toInt32
    | .lconst n => v = .long (Int64.ofNat (n : Nat))
    | .ldc k => (∃ x, v = .int x ∧ Cond.constant y.cls k x ∈ TB) ∨ ∃ (j : Nat) (x : UInt32) (tx : String), v = .float x ∧ x.toNat = 16 + j ∧ SR[j]? = some (y.cls, k, tx)
    | .ldc_w k => ∃ x, v = .int x ∧ Cond.constant y.cls k x ∈ TB
    | .ldc2_w k => ∃ x, v = .long x ∧ Cond.constantLong y.cls k x ∈ TB
    | .iload_n k => (k : Nat) = a
    | .lload_n k => (k : Nat) = a
    | .aload_n k => (k : Nat) = a
    | .istore_n k => (k : Nat) = a
    | .lstore_n k => (k : Nat) = a
    | .astore_n k => (k : Nat) = a
    | .iload k => k = a
    | .lload k => k = a
    | .aload k => k = a
    | .istore k => k = a
    | .lstore k => k = a
    | .astore k => k = a
    | .iinc k n => k = a ∧ v = .int (Int32.ofInt n)
    | .goto o => (pc : Int) + o = (a : Int)
    | .ifCond _ o => (pc : Int) + o = (a : Int)
    | .if_icmp _ o => (pc : Int) + o = (a : Int)
    | .ifnonnull o => (pc : Int) + o = (a : Int)
    | .tableswitch dflt lo hi offs => ∃ l : Int32, v = .int l ∧ l.toInt = lo ∧ (pc : Int) + dflt = (a : Int) ∧ hi = lo + tg.length - 1 ∧ lo + tg.length < 2 ^ 31 ∧ ∀ (j t : Nat), tg[j]? = some t → ∃ o, offs[j]? = some o ∧ (pc : Int) + o = (t : Int)
    | .getfield k => ∃ C T N, cl[a]? = some (C, T, N) ∧ b < N ∧ Cond.fieldLink y.cls k (T b).1 (T b).2.1 (T b).2.2.1 ∈ TB
    | .putfield k => ∃ C T N ty, cl[a]? = some (C, T, N) ∧ b < N ∧ Cond.fieldLink y.cls k (T b).1 (T b).2.1 (T b).2.2.1 ∈ TB ∧ parseFieldDescriptor (T b).2.2.1 = some ty ∧ mm_kind v ty ∧ ((T b).2.2.2 = false ∨ ((T b).2.2.2 = true ∧ y.name = "<init>" ∧ (T b).1 = y.cls))
    | .newarray t => a < 4 ∧ tys[a]? = some (newarray.typeOf t) ∧ Cond.arrayClass (newarray.typeOf t) ∈ TB
    | .anewarray k => ∃ C, tys[a]? = some (.object C) ∧ Cond.classLink y.cls k C ∈ TB ∧ Cond.arrayOver (.object C) ∈ TB
    | .new k => ∃ C T N, cl[a]? = some (C, T, N) ∧ Cond.classLink y.cls k C ∈ TB
    | .checkcast k => Cond.classLink y.cls k "[I" ∈ TB
    | .invokespecial k => (v = .null ∧ Cond.methodLink y.cls k objectInit ∈ TB ∧ Cond.instanceMethod objectInit ∈ TB ∧ Cond.code objectInit ⟨#[0xb1]⟩ 1 none ∈ TB) ∨
        (¬ v = .null ∧ ∃ M, P[a]? = some M ∧ M.1.name = "<init>" ∧ M.2.2.2.1 = none ∧ Cond.instanceMethod M.1 ∈ TB ∧ Cond.initialized M.1.cls ∈ TB ∧ mm_np M.1 = some b ∧ (Cond.methodLink y.cls k M.1 ∈ TB ∨ ∃ host, Cond.methodLinkNest y.cls k M.1 host ∈ TB))
    | .invokestatic k => (v = .null ∧ Cond.methodLink y.cls k arraycopyName ∈ TB ∧ Cond.native arraycopyName ∈ TB ∧ Cond.static arraycopyName ∈ TB ∧ Cond.initialized "java/lang/System" ∈ TB) ∨
        (v = .int 0 ∧ Cond.methodLink y.cls k Lib.Math.max.name ∈ TB ∧ Cond.static Lib.Math.max.name ∈ TB ∧ Cond.initialized "java/lang/Math" ∈ TB ∧ Cond.code Lib.Math.max.name Lib.Math.max.code 2 (some .int) ∈ TB) ∨
        (v = .int 1 ∧ Cond.methodLink y.cls k Lib.Math.min.name ∈ TB ∧ Cond.static Lib.Math.min.name ∈ TB ∧ Cond.initialized "java/lang/Math" ∈ TB ∧ Cond.code Lib.Math.min.name Lib.Math.min.code 2 (some .int) ∈ TB) ∨
        (v = .long 0 ∧ Cond.methodLink y.cls k Lib.MathLoose.max_long.x ∈ TB ∧ Cond.static Lib.MathLoose.max_long.x ∈ TB ∧ Cond.initialized "java/lang/Math" ∈ TB ∧ Cond.code Lib.MathLoose.max_long.x Lib.MathLoose.max_long.code 4 (some .long) ∈ TB) ∨
        (v = .long 1 ∧ Cond.methodLink y.cls k Lib.MathLoose.min_long.x ∈ TB ∧ Cond.static Lib.MathLoose.min_long.x ∈ TB ∧ Cond.initialized "java/lang/Math" ∈ TB ∧ Cond.code Lib.MathLoose.min_long.x Lib.MathLoose.min_long.code 4 (some .long) ∈ TB) ∨
        (¬ v = .null ∧ ¬ v = .int 0 ∧ ¬ v = .int 1 ∧ ¬ v = .long 0 ∧ ¬ v = .long 1 ∧ ∃ M, P[a]? = some M ∧ Cond.static M.1 ∈ TB ∧ Cond.initialized M.1.cls ∈ TB ∧ mm_np M.1 = some b ∧ (Cond.methodLink y.cls k M.1 ∈ TB ∨ ∃ host, Cond.methodLinkNest y.cls k M.1 host ∈ TB))
    | .invokevirtual k => (v = .null ∧ Cond.methodLink y.cls k ⟨"[I", "clone", "()Ljava/lang/Object;"⟩ ∈ TB ∧ Cond.sameMethod "[I" "java/lang/Object" "clone" "()Ljava/lang/Object;" ∈ TB ∧ Cond.native ⟨"java/lang/Object", "clone", "()Ljava/lang/Object;"⟩ ∈ TB ∧ Cond.instanceMethod ⟨"java/lang/Object", "clone", "()Ljava/lang/Object;"⟩ ∈ TB ∧ Cond.selects "[I" ⟨"[I", "clone", "()Ljava/lang/Object;"⟩ ⟨"java/lang/Object", "clone", "()Ljava/lang/Object;"⟩ ∈ TB ∧ Cond.castable "[I" "java/lang/Cloneable" ∈ TB) ∨
        (v = .int 0 ∧ Cond.methodLink y.cls k ⟨"java/lang/String", "length", "()I"⟩ ∈ TB) ∨ (v = .int 1 ∧ Cond.methodLink y.cls k ⟨"java/lang/String", "charAt", "(I)C"⟩ ∈ TB) ∨
        (∃ (c : Nat) (C : String) (T : u_T) (N : Nat) (M : mm_M), v = .ref c ∧ cl[c]? = some (C, T, N) ∧ P[a]? = some M ∧ M.1.cls = C ∧ Cond.instanceMethod M.1 ∈ TB ∧ Cond.selects C M.1 M.1 ∈ TB ∧ Cond.initialized C ∈ TB ∧ mm_np M.1 = some b ∧ (Cond.methodLink y.cls k M.1 ∈ TB ∨ ∃ host, Cond.methodLinkNest y.cls k M.1 host ∈ TB))
    | _ => True
/-- what the tables say of the classes -/
def mm_clsOK (TB : List Cond) (cl : List vw_C) (G : List (List Value)) : Prop := ∀ (c : Nat) (q : vw_C), cl[c]? = some q →
  (∀ w ∈ u_ws q.1 q.2.1 q.2.2, w ∈ TB) ∧ (∀ a, a < q.2.2 → ∀ b, b < q.2.2 → a ≠ b → (q.2.1 a).2.1 ≠ (q.2.1 b).2.1) ∧ Cond.instantiable q.1 q.2.2 ∈ TB ∧ Cond.initialized q.1 ∈ TB ∧
  ∃ (ty : Nat → FieldType) (fs : List Value), (∀ k, k < q.2.2 → parseFieldDescriptor (q.2.1 k).2.2.1 = some (ty k)) ∧ G[c]? = some fs ∧ fs.length = q.2.2 ∧ (∀ j, j < q.2.2 → defaultValue (ty j) = vp_V fs j) ∧ ∀ v ∈ fs, v = .int 0 ∨ v = .long 0 ∨ v = .null
/-- what is known of the classes and array classes in a state -/
def mm_K (D : va_G) (cl : List vw_C) (cA : Nat → ClassId) (tys : List FieldType) (U : State) : Prop := (∀ (c : Nat) (q : vw_C), cl[c]? = some q → u_Kn U q.1 q.2.1 q.2.2 (D.1 c) (D.2 c)) ∧ ∀ (t : Nat) (ty : FieldType), tys[t]? = some ty → ArrOfT U (cA t) ty ∧ va_RA U (cA t) ty
theorem mm_K.moved {D : va_G} {cl : List vw_C} {cA : Nat → ClassId} {tys : List FieldType} {u U : State} (hvm : u.vm.Alike U.vm) (h : mm_K D cl cA tys u) : mm_K D cl cA tys U := ⟨fun c q hq => u_Kn_moved hvm (h.1 c q hq), fun k q hk => ⟨arrOfT_moved hvm (h.2 k q hk).1, (h.2 k q hk).2.moved hvm⟩⟩
theorem mm_K.va {D : va_G} {cl : List vw_C} {cA : Nat → ClassId} {tys : List FieldType} {U : State} (h : mm_K D cl cA tys U) {t : Nat} {ty : FieldType} (ht : tys[t]? = some ty) : va_K D cl [(cA t, ty)] U := by
  refine ⟨h.1, fun k q hk => ?_⟩
  have hj : k < 1 := (List.getElem?_eq_some_iff.mp hk).1
  rw [show k = 0 by omega] at hk
  cases hk
  exact h.2 t ty ht
theorem mm_K.va0 {D : va_G} {cl : List vw_C} {cA : Nat → ClassId} {tys : List FieldType} {U : State} (h : mm_K D cl cA tys U) : va_K D cl [] U := ⟨h.1, fun k q hk => by simp at hk⟩
/-- the outer things: script and text constants -/
def mm_X1 (X : mm_X) (SR : List (String × Nat × String)) (z : Nat) (E : Nat → Nat) (U : State) (H : Heap) : Prop := va_X (E 0) X.1 X.2 U H ∧ E 0 < z ∧ ∀ (j : Nat) (q : String × Nat × String), SR[j]? = some q → vk_R q.1 q.2.1 q.2.2 (E (16 + j)) U
