/-! A SMALL MACHINE: what the bytecode of the claim's methods does, over a world of numbered cells; a function that can be run and reasoned about. That the real machine does the same is part 02. -/
/-- the script: its length, what it holds -/
abbrev mm_X : Type := Nat × (Nat → Int32)
/-- a cell: an array (number of its type, length, contents) or an object (number of its class, fields); .ref k is the k-th cell of the world; .float 0 is the script, .float (16 + i) the i-th text constant -/
abbrev mm_E : Type := (Nat × vp_A) ⊕ (Nat × List Value)
abbrev mm_W : Type := List mm_E
abbrev mm_L : Type := List (Option Value)
/-- an instruction: itself, two numbers and a value that its links come to, locals that are dead ahead of it, targets of a switch -/
abbrev mm_I : Type := Instr × Nat × Nat × Value × List Nat × List Nat
/-- a method: its name, its bytes, locals, what it answers, its instructions by their places -/
abbrev mm_M : Type := MethodName × ByteArray × Nat × Option FieldType × List (Nat × mm_I)
/-- what a step comes to: the next place, an end, a call -/
abbrev mm_R : Type := (Nat × mm_L × List Value × mm_W) ⊕ ((Option Value × mm_W) ⊕ (Nat × List Value × Nat × mm_L × List Value × mm_W))
def mm_nx (pc : Nat) (L : mm_L) (st : List Value) (w : mm_W) : Option mm_R := some (.inl (pc, L, st, w))
def mm_ret (v : Option Value) (w : mm_W) : Option mm_R := some (.inr (.inl (v, w)))
def mm_prv (L : mm_L) (i : Nat) : mm_L := match i with
  | 0 => L
  | j + 1 => match L[j]? with
    | some (some v) => if v.category = 2 then L.set j none else L
    | _ => L
def mm_st1 (L : mm_L) (i : Nat) (v : Value) : Option mm_L := if i < L.length then some ((mm_prv L i).set i (some v)) else none
def mm_st2 (L : mm_L) (i : Nat) (v : Value) : Option mm_L := if i + 1 < L.length then some (((mm_prv L i).set i (some v)).set (i + 1) none) else none
def mm_clr (dead : List Nat) (L : mm_L) : mm_L := match dead with
  | [] => L
  | i :: r => mm_clr r (L.set i none)
def mm_ld (L : mm_L) (i : Nat) : Option Value := match L[i]? with
  | some o => o
  | none => none
/-- a switch: the first of the targets whose number it is -/
def mm_sw (x lo : Int32) (tg : List Nat) (dflt : Nat) : Nat := match tg with
  | [] => dflt
  | t :: r => if x = lo then t else mm_sw x (lo + 1) r dflt
def mm_cat (st : List Value) : Nat := (st.map fun v => v.category).sum
/-- a field may hold a value -/
def mm_fit (kind v : Value) : Bool := match kind, v with
  | .int k, .int x => k == 0 || (x == 0 || x == 1)
  | .long _, .long _ => true
  | .null, .null => true
  | .null, .ref _ => true
  | _, _ => false
def mm_new (t : Nat) (n : Nat) : Option mm_E := match t with
  | 0 => some (.inl (0, n, .inl fun _ => 0))
  | 1 => some (.inl (1, n, .inr (.inl fun _ => 0)))
  | 2 => some (.inl (2, n, .inl fun _ => 0))
  | 3 => some (.inl (3, n, .inl fun _ => 0))
  | _ => none
def mm_rf (r : Option Nat) : Value := match r with
  | none => .null
  | some a => .ref a
def mm_if (b : Bool) (t f : Nat) (L : mm_L) (st : List Value) (w : mm_W) : Option mm_R := if b = true then mm_nx t L st w else mm_nx f L st w
/-- one step; G: the fields of a new object, by classes; rt: what the method answers -/
def mm_step (X : mm_X) (G : List (List Value)) (S : List (List Int32)) (rt : Option FieldType) (q : mm_I) (pc : Nat) (L : mm_L) (st : List Value) (w : mm_W) : Option mm_R :=
  match q with
  | (i, a, b, v, _, tg) => match i with
    | .aconst_null => mm_nx (pc + 1) L (.null :: st) w
    | .iconst _ => mm_nx (pc + 1) L (v :: st) w
    | .bipush _ => mm_nx (pc + 2) L (v :: st) w
    | .sipush _ => mm_nx (pc + 3) L (v :: st) w
    | .lconst _ => mm_nx (pc + 1) L (v :: st) w
    | .ldc _ => mm_nx (pc + 2) L (v :: st) w
    | .ldc_w _ => mm_nx (pc + 3) L (v :: st) w
    | .ldc2_w _ => mm_nx (pc + 3) L (v :: st) w
    | .iload_n _ => match mm_ld L a with
      | some (.int x) => mm_nx (pc + 1) L (.int x :: st) w
      | _ => none
    | .iload _ => match mm_ld L a with
      | some (.int x) => mm_nx (pc + 2) L (.int x :: st) w
      | _ => none
    | .lload_n _ => match mm_ld L a with
      | some (.long x) => mm_nx (pc + 1) L (.long x :: st) w
      | _ => none
    | .lload _ => match mm_ld L a with
      | some (.long x) => mm_nx (pc + 2) L (.long x :: st) w
      | _ => none
    | .aload_n _ => match mm_ld L a with
      | some (.ref x) => mm_nx (pc + 1) L (.ref x :: st) w
      | some (.float x) => mm_nx (pc + 1) L (.float x :: st) w
      | some .null => mm_nx (pc + 1) L (.null :: st) w
      | _ => none
    | .aload _ => match mm_ld L a with
      | some (.ref x) => mm_nx (pc + 2) L (.ref x :: st) w
      | some .null => mm_nx (pc + 2) L (.null :: st) w
      | _ => none
    | .istore_n _ => match st with
      | .int x :: r => match mm_st1 L a (.int x) with
        | some L' => mm_nx (pc + 1) L' r w
        | none => none
      | _ => none
    | .istore _ => match st with
      | .int x :: r => match mm_st1 L a (.int x) with
        | some L' => mm_nx (pc + 2) L' r w
        | none => none
      | _ => none
    | .lstore_n _ => match st with
      | .long x :: r => match mm_st2 L a (.long x) with
        | some L' => mm_nx (pc + 1) L' r w
        | none => none
      | _ => none
    | .lstore _ => match st with
      | .long x :: r => match mm_st2 L a (.long x) with
        | some L' => mm_nx (pc + 2) L' r w
        | none => none
      | _ => none
    | .astore_n _ => match st with
      | .ref x :: r => match mm_st1 L a (.ref x) with
        | some L' => mm_nx (pc + 1) L' r w
        | none => none
      | .null :: r => match mm_st1 L a .null with
        | some L' => mm_nx (pc + 1) L' r w
        | none => none
      | _ => none
    | .astore _ => match st with
      | .ref x :: r => match mm_st1 L a (.ref x) with
        | some L' => mm_nx (pc + 2) L' r w
        | none => none
      | .null :: r => match mm_st1 L a .null with
        | some L' => mm_nx (pc + 2) L' r w
        | none => none
      | _ => none
    | .iinc _ _ => match mm_ld L a, v with
      | some (.int x), .int y => match mm_st1 L a (.int (x + y)) with
        | some L' => mm_nx (pc + 3) L' st w
        | none => none
      | _, _ => none
    | .iadd => match st with
      | .int y :: .int x :: r => mm_nx (pc + 1) L (.int (x + y) :: r) w
      | _ => none
    | .isub => match st with
      | .int y :: .int x :: r => mm_nx (pc + 1) L (.int (x - y) :: r) w
      | _ => none
    | .imul => match st with
      | .int y :: .int x :: r => mm_nx (pc + 1) L (.int (x * y) :: r) w
      | _ => none
    | .iand => match st with
      | .int y :: .int x :: r => mm_nx (pc + 1) L (.int (x &&& y) :: r) w
      | _ => none
    | .ior => match st with
      | .int y :: .int x :: r => mm_nx (pc + 1) L (.int (x ||| y) :: r) w
      | _ => none
    | .ixor => match st with
      | .int y :: .int x :: r => mm_nx (pc + 1) L (.int (x ^^^ y) :: r) w
      | _ => none
    | .idiv => match st with
      | .int y :: .int x :: r => if y = 0 then none else mm_nx (pc + 1) L (.int (x / y) :: r) w
      | _ => none
    | .irem => match st with
      | .int y :: .int x :: r => if y = 0 then none else mm_nx (pc + 1) L (.int (x - x / y * y) :: r) w
      | _ => none
    | .ineg => match st with
      | .int x :: r => mm_nx (pc + 1) L (.int (-x) :: r) w
      | _ => none
    | .ishl => match st with
      | .int y :: .int x :: r => mm_nx (pc + 1) L (.int (x <<< (y &&& 31)) :: r) w
      | _ => none
    | .ishr => match st with
      | .int y :: .int x :: r => mm_nx (pc + 1) L (.int (x >>> (y &&& 31)) :: r) w
      | _ => none
    | .iushr => match st with
      | .int y :: .int x :: r => mm_nx (pc + 1) L (.int ((x.toUInt32 >>> (y.toUInt32 &&& Int32.toUInt32 31)).toInt32) :: r) w
      | _ => none
    | .ladd => match st with
      | .long y :: .long x :: r => mm_nx (pc + 1) L (.long (x + y) :: r) w
      | _ => none
    | .lsub => match st with
      | .long y :: .long x :: r => mm_nx (pc + 1) L (.long (x - y) :: r) w
      | _ => none
    | .lmul => match st with
      | .long y :: .long x :: r => mm_nx (pc + 1) L (.long (x * y) :: r) w
      | _ => none
    | .ldiv => match st with
      | .long y :: .long x :: r => if y = 0 then none else mm_nx (pc + 1) L (.long (x / y) :: r) w
      | _ => none
    | .lrem => match st with
      | .long y :: .long x :: r => if y = 0 then none else mm_nx (pc + 1) L (.long (x - x / y * y) :: r) w
      | _ => none
    | .lcmp => match st with
      | .long y :: .long x :: r => mm_nx (pc + 1) L (.int (lg_cmp x y) :: r) w
      | _ => none
    | .i2l => match st with
      | .int x :: r => mm_nx (pc + 1) L (.long x.toInt64 :: r) w
      | _ => none
    | .l2i => match st with
      | .long x :: r => mm_nx (pc + 1) L (.int x.toInt32 :: r) w
      | _ => none
    | .i2b => match st with
      | .int x :: r => mm_nx (pc + 1) L (.int x.toInt8.toInt32 :: r) w
      | _ => none
    | .i2c => match st with
      | .int x :: r => mm_nx (pc + 1) L (.int (x.toUInt32 % 65536).toInt32 :: r) w
      | _ => none
    | .dup => match st with
      | x :: r => if x.category = 1 then mm_nx (pc + 1) L (x :: x :: r) w else none
      | _ => none
    | .pop => match st with
      | x :: r => if x.category = 1 then mm_nx (pc + 1) L r w else none
      | _ => none
    | .dup2 => match st with
      | x :: y :: r => if x.category = 1 ∧ y.category = 1 then mm_nx (pc + 1) L (x :: y :: x :: y :: r) w else none
      | _ => none
    | .goto _ => mm_nx a L st w
    | .ifCond c _ => match st with
      | .int x :: r => match c with
        | .eq => mm_if (decide (x = 0)) a (pc + 3) L r w
        | .ne => mm_if (decide (¬ x = 0)) a (pc + 3) L r w
        | .lt => mm_if (decide (x < 0)) a (pc + 3) L r w
        | .ge => mm_if (decide (0 ≤ x)) a (pc + 3) L r w
        | .gt => mm_if (decide (0 < x)) a (pc + 3) L r w
        | .le => mm_if (decide (x ≤ 0)) a (pc + 3) L r w
      | _ => none
    | .if_icmp c _ => match st with
      | .int y :: .int x :: r => match c with
        | .eq => mm_if (decide (x = y)) a (pc + 3) L r w
        | .ne => mm_if (decide (¬ x = y)) a (pc + 3) L r w
        | .lt => mm_if (decide (x < y)) a (pc + 3) L r w
        | .ge => mm_if (decide (y ≤ x)) a (pc + 3) L r w
        | .gt => mm_if (decide (y < x)) a (pc + 3) L r w
        | .le => mm_if (decide (x ≤ y)) a (pc + 3) L r w
      | _ => none
    | .ifnonnull _ => match st with
      | .ref _ :: r => mm_nx a L r w
      | .null :: r => mm_nx (pc + 3) L r w
      | _ => none
    | .tableswitch _ _ _ _ => match st, v with
      | .int x :: r, .int lo => mm_nx (mm_sw x lo tg a) L r w
      | _, _ => none
    | .getfield _ => match st with
      | .ref k :: r => match w[k]? with
        | some (.inr (c, fs)) => if c = a then match fs[b]? with
            | some x => mm_nx (pc + 3) L (x :: r) w
            | none => none
          else none
        | _ => none
      | _ => none
    | .putfield _ => match st with
      | x :: .ref k :: r => match w[k]? with
        | some (.inr (c, fs)) => if c = a ∧ b < fs.length ∧ mm_fit v x = true then mm_nx (pc + 3) L r (w.set k (.inr (c, fs.set b x))) else none
        | _ => none
      | _ => none
    | .arraylength => match st with
      | .ref k :: r => match w[k]? with
        | some (.inl (t, n, _)) => if t < 6 then mm_nx (pc + 1) L (.int (Int32.ofNat n) :: r) w else none
        | _ => none
      | .float x :: r => if x = 0 then mm_nx (pc + 1) L (.int (Int32.ofNat X.1) :: r) w else none
      | _ => none
    | .iaload => match st with
      | .int j :: .ref k :: r => match w[k]? with
        | some (.inl (t, n, .inl f)) => if t = 0 ∧ ¬ (j < 0 ∨ n ≤ j.toNatClampNeg) then mm_nx (pc + 1) L (.int (f j.toNatClampNeg) :: r) w else none
        | _ => none
      | .int j :: .float x :: r => if x = 0 ∧ ¬ (j < 0 ∨ X.1 ≤ j.toNatClampNeg) then mm_nx (pc + 1) L (.int (X.2 j.toNatClampNeg) :: r) w else none
      | _ => none
    | .baload => match st with
      | .int j :: .ref k :: r => match w[k]? with
        | some (.inl (t, n, .inl f)) => if (t = 2 ∨ t = 3) ∧ ¬ (j < 0 ∨ n ≤ j.toNatClampNeg) then mm_nx (pc + 1) L (.int (f j.toNatClampNeg) :: r) w else none
        | _ => none
      | _ => none
    | .laload => match st with
      | .int j :: .ref k :: r => match w[k]? with
        | some (.inl (t, n, .inr (.inl f))) => if t = 1 ∧ ¬ (j < 0 ∨ n ≤ j.toNatClampNeg) then mm_nx (pc + 1) L (.long (f j.toNatClampNeg) :: r) w else none
        | _ => none
      | _ => none
    | .aaload => match st with
      | .int j :: .ref k :: r => match w[k]? with
        | some (.inl (t, n, .inr (.inr (.inr (.inr f))))) => if (t = 4 ∨ t = 5) ∧ ¬ (j < 0 ∨ n ≤ j.toNatClampNeg) then mm_nx (pc + 1) L (mm_rf (f j.toNatClampNeg) :: r) w else none
        | _ => none
      | _ => none
    | .iastore => match st with
      | .int x :: .int j :: .ref k :: r => match w[k]? with
        | some (.inl (t, n, .inl f)) => if t = 0 ∧ ¬ (j < 0 ∨ n ≤ j.toNatClampNeg) then mm_nx (pc + 1) L r (w.set k (.inl (t, n, .inl (upd f j.toNatClampNeg x)))) else none
        | _ => none
      | _ => none
    | .bastore => match st with
      | .int x :: .int j :: .ref k :: r => match w[k]? with
        | some (.inl (t, n, .inl f)) => if ¬ (j < 0 ∨ n ≤ j.toNatClampNeg) then
            (if t = 2 then mm_nx (pc + 1) L r (w.set k (.inl (t, n, .inl (upd f j.toNatClampNeg (vp_nar .byte x)))))
             else if t = 3 then mm_nx (pc + 1) L r (w.set k (.inl (t, n, .inl (upd f j.toNatClampNeg (vp_nar .boolean x))))) else none)
          else none
        | _ => none
      | _ => none
    | .lastore => match st with
      | .long x :: .int j :: .ref k :: r => match w[k]? with
        | some (.inl (t, n, .inr (.inl f))) => if t = 1 ∧ ¬ (j < 0 ∨ n ≤ j.toNatClampNeg) then mm_nx (pc + 1) L r (w.set k (.inl (t, n, .inr (.inl (vp_updL f j.toNatClampNeg x))))) else none
        | _ => none
      | _ => none
    | .aastore => match st with
      | x :: .int j :: .ref k :: r => match w[k]? with
        | some (.inl (t, n, .inr (.inr (.inr (.inr f))))) => if (t = 4 ∨ t = 5) ∧ ¬ (j < 0 ∨ n ≤ j.toNatClampNeg) then (match x with
            | .null => mm_nx (pc + 1) L r (w.set k (.inl (t, n, .inr (.inr (.inr (.inr (va_up f j.toNatClampNeg none)))))))
            | .ref o => match w[o]? with
              | some (.inr (c, _)) => if (t = 4 ∧ c = 6) ∨ (t = 5 ∧ c = 5) then mm_nx (pc + 1) L r (w.set k (.inl (t, n, .inr (.inr (.inr (.inr (va_up f j.toNatClampNeg (some o)))))))) else none
              | _ => none
            | _ => none)
          else none
        | _ => none
      | _ => none
    | .newarray _ => match st with
      | .int n :: r => if ¬ n < 0 ∧ n.toNatClampNeg ≤ 60000 then (match mm_new a n.toNatClampNeg with
          | some e => mm_nx (pc + 2) L (.ref w.length :: r) (w ++ [e])
          | none => none)
        else none
      | _ => none
    | .anewarray _ => match st with
      | .int n :: r => if ¬ n < 0 ∧ n.toNatClampNeg ≤ 60000 ∧ (a = 4 ∨ a = 5) then mm_nx (pc + 3) L (.ref w.length :: r) (w ++ [.inl (a, n.toNatClampNeg, .inr (.inr (.inr (.inr fun _ => none))))]) else none
      | _ => none
    | .new _ => match G[a]? with
      | some fs => mm_nx (pc + 3) L (.ref w.length :: st) (w ++ [.inr (a, fs)])
      | none => none
    | .checkcast _ => match st with
      | .ref k :: r => match w[k]? with
        | some (.inl (t, _)) => if t = 0 then mm_nx (pc + 3) L (.ref k :: r) w else none
        | _ => none
      | _ => none
    | .invokespecial _ => if v = .null then (match st with
        | .ref _ :: r => if mm_cat r + 12 ≤ 40 then mm_nx (pc + 3) L r w else none
        | _ => none)
      else if (st.take b).length = b then (match st.drop b with
        | .ref k :: r => if mm_cat r ≤ 8 then some (.inr (.inr (a, .ref k :: (st.take b).reverse, pc + 3, L, r, w))) else none
        | _ => none)
      else none
    | .invokestatic _ => if v = .null then (match st with
        | .int n :: .int dp :: .ref k :: .int sp :: .ref j :: r => match w[j]?, w[k]? with
          | some (.inl (t0, n0, .inl f)), some (.inl (t1, n1, .inl g)) => if t0 = 0 ∧ t1 = 0 ∧ ¬ sp < 0 ∧ ¬ dp < 0 ∧ ¬ n < 0 ∧ sp.toNatClampNeg + n.toNatClampNeg ≤ n0 ∧ dp.toNatClampNeg + n.toNatClampNeg ≤ n1 ∧ mm_cat r ≤ 8 then mm_nx (pc + 3) L r (w.set k (.inl (t1, n1, .inl (va_cpy f g sp.toNatClampNeg dp.toNatClampNeg n.toNatClampNeg)))) else none
          | _, _ => none
        | _ => none)
      else if v = .int 0 then (match st with
        | .int y :: .int x :: r => if mm_cat r ≤ 8 then mm_nx (pc + 3) L (.int (if x < y then y else x) :: r) w else none
        | _ => none)
      else if v = .int 1 then (match st with
        | .int y :: .int x :: r => if mm_cat r ≤ 8 then mm_nx (pc + 3) L (.int (if y < x then y else x) :: r) w else none
        | _ => none)
      else if v = .long 0 then (match st with
        | .long y :: .long x :: r => if mm_cat r ≤ 8 then mm_nx (pc + 3) L (.long (if y < x then x else y) :: r) w else none
        | _ => none)
      else if v = .long 1 then (match st with
        | .long y :: .long x :: r => if mm_cat r ≤ 8 then mm_nx (pc + 3) L (.long (if y < x then y else x) :: r) w else none
        | _ => none)
      else if (st.take b).length = b ∧ mm_cat (st.drop b) ≤ 8 then some (.inr (.inr (a, (st.take b).reverse, pc + 3, L, st.drop b, w))) else none
    | .invokevirtual _ => if v = .null then (match st with
        | .ref k :: r => match w[k]? with
          | some (.inl (t, n, .inl f)) => if t = 0 ∧ mm_cat r ≤ 8 then mm_nx (pc + 3) L (.ref w.length :: r) (w ++ [.inl (t, n, .inl f)]) else none
          | _ => none
        | _ => none)
      else if v = .int 0 then (match st with
        | .float x :: r => match S[x.toNat - 16]? with
          | some tx => if 16 ≤ x.toNat ∧ mm_cat r ≤ 8 then mm_nx (pc + 3) L (.int (Int32.ofNat tx.length) :: r) w else none
          | none => none
        | _ => none)
      else if v = .int 1 then (match st with
        | .int j :: .float x :: r => match S[x.toNat - 16]? with
          | some tx => if 16 ≤ x.toNat ∧ mm_cat r ≤ 8 ∧ ¬ (j < 0 ∨ tx.length ≤ j.toNatClampNeg) then mm_nx (pc + 3) L (.int (tx.getD j.toNatClampNeg 0) :: r) w else none
          | none => none
        | _ => none)
      else if (st.take b).length = b then (match st.drop b with
        | .ref k :: r => match w[k]? with
          | some (.inr (c, _)) => if v = .ref c ∧ mm_cat r ≤ 8 then some (.inr (.inr (a, .ref k :: (st.take b).reverse, pc + 3, L, r, w))) else none
          | _ => none
        | _ => none)
      else none
    | .return_ => match st with
      | [] => match rt with
        | none => mm_ret none w
        | some _ => none
      | _ => none
    | .ireturn => match st with
      | [.int x] => match rt with
        | some ty => if narrow ty (.int x) = .int x then mm_ret (some (.int x)) w else none
        | none => none
      | _ => none
    | .lreturn => match st with
      | [.long x] => if rt = some .long then mm_ret (some (.long x)) w else none
      | _ => none
    | .areturn => match st with
      | [.ref x] => match rt with
        | some (.object _) => mm_ret (some (.ref x)) w
        | some (.array _) => mm_ret (some (.ref x)) w
        | _ => none
      | [.null] => match rt with
        | some (.object _) => mm_ret (some .null) w
        | some (.array _) => mm_ret (some .null) w
        | _ => none
      | _ => none
    | _ => none
def mm_ent (vs : List Value) : mm_L := match vs with
  | [] => []
  | v :: r => if v.category = 2 then some v :: none :: mm_ent r else some v :: mm_ent r
/-- n steps at most; d: how deep calls may go -/
def mm_exec (X : mm_X) (G : List (List Value)) (S : List (List Int32)) (P : List mm_M) : Nat → Nat → Nat → Nat → mm_L → List Value → mm_W → Option (Option Value × mm_W)
  | 0, _, _, _, _, _, _ => none
  | n + 1, d, mi, pc, L, st, w => match P[mi]? with
    | none => none
    | some M => match M.2.2.2.2.lookup pc with
      | none => none
      | some q => match mm_step X G S M.2.2.2.1 q pc (mm_clr q.2.2.2.2.1 L) st w with
        | none => none
        | some (.inl (pc', L', st', w')) => mm_exec X G S P n d mi pc' L' st' w'
        | some (.inr (.inl r)) => some r
        | some (.inr (.inr (k, as, pc', L', st', w'))) => match d with
          | 0 => none
          | d' + 1 => match P[k]? with
            | none => none
            | some M' => if (mm_ent as).length ≤ M'.2.2.1 ∧ M'.2.2.1 ≤ 20 then (match mm_exec X G S P n d' k 0 (mm_ent as ++ List.replicate (M'.2.2.1 - (mm_ent as).length) none) [] w' with
              | none => none
              | some (rv, w'') => mm_exec X G S P n (d' + 1) mi pc' L' (rv.toList ++ st') w'')
              else none
