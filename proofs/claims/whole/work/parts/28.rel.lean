/-! THE RELATION between class and reference: both hold one and the same row of naturals κ, laid as the reference's (59: the law in force, one more) -/
theorem va_tw {α : Type} {f : Nat → α} {k : Nat} {x y : α} : va_up (va_up f k x) k y = va_up f k y := by
  funext j
  unfold va_up
  split <;> rfl
theorem va_cm {α : Type} {f : Nat → α} {k l : Nat} {x y : α} (h : k < l) : va_up (va_up f l y) k x = va_up (va_up f k x) l y := by
  funext j
  unfold va_up
  by_cases h1 : j = k
  · rw [if_pos h1, if_neg (by omega), if_pos h1]
  · rw [if_neg h1]
    by_cases h2 : j = l
    · rw [if_pos h2, if_pos h2]
    · rw [if_neg h2, if_neg h2, if_neg h1]
/-- a row of cloths (each below 4) as a number to the base 4, as digits 1 to 4 -/
def codF (c : Nat → Nat) : Nat → Nat
  | 0 => 0
  | n + 1 => 4 * codF c n + c n
def digF (c : Nat → Nat) : Nat → Nat
  | 0 => 0
  | n + 1 => 10 * digF c n + (c n + 1)
/-- cloth k of sign j -/
def clo (κ : Nat → Nat) (j k : Nat) : Nat := κ (23 + j) / 10 ^ (κ (31 + j) - 1 - k) % 10 - 1
def spot (κ : Nat → Nat) (p : Nat) : Nat := (κ (13 + p) * 4 + κ (16 + p)) * 10 + κ (19 + p)
/-! the two languages: what a text means; a code (as the class lays it: operation times 4096 and a number) for each clause -/
abbrev pE : Type := Nat → Int
abbrev pO : Type := Nat × Nat × List Nat × (pE → Option Int)
abbrev pR : Type := Option (Nat ⊕ pO)
def p_lim (x : Int) : Option Int := if -1000000000 ≤ x ∧ x ≤ 1000000000 then some x else none
def p_arith (op : Nat) (a b : Int) : Option Int :=
  if op = 2 then p_lim (a + b) else if op = 3 then p_lim (a - b) else if op = 4 then p_lim (a * b) else if op = 5 then (if b = 0 then none else p_lim (a.tdiv b)) else if op = 6 then (if b = 0 then none else p_lim (a.tmod b))
  else if op = 7 then some (if a < b then 1 else 0) else if op = 8 then some (if b < a then 1 else 0) else some (if a = b then 1 else 0)
def p_bin (op : Nat) (e1 e2 : pE → Option Int) : pE → Option Int := fun E => (e1 E).bind fun a => (e2 E).bind fun b => p_arith op a b
/-- or (11), and (12): what stands behind is asked only if it can still matter -/
def p_sc (op : Nat) (e1 e2 : pE → Option Int) : pE → Option Int := fun E => (e1 E).bind fun a => if a = 1 ↔ op = 11 then some a else e2 E
def p_not (e : pE → Option Int) : pE → Option Int := fun E => (e E).map fun a => 1 - a
def p_word (sec : Bool) (c : Nat) : Option Nat :=
  if sec then (if c = 13 then some 5 else if c = 14 then some 8 else if c = 15 then some 0 else if c = 16 then some 1 else if c = 17 then some 2 else if c = 18 then some 3 else if c = 19 then some 4 else none)
  else (if c = 8 then some 0 else if c = 9 then some 1 else if c = 10 then some 2 else if c = 11 then some 3 else if c = 12 then some 7 else if c = 13 then some 4 else if c = 14 then some 5 else if c = 15 then some 6 else none)
def p_cmp (c : Nat) : Option Nat := if c = 160 then some 7 else if c = 162 then some 8 else if c = 161 then some 9 else none
def p_sumop (c : Nat) : Option Nat := if c = 143 then some 2 else if c = 145 then some 3 else none
def p_termop (c : Nat) : Option Nat := if c = 142 then some 4 else if c = 147 then some 5 else if c = 137 then some 6 else none
def p_then (r : pR) (f : Nat → Nat → List Nat → (pE → Option Int) → pR) : pR := match r with
  | none => none
  | some (.inl k) => some (.inl k)
  | some (.inr (i, p, C, e)) => f i p C e
/-- a step of the reader: 0 part, 1 term, 2 sum, 3 plain (t: turned), 4 both, 5 test, 6 .. 9 what goes on behind a term, a sum, a both, a test (C, e: what stands already; o: where C begins) -/
def pS (c v : Nat → Nat) (sec : Bool) (rec : Nat → Nat → Nat → Nat → Nat → Nat → List Nat → (pE → Option Int) → pR) (mode deep i p o t : Nat) (C : List Nat) (e : pE → Option Int) : pR :=
  match mode with
  | 0 => if c i = 191 then (if deep = 8 then some (.inl i) else p_then (rec 2 (deep + 1) (i + 1) p o 0 [] fun _ => none) fun j p' C' e' => if c j = 193 then some (.inr (j + 1, p', C', e')) else some (.inl j))
      else if p = 50 then some (.inl i)
      else if c i = 50 then (if v i ≤ 1000 then some (.inr (i + 1, p + 1, [v i], fun _ => some (v i : Int))) else some (.inl i))
      else match p_word sec (c i) with
        | none => some (.inl i)
        | some w => if sec = true ∧ 5 ≤ w then (if c (i + 1) = 50 ∧ v (i + 1) ≤ 2 then some (.inr (i + 2, p + 1, [4096 + (w + v (i + 1))], fun E => some (E (w + v (i + 1))))) else some (.inl (i + 1)))
          else some (.inr (i + 1, p + 1, [4096 + w], fun E => some (E w)))
  | 1 => p_then (rec 0 deep i p o 0 [] fun _ => none) fun j p' C' e' => rec 6 deep j p' o 0 C' e'
  | 2 => p_then (rec 1 deep i p o 0 [] fun _ => none) fun j p' C' e' => rec 7 deep j p' o 0 C' e'
  | 3 => if c i = 7 then rec 3 deep (i + 1) p o (1 - t) [] fun _ => none
      else if c i = 140 then (if deep = 8 then some (.inl i) else p_then (rec 5 (deep + 1) (i + 1) p o 0 [] fun _ => none) fun j p' C' e' => if c j = 141 then some (.inr (j + 1, p', if t = 1 then C' ++ [10 * 4096] else C', if t = 1 then p_not e' else e')) else some (.inl j))
      else p_then (rec 2 deep i p o 0 [] fun _ => none) fun j p' C' e' => match p_cmp (c j) with
        | none => some (.inl j)
        | some op => p_then (rec 2 deep (j + 1) p' (o + C'.length) 0 [] fun _ => none) fun j2 p2 C2 e2 => some (.inr (j2, p2, if t = 1 then C' ++ C2 ++ [op * 4096] ++ [10 * 4096] else C' ++ C2 ++ [op * 4096], if t = 1 then p_not (p_bin op e' e2) else p_bin op e' e2))
  | 4 => p_then (rec 3 deep i p o 0 [] fun _ => none) fun j p' C' e' => rec 8 deep j p' o 0 C' e'
  | 5 => p_then (rec 4 deep i p o 0 [] fun _ => none) fun j p' C' e' => rec 9 deep j p' o 0 C' e'
  | 6 => match p_termop (c i) with
      | none => some (.inr (i, p, C, e))
      | some op => p_then (rec 0 deep (i + 1) p (o + C.length) 0 [] fun _ => none) fun j p' C' e' => rec 6 deep j p' o 0 (C ++ C' ++ [op * 4096]) (p_bin op e e')
  | 7 => match p_sumop (c i) with
      | none => some (.inr (i, p, C, e))
      | some op => p_then (rec 1 deep (i + 1) p (o + C.length) 0 [] fun _ => none) fun j p' C' e' => rec 7 deep j p' o 0 (C ++ C' ++ [op * 4096]) (p_bin op e e')
  | 8 => if c i = 6 then p_then (rec 3 deep (i + 1) p (o + C.length + 1) 0 [] fun _ => none) fun j p' C' e' => rec 8 deep j p' o 0 (C ++ [12 * 4096 + (o + C.length + 1 + C'.length)] ++ C') (p_sc 12 e e')
      else some (.inr (i, p, C, e))
  | _ => if c i = 5 then p_then (rec 4 deep (i + 1) p (o + C.length + 1) 0 [] fun _ => none) fun j p' C' e' => rec 9 deep j p' o 0 (C ++ [11 * 4096 + (o + C.length + 1 + C'.length)] ++ C') (p_sc 11 e e')
      else some (.inr (i, p, C, e))
def pP (c v : Nat → Nat) (sec : Bool) : Nat → Nat → Nat → Nat → Nat → Nat → Nat → List Nat → (pE → Option Int) → pR
  | 0 => fun _ _ _ _ _ _ _ _ => none
  | n + 1 => pS c v sec (pP c v sec n)
/-- a clause: its kind, how often, its code (the sum's, the test's), what they mean -/
abbrev pC : Type := Nat × Nat × List Nat × List Nat × (pE → Option Int) × (pE → Option Int)
def p_kind (sec : Bool) (c : Nat) : Option Nat :=
  if sec then (if c = 20 then some 0 else if c = 21 then some 1 else if c = 22 then some 2 else if c = 23 then some 3 else none)
  else (if c = 1 then some 0 else if c = 2 then some 1 else if c = 3 then some 2 else none)
def p_summed (sec : Bool) (k : Nat) : Bool := if sec then (k == 0 || k == 2) else !(k == 2)
def p_test (c v : Nat → Nat) (sec : Bool) (n i p o : Nat) : pR := if c i = 4 then pP c v sec n 5 0 (i + 1) p o 0 [] (fun _ => none) else some (.inr (i, p, [], fun _ => some 1))
def p_sum0 (c v : Nat → Nat) (sec : Bool) (n k i p o : Nat) : pR := if p_summed sec k = true then pP c v sec n 2 0 i p o 0 [] (fun _ => none) else some (.inr (i, p, [], fun _ => some 1))
/-- how often: a number 1 to 20, behind "times" -/
def p_times (c v : Nat → Nat) (sec : Bool) (i : Nat) : Nat ⊕ (Nat × Nat) := if sec = true ∧ c i = 24 then (if c (i + 1) = 50 ∧ 1 ≤ v (i + 1) ∧ v (i + 1) ≤ 20 then .inr (i + 2, v (i + 1)) else .inl (i + 1)) else .inr (i, 1)
def p_clause (c v : Nat → Nat) (sec : Bool) (n i p o : Nat) : Option (Nat ⊕ (Nat × Nat × pC)) :=
  match p_kind sec (c i) with
  | none => some (.inl i)
  | some k => match p_sum0 c v sec n k (i + 1) p o with
    | none => none
    | some (.inl j) => some (.inl j)
    | some (.inr (j, p1, C1, e1)) => match p_times c v sec j with
      | .inl q => some (.inl q)
      | .inr (j2, t) => match p_test c v sec n j2 p1 (o + C1.length) with
        | none => none
        | some (.inl q) => some (.inl q)
        | some (.inr (j3, p3, C2, e2)) => some (.inr (j3, p3, k, t, C1, C2, e1, e2))
/-- a text of so many tokens: its clauses (m: how many may still come) -/
def p_text (c v : Nat → Nat) (sec : Bool) (n size : Nat) : Nat → Nat → Nat → Nat → Option (Nat ⊕ List pC)
  | 0, i, _, _ => some (.inl i)
  | m + 1, i, p, o => match p_clause c v sec n i p o with
    | none => none
    | some (.inl j) => some (.inl j)
    | some (.inr (j, p', q)) => if c j = 159 then (match p_text c v sec n size m (j + 1) p' (o + q.2.2.1.length + q.2.2.2.1.length) with
        | none => none
        | some (.inl r) => some (.inl r)
        | some (.inr qs) => some (.inr (q :: qs)))
      else if j = size then some (.inr [q]) else some (.inl j)
/-- the class's rows of a text: heads (five numbers a clause), code -/
def p_code (cs : List pC) : List Nat := cs.flatMap fun q => q.2.2.1 ++ q.2.2.2.1
def p_heads (hd : Nat → Int32) : Nat → Nat → List pC → Prop
  | _, _, [] => True
  | j, o, q :: qs => hd (5 * j) = iI (q.1 : Int) ∧ hd (5 * j + 1) = iI (q.2.1 : Int) ∧ hd (5 * j + 2) = iI (o : Int) ∧ hd (5 * j + 3) = iI ((o + q.2.2.1.length : Nat) : Int) ∧ hd (5 * j + 4) = iI ((o + q.2.2.1.length + q.2.2.2.1.length : Nat) : Int) ∧ p_heads hd (j + 1) (o + q.2.2.1.length + q.2.2.2.1.length) qs
/-- tokens of law t (6: the orders') in the row κ -/
def tkC (κ : Nat → Nat) (t k : Nat) : Nat := if k < κ (60 + t) then κ (67 + 400 * t + k) else 0
def tkV (κ : Nat → Nat) (t k : Nat) : Nat := if k < κ (60 + t) then κ (2867 + 400 * t + k) else 0
/-- law t of κ as the class's Text, at the cell o -/
def txt (tx : mm_W) (o : Option Nat) (κ : Nat → Nat) (t : Nat) : Prop := ∃ (tt tc th n : Nat) (cs : List pC) (ac ah : Nat → Int32),
  o = some (tt + 100) ∧ tx[tt]? = some (.inr (6, [.int (iI (cs.length : Int)), .int (iI ((p_code cs).length : Int)), .ref (tc + 100), .ref (th + 100)])) ∧
  tx[tc]? = some (.inl (0, (p_code cs).length, .inl ac)) ∧ tx[th]? = some (.inl (0, 5 * cs.length, .inl ah)) ∧
  κ (60 + t) ≤ 400 ∧ p_text (tkC κ t) (tkV κ t) false n (κ (60 + t)) 12 0 0 0 = some (.inr cs) ∧ p_heads ah 0 0 cs ∧ (∀ (k x : Nat), (p_code cs)[k]? = some x → ac k = iI (x : Int))
/-- the class's State (its fields and rows) is κ: signs, ships, line, done, laws, terms -/
def xS (n : Int32) (ro lo me : Nat → Int32) (κ : Nat → Nat) : Prop := n = iI (κ 55) ∧ ∀ j, j < κ 55 → ro j = iI (codF (clo κ j) (κ (31 + j))) ∧ lo j = iI (κ (31 + j)) ∧ me j = iI (κ (39 + j))
def xH (m : Int32) (sp : Nat → Int32) (κ : Nat → Nat) : Prop := m = iI (κ 56) ∧ ∀ p, p < κ 56 → sp p = iI (spot κ p)
def xL (hu cl : Int32) (κ : Nat → Nat) : Prop := hu = iI (κ 12) ∧ cl = iI (codF κ (κ 12))
def xD (dn : Int32) (dd : Nat → Int32) (κ : Nat → Nat) : Prop := dn = iI (κ 57) ∧ ∀ i, i < κ 57 → dd i = iI (κ (47 + i))
def xW (la : Int32) (lw : Nat → Option Nat) (fo : Int32) (tx : mm_W) (κ : Nat → Nat) : Prop := la = iI (κ 58) ∧ fo = iI ((κ 59 : Int) - 1) ∧ ∀ t, t < κ 58 → txt tx (lw t) κ t
def xT (te : Nat → Int32) (κ : Nat → Nat) : Prop := te 0 = iI (κ 22) ∧ te 1 = iI (κ 53) ∧ te 2 = iI (κ 54)
def xs (n : Int32) (ro lo me : Nat → Int32) (m : Int32) (sp : Nat → Int32) (hu cl dn : Int32) (dd : Nat → Int32) (la : Int32) (lw : Nat → Option Nat) (fo : Int32) (te : Nat → Int32) (tx : mm_W) (κ : Nat → Nat) : Prop :=
  xS n ro lo me κ ∧ xH m sp κ ∧ xL hu cl κ ∧ xD dn dd κ ∧ xW la lw fo tx κ ∧ xT te κ
/-- the reference's row is κ -/
def ms (K : Nat → Int32) (κ : Nat → Nat) : Prop := (∀ i, i ≠ 59 → K i = iI (κ i)) ∧ K 59 = iI ((κ 59 : Int) - 1)
/-- the ranges -/
def wS (κ : Nat → Nat) : Prop := κ 55 ≤ 8 ∧ (∀ j, j < κ 55 → 1 ≤ κ (31 + j) ∧ κ (31 + j) ≤ 4 ∧ κ (39 + j) ≤ 5 ∧ κ (23 + j) < 10 ^ κ (31 + j) ∧ ∀ k, k < κ (31 + j) → 1 ≤ κ (23 + j) / 10 ^ k % 10 ∧ κ (23 + j) / 10 ^ k % 10 ≤ 4) ∧ (∀ i j, i < κ 55 → j < κ 55 → κ (23 + i) = κ (23 + j) → i = j)
def wH (κ : Nat → Nat) : Prop := κ 56 ≤ 3 ∧ ∀ p, p < 3 → κ (13 + p) ≤ 24 ∧ κ (16 + p) ≤ 3 ∧ κ (19 + p) ≤ 9
def wL (κ : Nat → Nat) : Prop := κ 12 ≤ 12 ∧ ∀ i, i < 12 → κ i ≤ 3
def wD (κ : Nat → Nat) : Prop := κ 57 ≤ 6 ∧ ∀ i, i < 6 → κ (47 + i) ≤ 5
def wW (κ : Nat → Nat) : Prop := κ 58 ≤ 6 ∧ κ 59 ≤ κ 58
def wT (κ : Nat → Nat) : Prop := κ 22 ≤ 999 ∧ κ 53 ≤ 10 ∧ κ 54 ≤ 9
def wB (κ : Nat → Nat) : Prop := ∀ i, κ i < 2147483648
def wf (κ : Nat → Nat) : Prop := wS κ ∧ wH κ ∧ wL κ ∧ wD κ ∧ wW κ ∧ wT κ ∧ wB κ
/-! what depends on what -/
theorem codF_cg {c c' : Nat → Nat} : ∀ {n : Nat}, (∀ i, i < n → c' i = c i) → codF c' n = codF c n
  | 0, _ => rfl
  | n + 1, h => by rw [codF, codF, codF_cg (n := n) fun i hi => h i (by omega), h n (by omega)]
theorem clo_cg {κ κ' : Nat → Nat} {j : Nat} (h1 : κ' (23 + j) = κ (23 + j)) (h2 : κ' (31 + j) = κ (31 + j)) : clo κ' j = clo κ j := by
  funext k
  rw [clo, clo, h1, h2]
theorem xS.cg {n : Int32} {ro lo me : Nat → Int32} {κ κ' : Nat → Nat} (h : xS n ro lo me κ) (hn : κ 55 ≤ 8) (e : ∀ i, (23 ≤ i ∧ i < 47) ∨ i = 55 → κ' i = κ i) : xS n ro lo me κ' := by
  have e55 := e 55 (Or.inr rfl)
  refine ⟨by rw [e55]; exact h.1, fun j hj => ?_⟩
  rw [e55] at hj
  rw [clo_cg (e (23 + j) (by omega)) (e (31 + j) (by omega)), e (31 + j) (by omega), e (39 + j) (by omega)]
  exact h.2 j hj
theorem xH.cg {m : Int32} {sp : Nat → Int32} {κ κ' : Nat → Nat} (h : xH m sp κ) (hn : κ 56 ≤ 3) (e : ∀ i, (13 ≤ i ∧ i < 22) ∨ i = 56 → κ' i = κ i) : xH m sp κ' := by
  have e56 := e 56 (Or.inr rfl)
  refine ⟨by rw [e56]; exact h.1, fun p hp => ?_⟩
  rw [e56] at hp
  rw [spot, e (13 + p) (by omega), e (16 + p) (by omega), e (19 + p) (by omega)]
  exact h.2 p hp
theorem xL.cg {hu cl : Int32} {κ κ' : Nat → Nat} (h : xL hu cl κ) (hn : κ 12 ≤ 12) (e : ∀ i, i ≤ 12 → κ' i = κ i) : xL hu cl κ' := by
  have e12 := e 12 (by omega)
  refine ⟨by rw [e12]; exact h.1, ?_⟩
  rw [e12, codF_cg fun i hi => e i (by omega)]
  exact h.2
theorem xD.cg {dn : Int32} {dd : Nat → Int32} {κ κ' : Nat → Nat} (h : xD dn dd κ) (hn : κ 57 ≤ 6) (e : ∀ i, (47 ≤ i ∧ i < 53) ∨ i = 57 → κ' i = κ i) : xD dn dd κ' := by
  have e57 := e 57 (Or.inr rfl)
  refine ⟨by rw [e57]; exact h.1, fun i hi => ?_⟩
  rw [e57] at hi
  rw [e (47 + i) (by omega)]
  exact h.2 i hi
theorem txt.cg {tx : mm_W} {o : Option Nat} {κ κ' : Nat → Nat} {t : Nat} (h : txt tx o κ t) (e1 : κ' (60 + t) = κ (60 + t)) (e2 : ∀ k, k < κ (60 + t) → κ' (67 + 400 * t + k) = κ (67 + 400 * t + k) ∧ κ' (2867 + 400 * t + k) = κ (2867 + 400 * t + k)) : txt tx o κ' t := by
  have c1 : tkC κ' t = tkC κ t := by
    funext k
    rw [tkC, tkC, e1]
    split
    · rename_i hk; exact (e2 k hk).1
    · rfl
  have c2 : tkV κ' t = tkV κ t := by
    funext k
    rw [tkV, tkV, e1]
    split
    · rename_i hk; exact (e2 k hk).2
    · rfl
  obtain ⟨tt, tc, th, n, cs, ac, ah, h⟩ := h
  refine ⟨tt, tc, th, n, cs, ac, ah, ?_⟩
  rw [c1, c2, e1]
  exact h
theorem get_app {α : Type} {l l2 : List α} {i : Nat} {a : α} (h : l[i]? = some a) : (l ++ l2)[i]? = some a := by
  have : i < l.length := (List.getElem?_eq_some_iff.mp h).1
  rw [List.getElem?_append_left this]
  exact h
theorem txt.app {tx tx2 : mm_W} {o : Option Nat} {κ : Nat → Nat} {t : Nat} (h : txt tx o κ t) : txt (tx ++ tx2) o κ t := by
  obtain ⟨tt, tc, th, n, cs, ac, ah, h0, h1, h2, h3, h4⟩ := h
  exact ⟨tt, tc, th, n, cs, ac, ah, h0, get_app h1, get_app h2, get_app h3, h4⟩
theorem xW.cg {la : Int32} {lw : Nat → Option Nat} {fo : Int32} {tx : mm_W} {κ κ' : Nat → Nat} (h : xW la lw fo tx κ) (e : ∀ i, 58 ≤ i → κ' i = κ i) : xW la lw fo tx κ' := by
  refine ⟨by rw [e 58 (by omega)]; exact h.1, by rw [e 59 (by omega)]; exact h.2.1, fun t ht => ?_⟩
  rw [e 58 (by omega)] at ht
  exact (h.2.2 t ht).cg (e _ (by omega)) fun k _ => ⟨e _ (by omega), e _ (by omega)⟩
theorem xT.cg {te : Nat → Int32} {κ κ' : Nat → Nat} (h : xT te κ) (e : ∀ i, i = 22 ∨ i = 53 ∨ i = 54 → κ' i = κ i) : xT te κ' := by
  refine ⟨?_, ?_, ?_⟩
  · rw [e 22 (by omega)]; exact h.1
  · rw [e 53 (by omega)]; exact h.2.1
  · rw [e 54 (by omega)]; exact h.2.2
theorem wS.cg {κ κ' : Nat → Nat} (h : wS κ) (e : ∀ i, (23 ≤ i ∧ i < 47) ∨ i = 55 → κ' i = κ i) : wS κ' := by
  obtain ⟨h1, h2, h3⟩ := h
  have e55 := e 55 (Or.inr rfl)
  refine ⟨by rw [e55]; exact h1, fun j hj => ?_, fun i j hi hj => ?_⟩
  · rw [e55] at hj
    rw [e (31 + j) (by omega), e (39 + j) (by omega), e (23 + j) (by omega)]
    exact h2 j hj
  · rw [e55] at hi hj
    rw [e (23 + i) (by omega), e (23 + j) (by omega)]
    exact h3 i j hi hj
theorem wH.cg {κ κ' : Nat → Nat} (h : wH κ) (e : ∀ i, (13 ≤ i ∧ i < 22) ∨ i = 56 → κ' i = κ i) : wH κ' := by
  refine ⟨by rw [e 56 (by omega)]; exact h.1, fun p hp => ?_⟩
  rw [e (13 + p) (by omega), e (16 + p) (by omega), e (19 + p) (by omega)]
  exact h.2 p hp
theorem wL.cg {κ κ' : Nat → Nat} (h : wL κ) (e : ∀ i, i ≤ 12 → κ' i = κ i) : wL κ' := by
  refine ⟨by rw [e 12 (by omega)]; exact h.1, fun i hi => ?_⟩
  rw [e i (by omega)]
  exact h.2 i hi
theorem wD.cg {κ κ' : Nat → Nat} (h : wD κ) (e : ∀ i, (47 ≤ i ∧ i < 53) ∨ i = 57 → κ' i = κ i) : wD κ' := by
  refine ⟨by rw [e 57 (by omega)]; exact h.1, fun i hi => ?_⟩
  rw [e (47 + i) (by omega)]
  exact h.2 i hi
theorem wW.cg {κ κ' : Nat → Nat} (h : wW κ) (e : ∀ i, i = 58 ∨ i = 59 → κ' i = κ i) : wW κ' := ⟨by rw [e 58 (by omega)]; exact h.1, by rw [e 58 (by omega), e 59 (by omega)]; exact h.2⟩
theorem wT.cg {κ κ' : Nat → Nat} (h : wT κ) (e : ∀ i, i = 22 ∨ i = 53 ∨ i = 54 → κ' i = κ i) : wT κ' := ⟨by rw [e 22 (by omega)]; exact h.1, by rw [e 53 (by omega)]; exact h.2.1, by rw [e 54 (by omega)]; exact h.2.2⟩
theorem wB.up {κ : Nat → Nat} (h : wB κ) {i n : Nat} (hn : n < 2147483648) : wB (va_up κ i n) := by
  intro j
  by_cases e : j = i
  · subst e; rw [va_s]; exact hn
  · rw [va_ne e]; exact h j
theorem ms.up {K : Nat → Int32} {κ : Nat → Nat} (h : ms K κ) {i : Nat} (n : Nat) (hi : i ≠ 59) : ms (upd K i (iI (n : Int))) (va_up κ i n) := by
  refine ⟨fun j hj => ?_, ?_⟩
  · by_cases e : j = i
    · subst e; rw [upd_s, va_s]
    · rw [upd_ne e, va_ne e]; exact h.1 j hj
  · rw [upd_ne (by omega), va_ne (by omega)]; exact h.2
theorem ms.upF {K : Nat → Int32} {κ : Nat → Nat} (h : ms K κ) {z : Int} (n : Nat) (hz : z = (n : Int) - 1) : ms (upd K 59 (iI z)) (va_up κ 59 n) := by
  refine ⟨fun j hj => ?_, ?_⟩
  · rw [upd_ne hj, va_ne hj]; exact h.1 j hj
  · rw [upd_s, va_s, hz]
