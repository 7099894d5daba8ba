/-! the class reads: what it holds, its small calls -/
def CX (g : Nat → Nat → Int32) (b : Nat → Nat) (n N : Nat) : Prop := n ≤ 400 ∧ (∀ i, b i < 256) ∧ (∀ i, i < n → g 30 i = iI (b i : Int)) ∧ N ≤ n ∧ ts b n N = n ∧ ∀ k, k < N → ts b n k < n
theorem CX.c0 {g : Nat → Nat → Int32} {b : Nat → Nat} {n N : Nat} (h : CX g b n N) : ∀ k, N ≤ k → tcK b n k = 0 := by
  intro k hk
  have := ts_end h.2.2.2.2.1 (k - N)
  rw [show N + (k - N) = k by omega] at this
  show tc b n (ts b n k) = 0
  rw [this, tc, if_pos (Nat.le_refl _)]
theorem CX.s {g : Nat → Nat → Int32} {b : Nat → Nat} {n N : Nat} (h : CX g b n N) {k : Nat} (hk : tcK b n k ≠ 0) : k < N := by
  by_cases e : N ≤ k
  · exact absurd (h.c0 k e) hk
  · omega
theorem CX.N4 {g : Nat → Nat → Int32} {b : Nat → Nat} {n N : Nat} (h : CX g b n N) : N ≤ 400 := Nat.le_trans h.2.2.2.1 h.1
theorem CX.b {g : Nat → Nat → Int32} {b : Nat → Nat} {n N : Nat} (h : CX g b n N) : ∀ i, b i < 256 := h.2.1
/-- but for what reading changes the same -/
def smx (f' f : Nat → Int32) : Prop := ∀ a, (a < 1989 ∨ 1993 < a) → a ≠ 2049 → f' a = f a
/-- .. and for the fault's place -/
def smz (f' f : Nat → Int32) : Prop := ∀ a, a ≠ 1985 → (a < 1989 ∨ 1993 < a) → a ≠ 2049 → f' a = f a
theorem smx.r (f : Nat → Int32) : smx f f := fun _ _ _ => rfl
theorem smx.u5 {f' f : Nat → Int32} (h : smx f' f) {x : Int32} : smz (va_up f' 1985 x) f := fun a h1 h2 h3 => (va_ne h1).trans (h a h2 h3)
theorem smx.u9 {f' f : Nat → Int32} (h : smx f' f) {x : Int32} : smx (va_up f' 1989 x) f := fun a h2 h3 => (va_ne (by omega)).trans (h a h2 h3)
theorem smx.uz {f' f : Nat → Int32} (h : smx f' f) {x : Int32} : smx (va_up f' 2049 x) f := fun a h2 h3 => (va_ne h3).trans (h a h2 h3)
theorem smx.st {f2 f' f : Nat → Int32} (h : smx f' f) (hs : ∀ a, a < 1990 ∨ 1993 < a → f2 a = f' a) : smx f2 f := fun a h2 h3 => (hs a (by omega)).trans (h a h2 h3)
theorem CK.u5 {f : Nat → Int32} {v : Nat → Value} {b : Nat → Nat} {n k : Nat} (h : CK f v b n k) {x : Int32} : CK (va_up f 1985 x) v b n k := h
theorem CK.u9 {f : Nat → Int32} {v : Nat → Value} {b : Nat → Nat} {n k : Nat} (h : CK f v b n k) {x : Int32} : CK (va_up f 1989 x) v b n k := h
theorem CK.uz {f : Nat → Int32} {v : Nat → Value} {b : Nat → Nat} {n k : Nat} (h : CK f v b n k) {x : Int32} : CK (va_up f 2049 x) v b n k := h
theorem CK.m {f : Nat → Int32} {v : Nat → Value} {b : Nat → Nat} {n k : Nat} (h : CK f v b n k) (hb : ∀ i, b i < 256) {w : Nat} (h1 : ¬ (97 ≤ w ∧ w ≤ 122)) (h2 : ¬ (48 ≤ w ∧ w ≤ 57)) (h3 : w < 256) : (f 1990 = iI (w : Int)) = (tcK b n k = 100 + w) := by
  rw [h.2.2.1]
  exact tM_eq hb h1 h2 h3
theorem CK.d {f : Nat → Int32} {v : Nat → Value} {b : Nat → Nat} {n k : Nat} (h : CK f v b n k) (hb : ∀ i, b i < 256) : (f 1990 = iI 48) = (tcK b n k = 50) := by
  rw [h.2.2.1]
  exact tM_D hb
theorem CK.n {f : Nat → Int32} {v : Nat → Value} {b : Nat → Nat} {n k : Nat} (h : CK f v b n k) (hd : tcK b n k = 50) : f 1993 = iI (min (tvK b n k) 1001 : Nat) := by
  rw [h.2.2.2.2.2, tN_v hd]
/-- code C stands at o -/
def cd (a : Nat → Int32) (o : Nat) (C : List Nat) : Prop := ∀ i x : Nat, C[i]? = some x → a (o + i) = iI (x : Int)
theorem cd.nil {a : Nat → Int32} {o : Nat} : cd a o [] := fun i x h => by cases h
theorem cd.mono {a a' : Nat → Int32} {o k : Nat} {C : List Nat} (h : cd a o C) (hk : o + C.length ≤ k) (he : ∀ q, q < k → a' q = a q) : cd a' o C := by
  intro i x hx
  have := (List.getElem?_eq_some_iff.mp hx).1
  rw [he _ (by omega)]
  exact h i x hx
theorem cd.app {a : Nat → Int32} {o : Nat} {C D : List Nat} (h1 : cd a o C) (h2 : cd a (o + C.length) D) : cd a o (C ++ D) := by
  intro i x hx
  by_cases c : i < C.length
  · rw [List.getElem?_append_left c] at hx
    exact h1 i x hx
  · rw [List.getElem?_append_right (by omega)] at hx
    have := h2 _ x hx
    rw [show o + C.length + (i - C.length) = o + i by omega] at this
    exact this
theorem cd.one {a : Nat → Int32} {o x : Nat} {y : Int32} (h : y = iI (x : Int)) : cd (upd a o y) o [x] := by
  intro i z hz
  match i, hz with
  | 0, hz =>
    cases hz
    exact upd_s.trans h
  | i + 1, hz => cases hz
theorem cd.snoc {a : Nat → Int32} {o k x : Nat} {C : List Nat} (h : cd a o C) (hk : k = o + C.length) : cd (upd a k (iI (x : Int))) o (C ++ [x]) := by
  subst hk
  exact (h.mono (Nat.le_refl _) fun q hq => upd_ne (by omega)).app (cd.one rfl)
theorem cx_step {X : mm_X} {d : Nat} {f : Nat → Int32} {fl : Nat → Int64} {g : Nat → Nat → Int32} {gl : Nat → Nat → Int64} {hh : Nat → Nat → Option Nat} {v : Nat → Value} {tx : mm_W} {P : Option Value → mm_W → Prop} {b : Nat → Nat} {n N k : Nat} {a : Nat → Int32} (hX : CX g b n N) (hC : CK f v b n k) (hk : k < N)
    (h : ∀ f', (∀ q, q < 1990 ∨ 1993 < q → f' q = f q) → CK f' v b n (k + 1) → P none (Wd f' fl (va_up g 34 a) gl hh v tx)) : WP X d 42 (0, [some (.ref 31), none], [], Wd f fl (va_up g 34 a) gl hh v tx) P :=
  c_stepk (g := va_up g 34 a) hX.1 hX.2.1 (by exact hX.2.2.1) hC (hX.2.2.2.2.2 k hk) h
theorem cx_fail {X : mm_X} {d : Nat} {f : Nat → Int32} {fl : Nat → Int64} {g : Nat → Nat → Int32} {gl : Nat → Nat → Int64} {hh : Nat → Nat → Option Nat} {v : Nat → Value} {tx : mm_W} {P : Option Value → mm_W → Prop} {b : Nat → Nat} {n k : Nat} {a : Nat → Int32} (hC : CK f v b n k) (h : P (some (.int 0)) (Wd (va_up f 1985 (iI (ts b n k : Int))) fl (va_up g 34 a) gl hh v tx)) : WP X d 40 (0, [some (.ref 31)], [], Wd f fl (va_up g 34 a) gl hh v tx) P := c_failk hC h
theorem cx_emit {X : mm_X} {d : Nat} {f : Nat → Int32} {fl : Nat → Int64} {g : Nat → Nat → Int32} {gl : Nat → Nat → Int64} {hh : Nat → Nat → Option Nat} {v : Nat → Value} {tx : mm_W} {P : Option Value → mm_W → Prop} {z q x : Nat} {a : Nat → Int32} (hz : z < 400) (h49 : f 2049 = iI (z : Int)) (ha : q < 16) (hx : x < 4096) (h : P none (Wd (va_up f 2049 (iI ((z + 1 : Nat) : Int))) fl (va_up g 34 (upd a z (iI ((q * 4096 + x : Nat) : Int)))) gl hh v tx)) : WP X d 41 (0, [some (.ref 31), some (.int (iI (q : Int))), some (.int (iI (x : Int)))], [], Wd f fl (va_up g 34 a) gl hh v tx) P := by
  refine c_emit hz h49 ha hx ?_
  rw [va_tw, va_s]
  exact h
theorem wdk_ok (sec : Bool) : ∀ w, w ∈ wdk sec → ∀ x, x ∈ w → x < 256 ∧ x ≠ 32 := by cases sec <;> decide
theorem wdw_ok (sec : Bool) : ∀ w, w ∈ wdw sec → ∀ x, x ∈ w → x < 256 ∧ x ≠ 32 := by cases sec <;> decide
theorem wd1_ok : ∀ c, c < 24 → ∀ w, w ∈ [wds.getD c []] → ∀ x, x ∈ w → x < 256 ∧ x ≠ 32 := by decide +kernel
theorem cx_pick {X : mm_X} {d : Nat} {f : Nat → Int32} {fl : Nat → Int64} {g : Nat → Nat → Int32} {gl : Nat → Nat → Int64} {hh : Nat → Nat → Option Nat} {v : Nat → Value} {tx : mm_W} {P : Option Value → mm_W → Prop} {b : Nat → Nat} {n N k : Nat} {a : Nat → Int32} {z0 : UInt32} {ws : List (List Nat)} (hX : CX g b n N) (hC : CK f v b n k) (eS : mk_S[z0.toNat - 16]? = some (stW ws)) (eZ : 16 ≤ z0.toNat) (hL : (stW ws).length < 1000) (hw : ∀ w, w ∈ ws → ∀ x, x ∈ w → x < 256 ∧ x ≠ 32)
    (h : P (some (.int (iI (pkV (pkR b n (ts b n k) ws))))) (Wd f fl (va_up g 34 a) gl hh v tx)) : WP X d 43 (0, [some (.ref 31), some (.float z0), none, none, none, none, none], [], Wd f fl (va_up g 34 a) gl hh v tx) P :=
  c_pickk (g := va_up g 34 a) hX.1 hX.2.1 (by exact hX.2.2.1) hC eS eZ rfl hL hw h
/-- one word alone -/
theorem cx_one {X : mm_X} {d : Nat} {f : Nat → Int32} {fl : Nat → Int64} {g : Nat → Nat → Int32} {gl : Nat → Nat → Int64} {hh : Nat → Nat → Option Nat} {v : Nat → Value} {tx : mm_W} {P : Option Value → mm_W → Prop} {b : Nat → Nat} {n N k c : Nat} {a : Nat → Int32} {z0 : UInt32} (hX : CX g b n N) (hC : CK f v b n k) (hc : c < 24) (eS : mk_S[z0.toNat - 16]? = some (stW [wds.getD c []])) (eZ : 16 ≤ z0.toNat) (hL : (stW [wds.getD c []]).length < 1000)
    (h1 : tcK b n k = c + 1 → P (some (.int 0)) (Wd f fl (va_up g 34 a) gl hh v tx)) (h0 : tcK b n k ≠ c + 1 → P (some (.int (-1))) (Wd f fl (va_up g 34 a) gl hh v tx)) : WP X d 43 (0, [some (.ref 31), some (.float z0), none, none, none, none, none], [], Wd f fl (va_up g 34 a) gl hh v tx) P := by
  refine cx_pick hX hC eS eZ hL (wd1_ok c hc) ?_
  rw [pkR_one hX.2.1 hc]
  by_cases e : tcK b n k = c + 1
  · rw [if_pos e]
    exact h1 e
  · rw [if_neg e]
    exact h0 e
/-- what a reading comes to -/
def XR (f0 : Nat → Int32) (fl : Nat → Int64) (g : Nat → Nat → Int32) (gl : Nat → Nat → Int64) (hh : Nat → Nat → Option Nat) (v : Nat → Value) (tx : mm_W) (b : Nat → Nat) (n o : Nat) (a : Nat → Int32) (P : Option Value → mm_W → Prop) (r : pR) : Prop := (∀ j p C e, r = some (.inr (j, p, C, e)) → ∀ f' a', smx f' f0 → CK f' v b n j → f' 1989 = iI (p : Int) → f' 2049 = iI ((o + C.length : Nat) : Int) → (∀ q, q < o → a' q = a q) → cd a' o C → P (some (.int 1)) (Wd f' fl (va_up g 34 a') gl hh v tx)) ∧ (∀ k, r = some (.inl k) → ∀ f' a', smz f' f0 → f' 1985 = iI (ts b n k : Int) → P (some (.int 0)) (Wd f' fl (va_up g 34 a') gl hh v tx))
theorem XR.up {f0 : Nat → Int32} {fl : Nat → Int64} {g : Nat → Nat → Int32} {gl : Nat → Nat → Int64} {hh : Nat → Nat → Option Nat} {v : Nat → Value} {tx : mm_W} {b : Nat → Nat} {n o : Nat} {a a2 : Nat → Int32} {P : Option Value → mm_W → Prop} {r : pR} (h : XR f0 fl g gl hh v tx b n o a P r) (he : ∀ q, q < o → a2 q = a q) : XR f0 fl g gl hh v tx b n o a2 P r :=
  ⟨fun j p C e h1 f' a' h2 h3 h4 h5 h6 h7 => h.1 j p C e h1 f' a' h2 h3 h4 h5 (fun q hq => (h6 q hq).trans (he q hq)) h7, h.2⟩
def XDg (X : mm_X) (fl : Nat → Int64) (g : Nat → Nat → Int32) (gl : Nat → Nat → Int64) (hh : Nat → Nat → Option Nat) (v : Nat → Value) (tx : mm_W) (mode deep t l K : Nat) (f a : Nat → Int32) (P : Option Value → mm_W → Prop) : Prop := match mode with
  | 0 => WP X (K + 1) 39 (0, [some (.ref 31), some (.int (iI (deep : Int))), none, none, none], [], Wd f fl (va_up g 34 a) gl hh v tx) P
  | 1 => WP X (K + 2) 38 (0, [some (.ref 31), some (.int 1), some (.int (iI (deep : Int))), none, none], [], Wd f fl (va_up g 34 a) gl hh v tx) P
  | 2 => WP X (K + 3) 38 (0, [some (.ref 31), some (.int 0), some (.int (iI (deep : Int))), none, none], [], Wd f fl (va_up g 34 a) gl hh v tx) P
  | 3 => WP X (K + 4) 37 (4, [some (.ref 31), some (.int (iI (deep : Int))), some (.int (iI (t : Int))), some (.int (iI (l : Int)))], [], Wd f fl (va_up g 34 a) gl hh v tx) P
  | 4 => WP X (K + 5) 36 (0, [some (.ref 31), some (.int 1), some (.int (iI (deep : Int))), none, none], [], Wd f fl (va_up g 34 a) gl hh v tx) P
  | 5 => WP X (K + 6) 36 (0, [some (.ref 31), some (.int 0), some (.int (iI (deep : Int))), none, none], [], Wd f fl (va_up g 34 a) gl hh v tx) P
  | 6 => WP X (K + 2) 38 (28, [some (.ref 31), some (.int 1), some (.int (iI (deep : Int))), some (.int (iI (l : Int))), none], [], Wd f fl (va_up g 34 a) gl hh v tx) P
  | 7 => WP X (K + 3) 38 (28, [some (.ref 31), some (.int 0), some (.int (iI (deep : Int))), some (.int (iI (l : Int))), none], [], Wd f fl (va_up g 34 a) gl hh v tx) P
  | 8 => WP X (K + 5) 36 (28, [some (.ref 31), some (.int 1), some (.int (iI (deep : Int))), some (.int (iI (l : Int))), none], [], Wd f fl (va_up g 34 a) gl hh v tx) P
  | _ => WP X (K + 6) 36 (28, [some (.ref 31), some (.int 0), some (.int (iI (deep : Int))), some (.int (iI (l : Int))), none], [], Wd f fl (va_up g 34 a) gl hh v tx) P
def XDn (X : mm_X) (f0 : Nat → Int32) (fl : Nat → Int64) (g : Nat → Nat → Int32) (gl : Nat → Nat → Int64) (hh : Nat → Nat → Option Nat) (v : Nat → Value) (tx : mm_W) (b : Nat → Nat) (n N : Nat) (sec : Bool) (m : Nat) : Prop := ∀ (mode deep i p o t l : Nat) (C : List Nat) (e : pE → Option Int) (K : Nat) (f a : Nat → Int32) (P : Option Value → mm_W → Prop), mode ≤ 9 → t ≤ 1 → deep ≤ 8 → i ≤ N → p ≤ 50 → 3 * (8 - deep) ≤ K → l ≤ i → o + C.length + t ≤ i → (mode ≤ 5 → C = []) → (6 ≤ mode → p_rg mode (e E00)) → pP (tcK b n) (tvK b n) sec m mode deep i p o t C e ≠ none → smx f f0 → CK f v b n i → f 1989 = iI (p : Int) → f 2049 = iI ((o + C.length : Nat) : Int) → cd a o C → XR f0 fl g gl hh v tx b n o a P (pP (tcK b n) (tvK b n) sec m mode deep i p o t C e) → XDg X fl g gl hh v tx mode deep t l K f a P
