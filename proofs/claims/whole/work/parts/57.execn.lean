/-! .. by induction on how the text was read -/
theorem get_r {α : Type} {l l2 : List α} {i : Nat} {a : α} (h : l2[i]? = some a) : (l ++ l2)[l.length + i]? = some a := by
  rw [List.getElem?_append_right (by omega), show l.length + i - l.length = i by omega]
  exact h
def XCgA (X : mm_X) (f : Nat → Int32) (fl : Nat → Int64) (g : Nat → Nat → Int32) (gl : Nat → Nat → Int64) (hh : Nat → Nat → Option Nat) (v : Nat → Value) (tx : mm_W)  (E : pE) (mode p o : Nat) (C C' : List Nat) (e e' : pE → Option Int) : Prop := ∀ (top en : Nat) (st : Nat → Int64) (d : Nat) (P : Option Value → mm_W → Prop), top ≤ p → o + C'.length ≤ en → en ≤ 400 → en ≤ 400 → (∀ k x, C'[k]? = some x → (g 34) (o + k) = iI ((x : Nat) : Int)) →
  (∀ y st', e' E = some y → (∀ k, k < top → st' k = st k) → st' top = lI y → WP X (d + 1) 30 (47, [some (.ref 35), some (.ref 32), none, none, some (.ref 37), none, some (.int (iI ((en : Nat) : Int))), some (.int (iI ((top + 1 : Nat) : Int))), some (.int (iI ((o + C'.length : Nat) : Int))), none, none, none, none], [], Wd f fl g (va_up gl 36 st') hh v tx) P) → (∀ st' : Nat → Int64, e' E = none → P (some (.long (-4000000000000000000))) (Wd f fl g (va_up gl 36 st') hh v tx)) → match mode with
  | 6 => ∀ y, e E = some y → st top = lI y → top + 1 ≤ p → WP X (d + 1) 30 (47, [some (.ref 35), some (.ref 32), none, none, some (.ref 37), none, some (.int (iI ((en : Nat) : Int))), some (.int (iI ((top + 1 : Nat) : Int))), some (.int (iI ((o + C.length : Nat) : Int))), none, none, none, none], [], Wd f fl g (va_up gl 36 st) hh v tx) P
  | 7 => ∀ y, e E = some y → st top = lI y → top + 1 ≤ p → WP X (d + 1) 30 (47, [some (.ref 35), some (.ref 32), none, none, some (.ref 37), none, some (.int (iI ((en : Nat) : Int))), some (.int (iI ((top + 1 : Nat) : Int))), some (.int (iI ((o + C.length : Nat) : Int))), none, none, none, none], [], Wd f fl g (va_up gl 36 st) hh v tx) P
  | 8 => ∀ y, e E = some y → st top = lI y → top + 1 ≤ p → WP X (d + 1) 30 (47, [some (.ref 35), some (.ref 32), none, none, some (.ref 37), none, some (.int (iI ((en : Nat) : Int))), some (.int (iI ((top + 1 : Nat) : Int))), some (.int (iI ((o + C.length : Nat) : Int))), none, none, none, none], [], Wd f fl g (va_up gl 36 st) hh v tx) P
  | 9 => ∀ y, e E = some y → st top = lI y → top + 1 ≤ p → WP X (d + 1) 30 (47, [some (.ref 35), some (.ref 32), none, none, some (.ref 37), none, some (.int (iI ((en : Nat) : Int))), some (.int (iI ((top + 1 : Nat) : Int))), some (.int (iI ((o + C.length : Nat) : Int))), none, none, none, none], [], Wd f fl g (va_up gl 36 st) hh v tx) P
  | _ => WP X (d + 1) 30 (47, [some (.ref 35), some (.ref 32), none, none, some (.ref 37), none, some (.int (iI ((en : Nat) : Int))), some (.int (iI ((top : Nat) : Int))), some (.int (iI ((o : Nat) : Int))), none, none, none, none], [], Wd f fl g (va_up gl 36 st) hh v tx) P
def XCnA (X : mm_X) (f : Nat → Int32) (fl : Nat → Int64) (g : Nat → Nat → Int32) (gl : Nat → Nat → Int64) (hh : Nat → Nat → Option Nat) (v : Nat → Value) (tx : mm_W)  (E : pE) (c cv : Nat → Nat) (sec : Bool) (size n : Nat) : Prop := ∀ (mode deep i p o t : Nat) (C : List Nat) (e : pE → Option Int) (j p' : Nat) (C' : List Nat) (e' : pE → Option Int), pP c cv sec n mode deep i p o t C e = some (.inr (j, p', C', e')) → mode ≤ 9 → t ≤ 1 → i ≤ size → p ≤ 50 → (6 ≤ mode → p_rg mode (e E)) → XCgA X f fl g gl hh v tx  E mode p o C C' e e'
/-- turned, perhaps -/
theorem xc_turnA {X : mm_X} {d : Nat} {f : Nat → Int32} {fl : Nat → Int64} {g : Nat → Nat → Int32} {gl : Nat → Nat → Int64} {hh : Nat → Nat → Option Nat} {v : Nat → Value} {tx : mm_W} {P : Option Value → mm_W → Prop}  {en top o t : Nat} {E : pE} {st : Nat → Int64} {C1 C' : List Nat} {eb e' : pE → Option Int} (hC : C' = if t = 1 then C1 ++ [10 * 4096] else C1) (hee : e' = if t = 1 then p_not eb else eb) (ht : top ≤ 50) (hlen : o + C'.length ≤ en) (hen : en ≤ 400) (hen2 : en ≤ 400) (hcode : ∀ k x, C'[k]? = some x → (g 34) (o + k) = iI ((x : Nat) : Int))
    (hS : ∀ y st', e' E = some y → (∀ k, k < top → st' k = st k) → st' top = lI y → WP X (d + 1) 30 (47, [some (.ref 35), some (.ref 32), none, none, some (.ref 37), none, some (.int (iI ((en : Nat) : Int))), some (.int (iI ((top + 1 : Nat) : Int))), some (.int (iI ((o + C'.length : Nat) : Int))), none, none, none, none], [], Wd f fl g (va_up gl 36 st') hh v tx) P) (hN : ∀ st' : Nat → Int64, e' E = none → P (some (.long (-4000000000000000000))) (Wd f fl g (va_up gl 36 st') hh v tx))
    (run : o + C1.length ≤ en → (∀ k x, C1[k]? = some x → (g 34) (o + k) = iI ((x : Nat) : Int)) → (∀ y st', eb E = some y → (∀ k, k < top → st' k = st k) → st' top = lI y → WP X (d + 1) 30 (47, [some (.ref 35), some (.ref 32), none, none, some (.ref 37), none, some (.int (iI ((en : Nat) : Int))), some (.int (iI ((top + 1 : Nat) : Int))), some (.int (iI ((o + C1.length : Nat) : Int))), none, none, none, none], [], Wd f fl g (va_up gl 36 st') hh v tx) P) → (∀ st' : Nat → Int64, eb E = none → P (some (.long (-4000000000000000000))) (Wd f fl g (va_up gl 36 st') hh v tx)) → WP X (d + 1) 30 (47, [some (.ref 35), some (.ref 32), none, none, some (.ref 37), none, some (.int (iI ((en : Nat) : Int))), some (.int (iI ((top : Nat) : Int))), some (.int (iI ((o : Nat) : Int))), none, none, none, none], [], Wd f fl g (va_up gl 36 st) hh v tx) P) : WP X (d + 1) 30 (47, [some (.ref 35), some (.ref 32), none, none, some (.ref 37), none, some (.int (iI ((en : Nat) : Int))), some (.int (iI ((top : Nat) : Int))), some (.int (iI ((o : Nat) : Int))), none, none, none, none], [], Wd f fl g (va_up gl 36 st) hh v tx) P := by
  by_cases c : t = 1
  · rw [if_pos c] at hC hee
    subst hC hee
    have el : o + (C1 ++ [10 * 4096]).length = o + C1.length + 1 := by rw [List.length_append, List.length_singleton]; omega
    rw [el] at hlen hS
    refine run (by omega) (fun k x hk => hcode k x (get_app hk)) (fun y st' hy hst hst2 => ?_) fun st' hy => hN st' ?_
    · refine xo_notA  hen hen2 (by omega) ht (hcode (C1.length + 0) (10 * 4096) (get_r rfl)) hst2 ?_
      refine hS (1 - y) _ ?_ (fun k hk => (uL_ne (by omega)).trans (hst k hk)) uL_s
      show (eb E).map (fun a => 1 - a) = _
      rw [hy]
      rfl
    · show (eb E).map (fun a => 1 - a) = _
      rw [hy]
      rfl
  · rw [if_neg c] at hC hee
    subst hC hee
    exact run hlen hcode hS hN
theorem xc_0A {X : mm_X} {f : Nat → Int32} {fl : Nat → Int64} {g : Nat → Nat → Int32} {gl : Nat → Nat → Int64} {hh : Nat → Nat → Option Nat} {v : Nat → Value} {tx : mm_W}  {E : pE} {c cv : Nat → Nat} {size n : Nat} (hE : ∀ w, -2147483648 ≤ E w ∧ E w < 2147483648) (hW : ∀ w, w < 11 → g 37 w = iI (E w)) (ih : XCnA X f fl g gl hh v tx  E c cv true size n) (hc0 : ∀ i, size ≤ i → c i = 0) {deep i p o t : Nat} {C : List Nat} {e : pE → Option Int} {j p' : Nat} {C' : List Nat} {e' : pE → Option Int} (h : pS c cv true (pP c cv true n) 0 deep i p o t C e = some (.inr (j, p', C', e'))) (hi : i ≤ size) (hp : p ≤ 50) : XCgA X f fl g gl hh v tx  E 0 p o C C' e e' := by
  intro top en st d P htop hlen hen hen2 hcode hS hN
  show WP X (d + 1) 30 (47, [some (.ref 35), some (.ref 32), none, none, some (.ref 37), none, some (.int (iI ((en : Nat) : Int))), some (.int (iI ((top : Nat) : Int))), some (.int (iI ((o : Nat) : Int))), none, none, none, none], [], Wd f fl g (va_up gl 36 st) hh v tx) P
  have hsz : ∀ {k}, c k ≠ 0 → k < size := fun {k} hk => by
    by_cases x : size ≤ k
    · exact absurd (hc0 k x) hk
    · omega
  rcases pi0 h with ⟨c1, c2, j0, p0, C0, e0, h1, c3, hq⟩ | ⟨c1, c2, c3, hq⟩ | ⟨w, c1, c2, c3, c4, c5, c6, c7, c8, hq⟩ | ⟨w, c1, c2, c3, c4, c5, hq⟩
  · have hlt := hsz (k := i) (by omega)
    cases hq
    exact ih _ _ _ _ _ _ _ _ _ _ _ _ h1 (by omega) (by omega) (by omega) hp (fun h => by omega) top en st d P htop hlen hen hen2 hcode hS hN
  · cases hq
    have h0 : (g 34) (o + 0) = iI ((cv i : Nat) : Int) := hcode 0 (cv i) rfl
    rw [List.length_singleton] at hlen
    refine xo_pushA  (x := cv i) hen hen2 (by omega) (by omega) h0 (by omega) ?_
    exact hS _ _ rfl (fun k hk => uL_ne (by omega)) uL_s
  · cases hq
    have hw := p_word_n c4
    have h0 : (g 34) (o + 0) = iI ((4096 + (w + cv (i + 1)) : Nat) : Int) := hcode 0 _ rfl
    rw [List.length_singleton] at hlen
    refine xo_wordA  (x := 4096 + (w + cv (i + 1))) (w := w + cv (i + 1)) hE hW hen hen2 (by omega) (by omega) h0 rfl (by first | exact absurd c5 (by decide) | omega) ?_
    exact hS _ _ rfl (fun k hk => uL_ne (by omega)) uL_s
  · cases hq
    have hw := p_word_n c4
    have h0 : (g 34) (o + 0) = iI ((4096 + w : Nat) : Int) := hcode 0 _ rfl
    rw [List.length_singleton] at hlen
    refine xo_wordA  (x := 4096 + w) (w := w) hE hW hen hen2 (by omega) (by omega) h0 rfl (by first | (have := hw.2.2 rfl; omega) | omega) ?_
    exact hS _ _ rfl (fun k hk => uL_ne (by omega)) uL_s
/-- a piece, then what goes on -/
theorem xc_seqA {X : mm_X} {f : Nat → Int32} {fl : Nat → Int64} {g : Nat → Nat → Int32} {gl : Nat → Nat → Int64} {hh : Nat → Nat → Option Nat} {v : Nat → Value} {tx : mm_W}  {E : pE} {c cv : Nat → Nat} {size n : Nat} (hE : ∀ w, -2147483648 ≤ E w ∧ E w < 2147483648) (ih : XCnA X f fl g gl hh v tx  E c cv true size n) (hc0 : ∀ i, size ≤ i → c i = 0) {m1 m2 deep i p o : Nat} (hm1 : m1 ≤ 5) (hm2 : 6 ≤ m2 ∧ m2 ≤ 9) {j0 p0 : Nat} {C0 : List Nat} {e0 : pE → Option Int} {j p' : Nat} {C' : List Nat} {e' : pE → Option Int} (h1 : pP c cv true n m1 deep i p o 0 [] p_e0 = some (.inr (j0, p0, C0, e0))) (h2 : pP c cv true n m2 deep j0 p0 o 0 C0 e0 = some (.inr (j, p', C', e'))) (hrg : p_rg m1 (e0 E) → p_rg m2 (e0 E)) (hi : i ≤ size) (hp : p ≤ 50)
    (q1 : XCgA X f fl g gl hh v tx  E m1 p o [] C0 p_e0 e0 → ∀ (top en : Nat) (st : Nat → Int64) (d : Nat) (P : Option Value → mm_W → Prop), top ≤ p → o + C0.length ≤ en → en ≤ 400 → en ≤ 400 → (∀ k x, C0[k]? = some x → (g 34) (o + k) = iI ((x : Nat) : Int)) → (∀ y st', e0 E = some y → (∀ k, k < top → st' k = st k) → st' top = lI y → WP X (d + 1) 30 (47, [some (.ref 35), some (.ref 32), none, none, some (.ref 37), none, some (.int (iI ((en : Nat) : Int))), some (.int (iI ((top + 1 : Nat) : Int))), some (.int (iI ((o + C0.length : Nat) : Int))), none, none, none, none], [], Wd f fl g (va_up gl 36 st') hh v tx) P) → (∀ st' : Nat → Int64, e0 E = none → P (some (.long (-4000000000000000000))) (Wd f fl g (va_up gl 36 st') hh v tx)) → WP X (d + 1) 30 (47, [some (.ref 35), some (.ref 32), none, none, some (.ref 37), none, some (.int (iI ((en : Nat) : Int))), some (.int (iI ((top : Nat) : Int))), some (.int (iI ((o : Nat) : Int))), none, none, none, none], [], Wd f fl g (va_up gl 36 st) hh v tx) P)
    (q2 : XCgA X f fl g gl hh v tx  E m2 p0 o C0 C' e0 e' → ∀ (top en : Nat) (st : Nat → Int64) (d : Nat) (P : Option Value → mm_W → Prop), top ≤ p0 → o + C'.length ≤ en → en ≤ 400 → en ≤ 400 → (∀ k x, C'[k]? = some x → (g 34) (o + k) = iI ((x : Nat) : Int)) → (∀ y st', e' E = some y → (∀ k, k < top → st' k = st k) → st' top = lI y → WP X (d + 1) 30 (47, [some (.ref 35), some (.ref 32), none, none, some (.ref 37), none, some (.int (iI ((en : Nat) : Int))), some (.int (iI ((top + 1 : Nat) : Int))), some (.int (iI ((o + C'.length : Nat) : Int))), none, none, none, none], [], Wd f fl g (va_up gl 36 st') hh v tx) P) → (∀ st' : Nat → Int64, e' E = none → P (some (.long (-4000000000000000000))) (Wd f fl g (va_up gl 36 st') hh v tx)) → ∀ y, e0 E = some y → st top = lI y → top + 1 ≤ p0 → WP X (d + 1) 30 (47, [some (.ref 35), some (.ref 32), none, none, some (.ref 37), none, some (.int (iI ((en : Nat) : Int))), some (.int (iI ((top + 1 : Nat) : Int))), some (.int (iI ((o + C0.length : Nat) : Int))), none, none, none, none], [], Wd f fl g (va_up gl 36 st) hh v tx) P)
    (top en : Nat) (st : Nat → Int64) (d : Nat) (P : Option Value → mm_W → Prop) (htop : top ≤ p) (hlen : o + C'.length ≤ en) (hen : en ≤ 400) (hen2 : en ≤ 400) (hcode : ∀ k x, C'[k]? = some x → (g 34) (o + k) = iI ((x : Nat) : Int))
    (hS : ∀ y st', e' E = some y → (∀ k, k < top → st' k = st k) → st' top = lI y → WP X (d + 1) 30 (47, [some (.ref 35), some (.ref 32), none, none, some (.ref 37), none, some (.int (iI ((en : Nat) : Int))), some (.int (iI ((top + 1 : Nat) : Int))), some (.int (iI ((o + C'.length : Nat) : Int))), none, none, none, none], [], Wd f fl g (va_up gl 36 st') hh v tx) P) (hN : ∀ st' : Nat → Int64, e' E = none → P (some (.long (-4000000000000000000))) (Wd f fl g (va_up gl 36 st') hh v tx)) : WP X (d + 1) 30 (47, [some (.ref 35), some (.ref 32), none, none, some (.ref 37), none, some (.int (iI ((en : Nat) : Int))), some (.int (iI ((top : Nat) : Int))), some (.int (iI ((o : Nat) : Int))), none, none, none, none], [], Wd f fl g (va_up gl 36 st) hh v tx) P := by
  obtain ⟨g1, g2, g3, g4, g5, g6, g7, g8, g9, g10⟩ := p_inv hc0 hE _ _ _ _ _ _ _ _ _ _ _ _ _ h1 (by omega) (by omega) hi hp (fun h => by omega)
  obtain ⟨k1, k2, k3, k4, k5, k6, k7, k8, k9, k10⟩ := p_inv hc0 hE _ _ _ _ _ _ _ _ _ _ _ _ _ h2 (by omega) (by omega) g2 g3 (fun _ => hrg g10)
  obtain ⟨D, hD⟩ := k9 (by omega)
  have hl : C'.length = C0.length + D.length := by rw [hD, List.length_append]
  refine q1 (ih _ _ _ _ _ _ _ _ _ _ _ _ h1 (by omega) (by omega) hi hp (fun h => by omega)) top en st d P htop (by omega) hen hen2 (fun k x hk => hcode k x (by rw [hD]; exact get_app hk)) (fun y st' hy hst hst2 => ?_) fun st' he => hN st' (p_non _ _ _ _ _ _ _ _ _ _ _ _ _ h2 (by omega) (by omega) he)
  exact q2 (ih _ _ _ _ _ _ _ _ _ _ _ _ h2 (by omega) (by omega) g2 g3 (fun _ => hrg g10)) top en st' d P (by omega) hlen hen hen2 hcode (fun y2 st2 h hst3 hst4 => hS y2 st2 h (fun k hk => (hst3 k hk).trans (hst k hk)) hst4) hN y hy hst2 (by have := g5 (by omega); omega)
theorem xc_3A {X : mm_X} {f : Nat → Int32} {fl : Nat → Int64} {g : Nat → Nat → Int32} {gl : Nat → Nat → Int64} {hh : Nat → Nat → Option Nat} {v : Nat → Value} {tx : mm_W}  {E : pE} {c cv : Nat → Nat} {size n : Nat} (hE : ∀ w, -2147483648 ≤ E w ∧ E w < 2147483648) (ih : XCnA X f fl g gl hh v tx  E c cv true size n) (hc0 : ∀ i, size ≤ i → c i = 0) {deep i p o t : Nat} {C : List Nat} {e : pE → Option Int} {j p' : Nat} {C' : List Nat} {e' : pE → Option Int} (h : pS c cv true (pP c cv true n) 3 deep i p o t C e = some (.inr (j, p', C', e'))) (ht : t ≤ 1) (hi : i ≤ size) (hp : p ≤ 50) : XCgA X f fl g gl hh v tx  E 3 p o C C' e e' := by
  intro top en st d P htop hlen hen hen2 hcode hS hN
  show WP X (d + 1) 30 (47, [some (.ref 35), some (.ref 32), none, none, some (.ref 37), none, some (.int (iI ((en : Nat) : Int))), some (.int (iI ((top : Nat) : Int))), some (.int (iI ((o : Nat) : Int))), none, none, none, none], [], Wd f fl g (va_up gl 36 st) hh v tx) P
  have hsz : ∀ {k}, c k ≠ 0 → k < size := fun {k} hk => by
    by_cases x : size ≤ k
    · exact absurd (hc0 k x) hk
    · omega
  rcases pi3 h with ⟨c1, h1⟩ | ⟨c1, c2, c3, j0, p0, C0, e0, h1, c4, hq⟩ | ⟨c1, c2, j0, p0, C0, e0, op, j2, p2, C2, e2, h1, hop, h2, hq⟩
  · have hlt := hsz (k := i) (by omega)
    exact ih _ _ _ _ _ _ _ _ _ _ _ _ h1 (by omega) (by omega) (by omega) hp (fun h => by omega) top en st d P htop hlen hen hen2 hcode hS hN
  · have hlt := hsz (k := i) (by omega)
    have eC' : C' = (if t = 1 then C0 ++ [10 * 4096] else C0) := congrArg (fun q : pO => q.2.2.1) hq
    have ee : e' = (if t = 1 then p_not e0 else e0) := congrArg (fun q : pO => q.2.2.2) hq
    refine xc_turnA  eC' ee (by omega) hlen hen hen2 hcode hS hN fun hl1 hcode1 hS1 hN1 => ?_
    exact ih _ _ _ _ _ _ _ _ _ _ _ _ h1 (by omega) (by omega) (by omega) hp (fun h => by omega) top en st d P htop hl1 hen hen2 hcode1 hS1 hN1
  · have hop2 := p_cmp_v hop
    obtain ⟨g1, g2, g3, g4, g5, g6, g7, g8, g9, g10⟩ := p_inv hc0 hE _ _ _ _ _ _ _ _ _ _ _ _ _ h1 (by omega) (by omega) hi hp (fun h => by omega)
    have hlt := hsz (k := j0) (by omega)
    obtain ⟨k1, k2, k3, k4, k5, k6, k7, k8, k9, k10⟩ := p_inv hc0 hE _ _ _ _ _ _ _ _ _ _ _ _ _ h2 (by omega) (by omega) (by omega) g3 (fun h => by omega)
    have eC' : C' = (if t = 1 then (C0 ++ C2 ++ [op * 4096]) ++ [10 * 4096] else C0 ++ C2 ++ [op * 4096]) := congrArg (fun q : pO => q.2.2.1) hq
    have ee : e' = (if t = 1 then p_not (p_bin op e0 e2) else p_bin op e0 e2) := congrArg (fun q : pO => q.2.2.2) hq
    refine xc_turnA  eC' ee (by omega) hlen hen hen2 hcode hS hN fun hl1 hcode1 hS1 hN1 => ?_
    have el : o + (C0 ++ C2 ++ [op * 4096]).length = o + C0.length + C2.length + 1 := by simp only [List.length_append, List.length_singleton]; omega
    rw [el] at hl1 hS1
    have g5 := g5 (by omega)
    refine ih _ _ _ _ _ _ _ _ _ _ _ _ h1 (by omega) (by omega) hi hp (fun h => by omega) top en st d P htop (by omega) hen hen2 (fun k x hk => hcode1 k x (get_app (get_app hk))) (fun y st' hy hst hst2 => ?_) fun st' he => hN1 st' (by rw [p_bin_eq, he]; rfl)
    refine ih _ _ _ _ _ _ _ _ _ _ _ _ h2 (by omega) (by omega) (by omega) g3 (fun h => by omega) (top + 1) en st' d P (by omega) (by omega) hen hen2 (fun k x hk => by
      have := hcode1 (C0.length + k) x (get_app (get_r hk))
      rw [← Nat.add_assoc] at this
      exact this) (fun w st2 hw hst3 hst4 => ?_) fun st' he => hN1 st' (by rw [p_bin_eq, hy, he]; rfl)
    have hz : (g 34) (o + C0.length + C2.length) = iI ((op * 4096 : Nat) : Int) := by
      have := hcode1 ((C0 ++ C2).length + 0) (op * 4096) (get_r rfl)
      rw [List.length_append, Nat.add_zero, ← Nat.add_assoc] at this
      exact this
    have hyr := p_rg_num g10 y hy
    have hwr := p_rg_num k10 w hw
    have sa : st2 top = lI y := (hst3 top (by omega)).trans hst2
    refine xo_arithA  (m := top) hen hen2 (by omega) (by omega) (by omega) hz hyr hwr sa hst4 (fun r hr => ?_) fun hr => hN1 _ (by rw [p_bin_eq, hy, hw]; exact hr)
    exact hS1 r _ (by rw [p_bin_eq, hy, hw]; exact hr) (fun k hk => (uL_ne (by omega)).trans ((hst3 k (by omega)).trans (hst k hk))) uL_s
/-- a number goes on: operation by operation -/
theorem xc_numA {X : mm_X} {f : Nat → Int32} {fl : Nat → Int64} {g : Nat → Nat → Int32} {gl : Nat → Nat → Int64} {hh : Nat → Nat → Option Nat} {v : Nat → Value} {tx : mm_W}  {E : pE} {c cv : Nat → Nat} {size n : Nat} (hE : ∀ w, -2147483648 ≤ E w ∧ E w < 2147483648) (ih : XCnA X f fl g gl hh v tx  E c cv true size n) (hc0 : ∀ i, size ≤ i → c i = 0) {deep i p o op j0 p0 : Nat} {C C0 : List Nat} {e e0 : pE → Option Int} {j p' : Nat} {C' : List Nat} {e' : pE → Option Int} (hrg : p_num (e E)) (hop : 2 ≤ op ∧ op ≤ 6) (hi : i + 1 ≤ size) (hp : p ≤ 50) {m1 m2 : Nat} (hm : (m1 = 0 ∧ m2 = 6) ∨ (m1 = 1 ∧ m2 = 7))
    (h1 : pP c cv true n m1 deep (i + 1) p (o + C.length) 0 [] p_e0 = some (.inr (j0, p0, C0, e0))) (h2 : pP c cv true n m2 deep j0 p0 o 0 (C ++ C0 ++ [op * 4096]) (p_bin op e e0) = some (.inr (j, p', C', e')))
    (top en : Nat) (st : Nat → Int64) (d : Nat) (P : Option Value → mm_W → Prop) (htop : top ≤ p) (hlen : o + C'.length ≤ en) (hen : en ≤ 400) (hen2 : en ≤ 400) (hcode : ∀ k x, C'[k]? = some x → (g 34) (o + k) = iI ((x : Nat) : Int))
    (hS : ∀ y st', e' E = some y → (∀ k, k < top → st' k = st k) → st' top = lI y → WP X (d + 1) 30 (47, [some (.ref 35), some (.ref 32), none, none, some (.ref 37), none, some (.int (iI ((en : Nat) : Int))), some (.int (iI ((top + 1 : Nat) : Int))), some (.int (iI ((o + C'.length : Nat) : Int))), none, none, none, none], [], Wd f fl g (va_up gl 36 st') hh v tx) P) (hN : ∀ st' : Nat → Int64, e' E = none → P (some (.long (-4000000000000000000))) (Wd f fl g (va_up gl 36 st') hh v tx)) (y : Int) (hy : e E = some y) (hst0 : st top = lI y) (htp : top + 1 ≤ p) : WP X (d + 1) 30 (47, [some (.ref 35), some (.ref 32), none, none, some (.ref 37), none, some (.int (iI ((en : Nat) : Int))), some (.int (iI ((top + 1 : Nat) : Int))), some (.int (iI ((o + C.length : Nat) : Int))), none, none, none, none], [], Wd f fl g (va_up gl 36 st) hh v tx) P := by
  obtain ⟨g1, g2, g3, g4, g5, g6, g7, g8, g9, g10⟩ := p_inv hc0 hE _ _ _ _ _ _ _ _ _ _ _ _ _ h1 (by omega) (by omega) hi hp (fun h => by omega)
  have hrb : 6 ≤ m2 → p_rg m2 (p_bin op e e0 E) := fun _ => by
    rcases hm with ⟨_, rfl⟩ | ⟨_, rfl⟩
    · exact p_num_bin
    · exact p_num_bin
  obtain ⟨k1, k2, k3, k4, k5, k6, k7, k8, k9, k10⟩ := p_inv hc0 hE _ _ _ _ _ _ _ _ _ _ _ _ _ h2 (by omega) (by omega) g2 g3 hrb
  obtain ⟨D, hD⟩ := k9 (by omega)
  have el : o + (C ++ C0 ++ [op * 4096]).length = o + C.length + C0.length + 1 := by simp only [List.length_append, List.length_singleton]; omega
  have hl : o + C'.length = o + C.length + C0.length + 1 + D.length := by rw [hD, List.length_append, ← Nat.add_assoc, el]
  have g10 := p_rg_num g10
  have I1 := ih _ _ _ _ _ _ _ _ _ _ _ _ h1 (by omega) (by omega) hi hp (fun h => by omega)
  have I2 := ih _ _ _ _ _ _ _ _ _ _ _ _ h2 (by omega) (by omega) g2 g3 hrb
  have last : ∀ w st2, e0 E = some w → (∀ k, k < top + 1 → st2 k = st k) → st2 (top + 1) = lI w → WP X (d + 1) 30 (47, [some (.ref 35), some (.ref 32), none, none, some (.ref 37), none, some (.int (iI ((en : Nat) : Int))), some (.int (iI ((top + 2 : Nat) : Int))), some (.int (iI ((o + C.length + C0.length : Nat) : Int))), none, none, none, none], [], Wd f fl g (va_up gl 36 st2) hh v tx) P := by
    intro w st2 hw hst3 hst4
    have hz : (g 34) (o + C.length + C0.length) = iI ((op * 4096 : Nat) : Int) := by
      have := hcode ((C ++ C0).length + 0) (op * 4096) (by rw [hD]; exact get_app (get_r rfl))
      rw [List.length_append, Nat.add_zero, ← Nat.add_assoc] at this
      exact this
    have sa : st2 top = lI y := (hst3 top (by omega)).trans hst0
    refine xo_arithA  (m := top) hen hen2 (by omega) (by omega) (by omega) hz (hrg y hy) (g10 w hw) sa hst4 (fun r hr => ?_) fun hr => hN _ (p_non _ _ _ _ _ _ _ _ _ _ _ _ _ h2 (by omega) (by omega) (by rw [p_bin_eq, hy, hw]; exact hr))
    have hb : p_bin op e e0 E = some r := by rw [p_bin_eq, hy, hw]; exact hr
    have hS' : ∀ y2 st', e' E = some y2 → (∀ k, k < top → st' k = vp_updL st2 top (lI r) k) → st' top = lI y2 → WP X (d + 1) 30 (47, [some (.ref 35), some (.ref 32), none, none, some (.ref 37), none, some (.int (iI ((en : Nat) : Int))), some (.int (iI ((top + 1 : Nat) : Int))), some (.int (iI ((o + C'.length : Nat) : Int))), none, none, none, none], [], Wd f fl g (va_up gl 36 st') hh v tx) P := fun y2 st' q1 q2 q3 => hS y2 st' q1 (fun k hk => (q2 k hk).trans ((uL_ne (by omega)).trans (hst3 k (by omega)))) q3
    rw [← el]
    rcases hm with ⟨rfl, rfl⟩ | ⟨rfl, rfl⟩
    · exact I2 top en _ d P (by omega) hlen hen hen2 hcode hS' hN r hb uL_s (by have := g5 (by omega); omega)
    · exact I2 top en _ d P (by omega) hlen hen hen2 hcode hS' hN r hb uL_s (by have := g5 (by omega); omega)
  have hcode0 : ∀ k x, C0[k]? = some x → (g 34) (o + C.length + k) = iI ((x : Nat) : Int) := fun k x hk => by
    have := hcode (C.length + k) x (by rw [hD]; exact get_app (get_app (get_r hk)))
    rw [← Nat.add_assoc] at this
    exact this
  have hN0 : ∀ st' : Nat → Int64, e0 E = none → P (some (.long (-4000000000000000000))) (Wd f fl g (va_up gl 36 st') hh v tx) := fun st' he => hN st' (p_non _ _ _ _ _ _ _ _ _ _ _ _ _ h2 (by omega) (by omega) (by rw [p_bin_eq, hy, he]; rfl))
  rcases hm with ⟨rfl, rfl⟩ | ⟨rfl, rfl⟩
  · exact I1 (top + 1) en st d P htp (by omega) hen hen2 hcode0 last hN0
  · exact I1 (top + 1) en st d P htp (by omega) hen hen2 hcode0 last hN0
/-- a test goes on: what stands behind is left out, perhaps -/
theorem xc_tstA {X : mm_X} {f : Nat → Int32} {fl : Nat → Int64} {g : Nat → Nat → Int32} {gl : Nat → Nat → Int64} {hh : Nat → Nat → Option Nat} {v : Nat → Value} {tx : mm_W}  {E : pE} {c cv : Nat → Nat} {size n : Nat} (hE : ∀ w, -2147483648 ≤ E w ∧ E w < 2147483648) (ih : XCnA X f fl g gl hh v tx  E c cv true size n) (hc0 : ∀ i, size ≤ i → c i = 0) {deep i p o op j0 p0 : Nat} {C C0 : List Nat} {e e0 : pE → Option Int} {j p' : Nat} {C' : List Nat} {e' : pE → Option Int} (hrg : p_tst (e E)) (hi : i + 1 ≤ size) (hp : p ≤ 50) {m1 m2 : Nat} (hm : (m1 = 3 ∧ m2 = 8 ∧ op = 12) ∨ (m1 = 4 ∧ m2 = 9 ∧ op = 11))
    (h1 : pP c cv true n m1 deep (i + 1) p (o + C.length + 1) 0 [] p_e0 = some (.inr (j0, p0, C0, e0))) (h2 : pP c cv true n m2 deep j0 p0 o 0 (C ++ [op * 4096 + (o + C.length + 1 + C0.length)] ++ C0) (p_sc op e e0) = some (.inr (j, p', C', e')))
    (top en : Nat) (st : Nat → Int64) (d : Nat) (P : Option Value → mm_W → Prop) (htop : top ≤ p) (hlen : o + C'.length ≤ en) (hen : en ≤ 400) (hen2 : en ≤ 400) (hcode : ∀ k x, C'[k]? = some x → (g 34) (o + k) = iI ((x : Nat) : Int))
    (hS : ∀ y st', e' E = some y → (∀ k, k < top → st' k = st k) → st' top = lI y → WP X (d + 1) 30 (47, [some (.ref 35), some (.ref 32), none, none, some (.ref 37), none, some (.int (iI ((en : Nat) : Int))), some (.int (iI ((top + 1 : Nat) : Int))), some (.int (iI ((o + C'.length : Nat) : Int))), none, none, none, none], [], Wd f fl g (va_up gl 36 st') hh v tx) P) (hN : ∀ st' : Nat → Int64, e' E = none → P (some (.long (-4000000000000000000))) (Wd f fl g (va_up gl 36 st') hh v tx)) (y : Int) (hy : e E = some y) (hst0 : st top = lI y) (htp : top + 1 ≤ p) : WP X (d + 1) 30 (47, [some (.ref 35), some (.ref 32), none, none, some (.ref 37), none, some (.int (iI ((en : Nat) : Int))), some (.int (iI ((top + 1 : Nat) : Int))), some (.int (iI ((o + C.length : Nat) : Int))), none, none, none, none], [], Wd f fl g (va_up gl 36 st) hh v tx) P := by
  obtain ⟨g1, g2, g3, g4, g5, g6, g7, g8, g9, g10⟩ := p_inv hc0 hE _ _ _ _ _ _ _ _ _ _ _ _ _ h1 (by omega) (by omega) hi hp (fun h => by omega)
  have g10 : p_tst (e0 E) := by
    rcases hm with ⟨rfl, _, _⟩ | ⟨rfl, _, _⟩
    · exact g10
    · exact g10
  have hrb : 6 ≤ m2 → p_rg m2 (p_sc op e e0 E) := fun _ => by
    rcases hm with ⟨_, rfl, _⟩ | ⟨_, rfl, _⟩
    · exact p_tst_sc hrg g10
    · exact p_tst_sc hrg g10
  obtain ⟨k1, k2, k3, k4, k5, k6, k7, k8, k9, k10⟩ := p_inv hc0 hE _ _ _ _ _ _ _ _ _ _ _ _ _ h2 (by omega) (by omega) g2 g3 hrb
  obtain ⟨D, hD⟩ := k9 (by omega)
  obtain ⟨num, hnum⟩ : ∃ num, num = o + C.length + 1 + C0.length := ⟨_, rfl⟩
  rw [← hnum] at h2 hD
  have el : o + (C ++ [op * 4096 + num] ++ C0).length = num := by simp only [List.length_append, List.length_singleton]; omega
  have hl : o + C'.length = num + D.length := by rw [hD, List.length_append, ← Nat.add_assoc, el]
  have I1 := ih _ _ _ _ _ _ _ _ _ _ _ _ h1 (by omega) (by omega) hi hp (fun h => by omega)
  have I2 := ih _ _ _ _ _ _ _ _ _ _ _ _ h2 (by omega) (by omega) g2 g3 hrb
  have hz : (g 34) (o + C.length) = iI ((op * 4096 + num : Nat) : Int) := hcode (C.length + 0) (op * 4096 + num) (by rw [hD]; exact get_app (get_app (get_r rfl)))
  have hy2 := hrg y hy
  have esc : p_sc op e e0 E = (if y = 1 ↔ op = 11 then some y else e0 E) := by
    show (e E).bind _ = _
    rw [hy]
    rfl
  have rest : ∀ w st2, p_sc op e e0 E = some w → (∀ k, k < top → st2 k = st k) → st2 top = lI w → WP X (d + 1) 30 (47, [some (.ref 35), some (.ref 32), none, none, some (.ref 37), none, some (.int (iI ((en : Nat) : Int))), some (.int (iI ((top + 1 : Nat) : Int))), some (.int (iI ((num : Nat) : Int))), none, none, none, none], [], Wd f fl g (va_up gl 36 st2) hh v tx) P := by
    intro w st2 hw hst3 hst4
    have hS' : ∀ y2 st', e' E = some y2 → (∀ k, k < top → st' k = st2 k) → st' top = lI y2 → WP X (d + 1) 30 (47, [some (.ref 35), some (.ref 32), none, none, some (.ref 37), none, some (.int (iI ((en : Nat) : Int))), some (.int (iI ((top + 1 : Nat) : Int))), some (.int (iI ((o + C'.length : Nat) : Int))), none, none, none, none], [], Wd f fl g (va_up gl 36 st') hh v tx) P := fun y2 st' q1 q2 q3 => hS y2 st' q1 (fun k hk => (q2 k hk).trans (hst3 k hk)) q3
    have := g5 (by omega)
    rcases hm with ⟨rfl, rfl, rfl⟩ | ⟨rfl, rfl, rfl⟩
    · have q := I2 top en st2 d P (by omega) hlen hen hen2 hcode hS' hN w hw hst4 (by omega)
      rw [el] at q
      exact q
    · have q := I2 top en st2 d P (by omega) hlen hen hen2 hcode hS' hN w hw hst4 (by omega)
      rw [el] at q
      exact q
  refine xo_jumpA  (m := top) (op := op) (num := num) hen hen2 (by omega) (by omega) (by omega) (by omega) (by omega) hz (by omega) hst0 (fun hdc => rest y st (by rw [esc, if_pos hdc]) (fun _ _ => rfl) hst0) fun hdc => ?_
  rw [if_neg hdc] at esc
  have hcode0 : ∀ k x, C0[k]? = some x → (g 34) (o + C.length + 1 + k) = iI ((x : Nat) : Int) := fun k x hk => by
    have := hcode ((C ++ [op * 4096 + num]).length + k) x (by rw [hD]; exact get_app (get_r hk))
    rw [List.length_append, List.length_singleton, ← Nat.add_assoc, ← Nat.add_assoc] at this
    exact this
  have hS0 : ∀ w st', e0 E = some w → (∀ k, k < top → st' k = st k) → st' top = lI w → WP X (d + 1) 30 (47, [some (.ref 35), some (.ref 32), none, none, some (.ref 37), none, some (.int (iI ((en : Nat) : Int))), some (.int (iI ((top + 1 : Nat) : Int))), some (.int (iI ((o + C.length + 1 + C0.length : Nat) : Int))), none, none, none, none], [], Wd f fl g (va_up gl 36 st') hh v tx) P := fun w st' q1 q2 q3 => by
    rw [← hnum]
    exact rest w st' (by rw [esc]; exact q1) q2 q3
  have hN0 : ∀ st' : Nat → Int64, e0 E = none → P (some (.long (-4000000000000000000))) (Wd f fl g (va_up gl 36 st') hh v tx) := fun st' he => hN st' (p_non _ _ _ _ _ _ _ _ _ _ _ _ _ h2 (by omega) (by omega) (by rw [esc]; exact he))
  rcases hm with ⟨rfl, rfl, rfl⟩ | ⟨rfl, rfl, rfl⟩
  · exact I1 top en st d P htop (by omega) hen hen2 hcode0 hS0 hN0
  · exact I1 top en st d P htop (by omega) hen hen2 hcode0 hS0 hN0
theorem xc_allA {X : mm_X} {f : Nat → Int32} {fl : Nat → Int64} {g : Nat → Nat → Int32} {gl : Nat → Nat → Int64} {hh : Nat → Nat → Option Nat} {v : Nat → Value} {tx : mm_W}  {E : pE} {c cv : Nat → Nat} {size : Nat} (hE : ∀ w, -2147483648 ≤ E w ∧ E w < 2147483648) (hW : ∀ w, w < 11 → g 37 w = iI (E w)) (hc0 : ∀ i, size ≤ i → c i = 0) : ∀ n, XCnA X f fl g gl hh v tx  E c cv true size n := by
  intro n
  induction n with
  | zero => intro mode deep i p o t C e j p' C' e' h; cases h
  | succ n ih =>
    intro mode deep i p o t C e j p' C' e' h hmd ht hi hp he
    have h : pS c cv true (pP c cv true n) mode deep i p o t C e = some (.inr (j, p', C', e')) := h
    have hsz : ∀ {k}, c k ≠ 0 → k < size := fun {k} hk => by
      by_cases x : size ≤ k
      · exact absurd (hc0 k x) hk
      · omega
    have hmm : mode = 0 ∨ mode = 1 ∨ mode = 2 ∨ mode = 3 ∨ mode = 4 ∨ mode = 5 ∨ mode = 6 ∨ mode = 7 ∨ mode = 8 ∨ mode = 9 := by omega
    rcases hmm with rfl | rfl | rfl | rfl | rfl | rfl | rfl | rfl | rfl | rfl
    · exact xc_0A  hE hW ih hc0 h hi hp
    · obtain ⟨j0, p0, C0, e0, h1, h2⟩ := pi1 h
      exact xc_seqA hE ih hc0 (by omega) (by omega) h1 h2 (fun h => h) hi hp (fun q => q) fun q => q
    · obtain ⟨j0, p0, C0, e0, h1, h2⟩ := pi2 h
      exact xc_seqA hE ih hc0 (by omega) (by omega) h1 h2 (fun h => h) hi hp (fun q => q) fun q => q
    · exact xc_3A  hE ih hc0 h ht hi hp
    · obtain ⟨j0, p0, C0, e0, h1, h2⟩ := pi4 h
      exact xc_seqA hE ih hc0 (by omega) (by omega) h1 h2 (fun h => h) hi hp (fun q => q) fun q => q
    · obtain ⟨j0, p0, C0, e0, h1, h2⟩ := pi5 h
      exact xc_seqA hE ih hc0 (by omega) (by omega) h1 h2 (fun h => h) hi hp (fun q => q) fun q => q
    · rcases pi6 h with ⟨c1, hq⟩ | ⟨op, j0, p0, C0, e0, hop, h1, h2⟩
      · cases hq
        intro top en st d P htop hlen hen hen2 hcode hS hN y hy hst htp
        exact hS y st hy (fun _ _ => rfl) hst
      · have hop2 := p_termop_v hop
        have hlt := hsz (k := i) (by omega)
        exact xc_numA  hE ih hc0 (he (by omega)) (by omega) (by omega) hp (Or.inl ⟨rfl, rfl⟩) h1 h2
    · rcases pi7 h with ⟨c1, hq⟩ | ⟨op, j0, p0, C0, e0, hop, h1, h2⟩
      · cases hq
        intro top en st d P htop hlen hen hen2 hcode hS hN y hy hst htp
        exact hS y st hy (fun _ _ => rfl) hst
      · have hop2 := p_sumop_v hop
        have hlt := hsz (k := i) (by omega)
        exact xc_numA  hE ih hc0 (he (by omega)) (by omega) (by omega) hp (Or.inr ⟨rfl, rfl⟩) h1 h2
    · rcases pi8 h with ⟨c1, hq⟩ | ⟨j0, p0, C0, e0, hop, h1, h2⟩
      · cases hq
        intro top en st d P htop hlen hen hen2 hcode hS hN y hy hst htp
        exact hS y st hy (fun _ _ => rfl) hst
      · have hlt := hsz (k := i) (by omega)
        exact xc_tstA  hE ih hc0 (he (by omega)) (by omega) hp (Or.inl ⟨rfl, rfl, rfl⟩) h1 h2
    · rcases pi9 h with ⟨c1, hq⟩ | ⟨j0, p0, C0, e0, hop, h1, h2⟩
      · cases hq
        intro top en st d P htop hlen hen hen2 hcode hS hN y hy hst htp
        exact hS y st hy (fun _ _ => rfl) hst
      · have hlt := hsz (k := i) (by omega)
        exact xc_tstA  hE ih hc0 (he (by omega)) (by omega) hp (Or.inr ⟨rfl, rfl, rfl⟩) h1 h2
def XCgL (X : mm_X) (f : Nat → Int32) (fl : Nat → Int64) (g : Nat → Nat → Int32) (gl : Nat → Nat → Int64) (hh : Nat → Nat → Option Nat) (v : Nat → Value) (tx : mm_W) (tt kc : Nat) (ac : Nat → Int32) (E : pE) (mode p o : Nat) (C C' : List Nat) (e e' : pE → Option Int) : Prop := ∀ (top en : Nat) (st : Nat → Int64) (d : Nat) (P : Option Value → mm_W → Prop), top ≤ p → o + C'.length ≤ en → en ≤ kc → en ≤ 400 → (∀ k x, C'[k]? = some x → ac (o + k) = iI ((x : Nat) : Int)) →
  (∀ y st', e' E = some y → (∀ k, k < top → st' k = st k) → st' top = lI y → WP X (d + 1) 30 (47, [some (.ref 39), some (.ref (tt + 100)), none, none, some (.ref 41), none, some (.int (iI ((en : Nat) : Int))), some (.int (iI ((top + 1 : Nat) : Int))), some (.int (iI ((o + C'.length : Nat) : Int))), none, none, none, none], [], Wd f fl g (va_up gl 40 st') hh v tx) P) → (∀ st' : Nat → Int64, e' E = none → P (some (.long (-4000000000000000000))) (Wd f fl g (va_up gl 40 st') hh v tx)) → match mode with
  | 6 => ∀ y, e E = some y → st top = lI y → top + 1 ≤ p → WP X (d + 1) 30 (47, [some (.ref 39), some (.ref (tt + 100)), none, none, some (.ref 41), none, some (.int (iI ((en : Nat) : Int))), some (.int (iI ((top + 1 : Nat) : Int))), some (.int (iI ((o + C.length : Nat) : Int))), none, none, none, none], [], Wd f fl g (va_up gl 40 st) hh v tx) P
  | 7 => ∀ y, e E = some y → st top = lI y → top + 1 ≤ p → WP X (d + 1) 30 (47, [some (.ref 39), some (.ref (tt + 100)), none, none, some (.ref 41), none, some (.int (iI ((en : Nat) : Int))), some (.int (iI ((top + 1 : Nat) : Int))), some (.int (iI ((o + C.length : Nat) : Int))), none, none, none, none], [], Wd f fl g (va_up gl 40 st) hh v tx) P
  | 8 => ∀ y, e E = some y → st top = lI y → top + 1 ≤ p → WP X (d + 1) 30 (47, [some (.ref 39), some (.ref (tt + 100)), none, none, some (.ref 41), none, some (.int (iI ((en : Nat) : Int))), some (.int (iI ((top + 1 : Nat) : Int))), some (.int (iI ((o + C.length : Nat) : Int))), none, none, none, none], [], Wd f fl g (va_up gl 40 st) hh v tx) P
  | 9 => ∀ y, e E = some y → st top = lI y → top + 1 ≤ p → WP X (d + 1) 30 (47, [some (.ref 39), some (.ref (tt + 100)), none, none, some (.ref 41), none, some (.int (iI ((en : Nat) : Int))), some (.int (iI ((top + 1 : Nat) : Int))), some (.int (iI ((o + C.length : Nat) : Int))), none, none, none, none], [], Wd f fl g (va_up gl 40 st) hh v tx) P
  | _ => WP X (d + 1) 30 (47, [some (.ref 39), some (.ref (tt + 100)), none, none, some (.ref 41), none, some (.int (iI ((en : Nat) : Int))), some (.int (iI ((top : Nat) : Int))), some (.int (iI ((o : Nat) : Int))), none, none, none, none], [], Wd f fl g (va_up gl 40 st) hh v tx) P
def XCnL (X : mm_X) (f : Nat → Int32) (fl : Nat → Int64) (g : Nat → Nat → Int32) (gl : Nat → Nat → Int64) (hh : Nat → Nat → Option Nat) (v : Nat → Value) (tx : mm_W) (tt kc : Nat) (ac : Nat → Int32) (E : pE) (c cv : Nat → Nat) (sec : Bool) (size n : Nat) : Prop := ∀ (mode deep i p o t : Nat) (C : List Nat) (e : pE → Option Int) (j p' : Nat) (C' : List Nat) (e' : pE → Option Int), pP c cv sec n mode deep i p o t C e = some (.inr (j, p', C', e')) → mode ≤ 9 → t ≤ 1 → i ≤ size → p ≤ 50 → (6 ≤ mode → p_rg mode (e E)) → XCgL X f fl g gl hh v tx tt kc ac E mode p o C C' e e'
/-- turned, perhaps -/
theorem xc_turnL {X : mm_X} {d : Nat} {f : Nat → Int32} {fl : Nat → Int64} {g : Nat → Nat → Int32} {gl : Nat → Nat → Int64} {hh : Nat → Nat → Option Nat} {v : Nat → Value} {tx : mm_W} {P : Option Value → mm_W → Prop} {tt tc th kc : Nat} {nc nz : Int32} {ac : Nat → Int32} (eT : tx[tt]? = some (.inr (6, [.int nc, .int nz, .ref (tc + 100), .ref (th + 100)]))) (eC : tx[tc]? = some (.inl (0, kc, .inl ac))) {en top o t : Nat} {E : pE} {st : Nat → Int64} {C1 C' : List Nat} {eb e' : pE → Option Int} (hC : C' = if t = 1 then C1 ++ [10 * 4096] else C1) (hee : e' = if t = 1 then p_not eb else eb) (ht : top ≤ 50) (hlen : o + C'.length ≤ en) (hen : en ≤ kc) (hen2 : en ≤ 400) (hcode : ∀ k x, C'[k]? = some x → ac (o + k) = iI ((x : Nat) : Int))
    (hS : ∀ y st', e' E = some y → (∀ k, k < top → st' k = st k) → st' top = lI y → WP X (d + 1) 30 (47, [some (.ref 39), some (.ref (tt + 100)), none, none, some (.ref 41), none, some (.int (iI ((en : Nat) : Int))), some (.int (iI ((top + 1 : Nat) : Int))), some (.int (iI ((o + C'.length : Nat) : Int))), none, none, none, none], [], Wd f fl g (va_up gl 40 st') hh v tx) P) (hN : ∀ st' : Nat → Int64, e' E = none → P (some (.long (-4000000000000000000))) (Wd f fl g (va_up gl 40 st') hh v tx))
    (run : o + C1.length ≤ en → (∀ k x, C1[k]? = some x → ac (o + k) = iI ((x : Nat) : Int)) → (∀ y st', eb E = some y → (∀ k, k < top → st' k = st k) → st' top = lI y → WP X (d + 1) 30 (47, [some (.ref 39), some (.ref (tt + 100)), none, none, some (.ref 41), none, some (.int (iI ((en : Nat) : Int))), some (.int (iI ((top + 1 : Nat) : Int))), some (.int (iI ((o + C1.length : Nat) : Int))), none, none, none, none], [], Wd f fl g (va_up gl 40 st') hh v tx) P) → (∀ st' : Nat → Int64, eb E = none → P (some (.long (-4000000000000000000))) (Wd f fl g (va_up gl 40 st') hh v tx)) → WP X (d + 1) 30 (47, [some (.ref 39), some (.ref (tt + 100)), none, none, some (.ref 41), none, some (.int (iI ((en : Nat) : Int))), some (.int (iI ((top : Nat) : Int))), some (.int (iI ((o : Nat) : Int))), none, none, none, none], [], Wd f fl g (va_up gl 40 st) hh v tx) P) : WP X (d + 1) 30 (47, [some (.ref 39), some (.ref (tt + 100)), none, none, some (.ref 41), none, some (.int (iI ((en : Nat) : Int))), some (.int (iI ((top : Nat) : Int))), some (.int (iI ((o : Nat) : Int))), none, none, none, none], [], Wd f fl g (va_up gl 40 st) hh v tx) P := by
  by_cases c : t = 1
  · rw [if_pos c] at hC hee
    subst hC hee
    have el : o + (C1 ++ [10 * 4096]).length = o + C1.length + 1 := by rw [List.length_append, List.length_singleton]; omega
    rw [el] at hlen hS
    refine run (by omega) (fun k x hk => hcode k x (get_app hk)) (fun y st' hy hst hst2 => ?_) fun st' hy => hN st' ?_
    · refine xo_notL eT eC hen hen2 (by omega) ht (hcode (C1.length + 0) (10 * 4096) (get_r rfl)) hst2 ?_
      refine hS (1 - y) _ ?_ (fun k hk => (uL_ne (by omega)).trans (hst k hk)) uL_s
      show (eb E).map (fun a => 1 - a) = _
      rw [hy]
      rfl
    · show (eb E).map (fun a => 1 - a) = _
      rw [hy]
      rfl
  · rw [if_neg c] at hC hee
    subst hC hee
    exact run hlen hcode hS hN
theorem xc_0L {X : mm_X} {f : Nat → Int32} {fl : Nat → Int64} {g : Nat → Nat → Int32} {gl : Nat → Nat → Int64} {hh : Nat → Nat → Option Nat} {v : Nat → Value} {tx : mm_W} {tt tc th kc : Nat} {nc nz : Int32} {ac : Nat → Int32} (eT : tx[tt]? = some (.inr (6, [.int nc, .int nz, .ref (tc + 100), .ref (th + 100)]))) (eC : tx[tc]? = some (.inl (0, kc, .inl ac))) {E : pE} {c cv : Nat → Nat} {size n : Nat} (hE : ∀ w, -2147483648 ≤ E w ∧ E w < 2147483648) (hW : ∀ w, w < 8 → g 41 w = iI (E w)) (ih : XCnL X f fl g gl hh v tx tt kc ac E c cv false size n) (hc0 : ∀ i, size ≤ i → c i = 0) {deep i p o t : Nat} {C : List Nat} {e : pE → Option Int} {j p' : Nat} {C' : List Nat} {e' : pE → Option Int} (h : pS c cv false (pP c cv false n) 0 deep i p o t C e = some (.inr (j, p', C', e'))) (hi : i ≤ size) (hp : p ≤ 50) : XCgL X f fl g gl hh v tx tt kc ac E 0 p o C C' e e' := by
  intro top en st d P htop hlen hen hen2 hcode hS hN
  show WP X (d + 1) 30 (47, [some (.ref 39), some (.ref (tt + 100)), none, none, some (.ref 41), none, some (.int (iI ((en : Nat) : Int))), some (.int (iI ((top : Nat) : Int))), some (.int (iI ((o : Nat) : Int))), none, none, none, none], [], Wd f fl g (va_up gl 40 st) hh v tx) P
  have hsz : ∀ {k}, c k ≠ 0 → k < size := fun {k} hk => by
    by_cases x : size ≤ k
    · exact absurd (hc0 k x) hk
    · omega
  rcases pi0 h with ⟨c1, c2, j0, p0, C0, e0, h1, c3, hq⟩ | ⟨c1, c2, c3, hq⟩ | ⟨w, c1, c2, c3, c4, c5, c6, c7, c8, hq⟩ | ⟨w, c1, c2, c3, c4, c5, hq⟩
  · have hlt := hsz (k := i) (by omega)
    cases hq
    exact ih _ _ _ _ _ _ _ _ _ _ _ _ h1 (by omega) (by omega) (by omega) hp (fun h => by omega) top en st d P htop hlen hen hen2 hcode hS hN
  · cases hq
    have h0 : ac (o + 0) = iI ((cv i : Nat) : Int) := hcode 0 (cv i) rfl
    rw [List.length_singleton] at hlen
    refine xo_pushL eT eC (x := cv i) hen hen2 (by omega) (by omega) h0 (by omega) ?_
    exact hS _ _ rfl (fun k hk => uL_ne (by omega)) uL_s
  · cases hq
    have hw := p_word_n c4
    have h0 : ac (o + 0) = iI ((4096 + (w + cv (i + 1)) : Nat) : Int) := hcode 0 _ rfl
    rw [List.length_singleton] at hlen
    refine xo_wordL eT eC (x := 4096 + (w + cv (i + 1))) (w := w + cv (i + 1)) hE hW hen hen2 (by omega) (by omega) h0 rfl (by first | exact absurd c5 (by decide) | omega) ?_
    exact hS _ _ rfl (fun k hk => uL_ne (by omega)) uL_s
  · cases hq
    have hw := p_word_n c4
    have h0 : ac (o + 0) = iI ((4096 + w : Nat) : Int) := hcode 0 _ rfl
    rw [List.length_singleton] at hlen
    refine xo_wordL eT eC (x := 4096 + w) (w := w) hE hW hen hen2 (by omega) (by omega) h0 rfl (by first | (have := hw.2.2 rfl; omega) | omega) ?_
    exact hS _ _ rfl (fun k hk => uL_ne (by omega)) uL_s
/-- a piece, then what goes on -/
theorem xc_seqL {X : mm_X} {f : Nat → Int32} {fl : Nat → Int64} {g : Nat → Nat → Int32} {gl : Nat → Nat → Int64} {hh : Nat → Nat → Option Nat} {v : Nat → Value} {tx : mm_W} {tt kc : Nat} {ac : Nat → Int32} {E : pE} {c cv : Nat → Nat} {size n : Nat} (hE : ∀ w, -2147483648 ≤ E w ∧ E w < 2147483648) (ih : XCnL X f fl g gl hh v tx tt kc ac E c cv false size n) (hc0 : ∀ i, size ≤ i → c i = 0) {m1 m2 deep i p o : Nat} (hm1 : m1 ≤ 5) (hm2 : 6 ≤ m2 ∧ m2 ≤ 9) {j0 p0 : Nat} {C0 : List Nat} {e0 : pE → Option Int} {j p' : Nat} {C' : List Nat} {e' : pE → Option Int} (h1 : pP c cv false n m1 deep i p o 0 [] p_e0 = some (.inr (j0, p0, C0, e0))) (h2 : pP c cv false n m2 deep j0 p0 o 0 C0 e0 = some (.inr (j, p', C', e'))) (hrg : p_rg m1 (e0 E) → p_rg m2 (e0 E)) (hi : i ≤ size) (hp : p ≤ 50)
    (q1 : XCgL X f fl g gl hh v tx tt kc ac E m1 p o [] C0 p_e0 e0 → ∀ (top en : Nat) (st : Nat → Int64) (d : Nat) (P : Option Value → mm_W → Prop), top ≤ p → o + C0.length ≤ en → en ≤ kc → en ≤ 400 → (∀ k x, C0[k]? = some x → ac (o + k) = iI ((x : Nat) : Int)) → (∀ y st', e0 E = some y → (∀ k, k < top → st' k = st k) → st' top = lI y → WP X (d + 1) 30 (47, [some (.ref 39), some (.ref (tt + 100)), none, none, some (.ref 41), none, some (.int (iI ((en : Nat) : Int))), some (.int (iI ((top + 1 : Nat) : Int))), some (.int (iI ((o + C0.length : Nat) : Int))), none, none, none, none], [], Wd f fl g (va_up gl 40 st') hh v tx) P) → (∀ st' : Nat → Int64, e0 E = none → P (some (.long (-4000000000000000000))) (Wd f fl g (va_up gl 40 st') hh v tx)) → WP X (d + 1) 30 (47, [some (.ref 39), some (.ref (tt + 100)), none, none, some (.ref 41), none, some (.int (iI ((en : Nat) : Int))), some (.int (iI ((top : Nat) : Int))), some (.int (iI ((o : Nat) : Int))), none, none, none, none], [], Wd f fl g (va_up gl 40 st) hh v tx) P)
    (q2 : XCgL X f fl g gl hh v tx tt kc ac E m2 p0 o C0 C' e0 e' → ∀ (top en : Nat) (st : Nat → Int64) (d : Nat) (P : Option Value → mm_W → Prop), top ≤ p0 → o + C'.length ≤ en → en ≤ kc → en ≤ 400 → (∀ k x, C'[k]? = some x → ac (o + k) = iI ((x : Nat) : Int)) → (∀ y st', e' E = some y → (∀ k, k < top → st' k = st k) → st' top = lI y → WP X (d + 1) 30 (47, [some (.ref 39), some (.ref (tt + 100)), none, none, some (.ref 41), none, some (.int (iI ((en : Nat) : Int))), some (.int (iI ((top + 1 : Nat) : Int))), some (.int (iI ((o + C'.length : Nat) : Int))), none, none, none, none], [], Wd f fl g (va_up gl 40 st') hh v tx) P) → (∀ st' : Nat → Int64, e' E = none → P (some (.long (-4000000000000000000))) (Wd f fl g (va_up gl 40 st') hh v tx)) → ∀ y, e0 E = some y → st top = lI y → top + 1 ≤ p0 → WP X (d + 1) 30 (47, [some (.ref 39), some (.ref (tt + 100)), none, none, some (.ref 41), none, some (.int (iI ((en : Nat) : Int))), some (.int (iI ((top + 1 : Nat) : Int))), some (.int (iI ((o + C0.length : Nat) : Int))), none, none, none, none], [], Wd f fl g (va_up gl 40 st) hh v tx) P)
    (top en : Nat) (st : Nat → Int64) (d : Nat) (P : Option Value → mm_W → Prop) (htop : top ≤ p) (hlen : o + C'.length ≤ en) (hen : en ≤ kc) (hen2 : en ≤ 400) (hcode : ∀ k x, C'[k]? = some x → ac (o + k) = iI ((x : Nat) : Int))
    (hS : ∀ y st', e' E = some y → (∀ k, k < top → st' k = st k) → st' top = lI y → WP X (d + 1) 30 (47, [some (.ref 39), some (.ref (tt + 100)), none, none, some (.ref 41), none, some (.int (iI ((en : Nat) : Int))), some (.int (iI ((top + 1 : Nat) : Int))), some (.int (iI ((o + C'.length : Nat) : Int))), none, none, none, none], [], Wd f fl g (va_up gl 40 st') hh v tx) P) (hN : ∀ st' : Nat → Int64, e' E = none → P (some (.long (-4000000000000000000))) (Wd f fl g (va_up gl 40 st') hh v tx)) : WP X (d + 1) 30 (47, [some (.ref 39), some (.ref (tt + 100)), none, none, some (.ref 41), none, some (.int (iI ((en : Nat) : Int))), some (.int (iI ((top : Nat) : Int))), some (.int (iI ((o : Nat) : Int))), none, none, none, none], [], Wd f fl g (va_up gl 40 st) hh v tx) P := by
  obtain ⟨g1, g2, g3, g4, g5, g6, g7, g8, g9, g10⟩ := p_inv hc0 hE _ _ _ _ _ _ _ _ _ _ _ _ _ h1 (by omega) (by omega) hi hp (fun h => by omega)
  obtain ⟨k1, k2, k3, k4, k5, k6, k7, k8, k9, k10⟩ := p_inv hc0 hE _ _ _ _ _ _ _ _ _ _ _ _ _ h2 (by omega) (by omega) g2 g3 (fun _ => hrg g10)
  obtain ⟨D, hD⟩ := k9 (by omega)
  have hl : C'.length = C0.length + D.length := by rw [hD, List.length_append]
  refine q1 (ih _ _ _ _ _ _ _ _ _ _ _ _ h1 (by omega) (by omega) hi hp (fun h => by omega)) top en st d P htop (by omega) hen hen2 (fun k x hk => hcode k x (by rw [hD]; exact get_app hk)) (fun y st' hy hst hst2 => ?_) fun st' he => hN st' (p_non _ _ _ _ _ _ _ _ _ _ _ _ _ h2 (by omega) (by omega) he)
  exact q2 (ih _ _ _ _ _ _ _ _ _ _ _ _ h2 (by omega) (by omega) g2 g3 (fun _ => hrg g10)) top en st' d P (by omega) hlen hen hen2 hcode (fun y2 st2 h hst3 hst4 => hS y2 st2 h (fun k hk => (hst3 k hk).trans (hst k hk)) hst4) hN y hy hst2 (by have := g5 (by omega); omega)
theorem xc_3L {X : mm_X} {f : Nat → Int32} {fl : Nat → Int64} {g : Nat → Nat → Int32} {gl : Nat → Nat → Int64} {hh : Nat → Nat → Option Nat} {v : Nat → Value} {tx : mm_W} {tt tc th kc : Nat} {nc nz : Int32} {ac : Nat → Int32} (eT : tx[tt]? = some (.inr (6, [.int nc, .int nz, .ref (tc + 100), .ref (th + 100)]))) (eC : tx[tc]? = some (.inl (0, kc, .inl ac))) {E : pE} {c cv : Nat → Nat} {size n : Nat} (hE : ∀ w, -2147483648 ≤ E w ∧ E w < 2147483648) (ih : XCnL X f fl g gl hh v tx tt kc ac E c cv false size n) (hc0 : ∀ i, size ≤ i → c i = 0) {deep i p o t : Nat} {C : List Nat} {e : pE → Option Int} {j p' : Nat} {C' : List Nat} {e' : pE → Option Int} (h : pS c cv false (pP c cv false n) 3 deep i p o t C e = some (.inr (j, p', C', e'))) (ht : t ≤ 1) (hi : i ≤ size) (hp : p ≤ 50) : XCgL X f fl g gl hh v tx tt kc ac E 3 p o C C' e e' := by
  intro top en st d P htop hlen hen hen2 hcode hS hN
  show WP X (d + 1) 30 (47, [some (.ref 39), some (.ref (tt + 100)), none, none, some (.ref 41), none, some (.int (iI ((en : Nat) : Int))), some (.int (iI ((top : Nat) : Int))), some (.int (iI ((o : Nat) : Int))), none, none, none, none], [], Wd f fl g (va_up gl 40 st) hh v tx) P
  have hsz : ∀ {k}, c k ≠ 0 → k < size := fun {k} hk => by
    by_cases x : size ≤ k
    · exact absurd (hc0 k x) hk
    · omega
  rcases pi3 h with ⟨c1, h1⟩ | ⟨c1, c2, c3, j0, p0, C0, e0, h1, c4, hq⟩ | ⟨c1, c2, j0, p0, C0, e0, op, j2, p2, C2, e2, h1, hop, h2, hq⟩
  · have hlt := hsz (k := i) (by omega)
    exact ih _ _ _ _ _ _ _ _ _ _ _ _ h1 (by omega) (by omega) (by omega) hp (fun h => by omega) top en st d P htop hlen hen hen2 hcode hS hN
  · have hlt := hsz (k := i) (by omega)
    have eC' : C' = (if t = 1 then C0 ++ [10 * 4096] else C0) := congrArg (fun q : pO => q.2.2.1) hq
    have ee : e' = (if t = 1 then p_not e0 else e0) := congrArg (fun q : pO => q.2.2.2) hq
    refine xc_turnL eT eC eC' ee (by omega) hlen hen hen2 hcode hS hN fun hl1 hcode1 hS1 hN1 => ?_
    exact ih _ _ _ _ _ _ _ _ _ _ _ _ h1 (by omega) (by omega) (by omega) hp (fun h => by omega) top en st d P htop hl1 hen hen2 hcode1 hS1 hN1
  · have hop2 := p_cmp_v hop
    obtain ⟨g1, g2, g3, g4, g5, g6, g7, g8, g9, g10⟩ := p_inv hc0 hE _ _ _ _ _ _ _ _ _ _ _ _ _ h1 (by omega) (by omega) hi hp (fun h => by omega)
    have hlt := hsz (k := j0) (by omega)
    obtain ⟨k1, k2, k3, k4, k5, k6, k7, k8, k9, k10⟩ := p_inv hc0 hE _ _ _ _ _ _ _ _ _ _ _ _ _ h2 (by omega) (by omega) (by omega) g3 (fun h => by omega)
    have eC' : C' = (if t = 1 then (C0 ++ C2 ++ [op * 4096]) ++ [10 * 4096] else C0 ++ C2 ++ [op * 4096]) := congrArg (fun q : pO => q.2.2.1) hq
    have ee : e' = (if t = 1 then p_not (p_bin op e0 e2) else p_bin op e0 e2) := congrArg (fun q : pO => q.2.2.2) hq
    refine xc_turnL eT eC eC' ee (by omega) hlen hen hen2 hcode hS hN fun hl1 hcode1 hS1 hN1 => ?_
    have el : o + (C0 ++ C2 ++ [op * 4096]).length = o + C0.length + C2.length + 1 := by simp only [List.length_append, List.length_singleton]; omega
    rw [el] at hl1 hS1
    have g5 := g5 (by omega)
    refine ih _ _ _ _ _ _ _ _ _ _ _ _ h1 (by omega) (by omega) hi hp (fun h => by omega) top en st d P htop (by omega) hen hen2 (fun k x hk => hcode1 k x (get_app (get_app hk))) (fun y st' hy hst hst2 => ?_) fun st' he => hN1 st' (by rw [p_bin_eq, he]; rfl)
    refine ih _ _ _ _ _ _ _ _ _ _ _ _ h2 (by omega) (by omega) (by omega) g3 (fun h => by omega) (top + 1) en st' d P (by omega) (by omega) hen hen2 (fun k x hk => by
      have := hcode1 (C0.length + k) x (get_app (get_r hk))
      rw [← Nat.add_assoc] at this
      exact this) (fun w st2 hw hst3 hst4 => ?_) fun st' he => hN1 st' (by rw [p_bin_eq, hy, he]; rfl)
    have hz : ac (o + C0.length + C2.length) = iI ((op * 4096 : Nat) : Int) := by
      have := hcode1 ((C0 ++ C2).length + 0) (op * 4096) (get_r rfl)
      rw [List.length_append, Nat.add_zero, ← Nat.add_assoc] at this
      exact this
    have hyr := p_rg_num g10 y hy
    have hwr := p_rg_num k10 w hw
    have sa : st2 top = lI y := (hst3 top (by omega)).trans hst2
    refine xo_arithL eT eC (m := top) hen hen2 (by omega) (by omega) (by omega) hz hyr hwr sa hst4 (fun r hr => ?_) fun hr => hN1 _ (by rw [p_bin_eq, hy, hw]; exact hr)
    exact hS1 r _ (by rw [p_bin_eq, hy, hw]; exact hr) (fun k hk => (uL_ne (by omega)).trans ((hst3 k (by omega)).trans (hst k hk))) uL_s
/-- a number goes on: operation by operation -/
theorem xc_numL {X : mm_X} {f : Nat → Int32} {fl : Nat → Int64} {g : Nat → Nat → Int32} {gl : Nat → Nat → Int64} {hh : Nat → Nat → Option Nat} {v : Nat → Value} {tx : mm_W} {tt tc th kc : Nat} {nc nz : Int32} {ac : Nat → Int32} (eT : tx[tt]? = some (.inr (6, [.int nc, .int nz, .ref (tc + 100), .ref (th + 100)]))) (eC : tx[tc]? = some (.inl (0, kc, .inl ac))) {E : pE} {c cv : Nat → Nat} {size n : Nat} (hE : ∀ w, -2147483648 ≤ E w ∧ E w < 2147483648) (ih : XCnL X f fl g gl hh v tx tt kc ac E c cv false size n) (hc0 : ∀ i, size ≤ i → c i = 0) {deep i p o op j0 p0 : Nat} {C C0 : List Nat} {e e0 : pE → Option Int} {j p' : Nat} {C' : List Nat} {e' : pE → Option Int} (hrg : p_num (e E)) (hop : 2 ≤ op ∧ op ≤ 6) (hi : i + 1 ≤ size) (hp : p ≤ 50) {m1 m2 : Nat} (hm : (m1 = 0 ∧ m2 = 6) ∨ (m1 = 1 ∧ m2 = 7))
    (h1 : pP c cv false n m1 deep (i + 1) p (o + C.length) 0 [] p_e0 = some (.inr (j0, p0, C0, e0))) (h2 : pP c cv false n m2 deep j0 p0 o 0 (C ++ C0 ++ [op * 4096]) (p_bin op e e0) = some (.inr (j, p', C', e')))
    (top en : Nat) (st : Nat → Int64) (d : Nat) (P : Option Value → mm_W → Prop) (htop : top ≤ p) (hlen : o + C'.length ≤ en) (hen : en ≤ kc) (hen2 : en ≤ 400) (hcode : ∀ k x, C'[k]? = some x → ac (o + k) = iI ((x : Nat) : Int))
    (hS : ∀ y st', e' E = some y → (∀ k, k < top → st' k = st k) → st' top = lI y → WP X (d + 1) 30 (47, [some (.ref 39), some (.ref (tt + 100)), none, none, some (.ref 41), none, some (.int (iI ((en : Nat) : Int))), some (.int (iI ((top + 1 : Nat) : Int))), some (.int (iI ((o + C'.length : Nat) : Int))), none, none, none, none], [], Wd f fl g (va_up gl 40 st') hh v tx) P) (hN : ∀ st' : Nat → Int64, e' E = none → P (some (.long (-4000000000000000000))) (Wd f fl g (va_up gl 40 st') hh v tx)) (y : Int) (hy : e E = some y) (hst0 : st top = lI y) (htp : top + 1 ≤ p) : WP X (d + 1) 30 (47, [some (.ref 39), some (.ref (tt + 100)), none, none, some (.ref 41), none, some (.int (iI ((en : Nat) : Int))), some (.int (iI ((top + 1 : Nat) : Int))), some (.int (iI ((o + C.length : Nat) : Int))), none, none, none, none], [], Wd f fl g (va_up gl 40 st) hh v tx) P := by
  obtain ⟨g1, g2, g3, g4, g5, g6, g7, g8, g9, g10⟩ := p_inv hc0 hE _ _ _ _ _ _ _ _ _ _ _ _ _ h1 (by omega) (by omega) hi hp (fun h => by omega)
  have hrb : 6 ≤ m2 → p_rg m2 (p_bin op e e0 E) := fun _ => by
    rcases hm with ⟨_, rfl⟩ | ⟨_, rfl⟩
    · exact p_num_bin
    · exact p_num_bin
  obtain ⟨k1, k2, k3, k4, k5, k6, k7, k8, k9, k10⟩ := p_inv hc0 hE _ _ _ _ _ _ _ _ _ _ _ _ _ h2 (by omega) (by omega) g2 g3 hrb
  obtain ⟨D, hD⟩ := k9 (by omega)
  have el : o + (C ++ C0 ++ [op * 4096]).length = o + C.length + C0.length + 1 := by simp only [List.length_append, List.length_singleton]; omega
  have hl : o + C'.length = o + C.length + C0.length + 1 + D.length := by rw [hD, List.length_append, ← Nat.add_assoc, el]
  have g10 := p_rg_num g10
  have I1 := ih _ _ _ _ _ _ _ _ _ _ _ _ h1 (by omega) (by omega) hi hp (fun h => by omega)
  have I2 := ih _ _ _ _ _ _ _ _ _ _ _ _ h2 (by omega) (by omega) g2 g3 hrb
  have last : ∀ w st2, e0 E = some w → (∀ k, k < top + 1 → st2 k = st k) → st2 (top + 1) = lI w → WP X (d + 1) 30 (47, [some (.ref 39), some (.ref (tt + 100)), none, none, some (.ref 41), none, some (.int (iI ((en : Nat) : Int))), some (.int (iI ((top + 2 : Nat) : Int))), some (.int (iI ((o + C.length + C0.length : Nat) : Int))), none, none, none, none], [], Wd f fl g (va_up gl 40 st2) hh v tx) P := by
    intro w st2 hw hst3 hst4
    have hz : ac (o + C.length + C0.length) = iI ((op * 4096 : Nat) : Int) := by
      have := hcode ((C ++ C0).length + 0) (op * 4096) (by rw [hD]; exact get_app (get_r rfl))
      rw [List.length_append, Nat.add_zero, ← Nat.add_assoc] at this
      exact this
    have sa : st2 top = lI y := (hst3 top (by omega)).trans hst0
    refine xo_arithL eT eC (m := top) hen hen2 (by omega) (by omega) (by omega) hz (hrg y hy) (g10 w hw) sa hst4 (fun r hr => ?_) fun hr => hN _ (p_non _ _ _ _ _ _ _ _ _ _ _ _ _ h2 (by omega) (by omega) (by rw [p_bin_eq, hy, hw]; exact hr))
    have hb : p_bin op e e0 E = some r := by rw [p_bin_eq, hy, hw]; exact hr
    have hS' : ∀ y2 st', e' E = some y2 → (∀ k, k < top → st' k = vp_updL st2 top (lI r) k) → st' top = lI y2 → WP X (d + 1) 30 (47, [some (.ref 39), some (.ref (tt + 100)), none, none, some (.ref 41), none, some (.int (iI ((en : Nat) : Int))), some (.int (iI ((top + 1 : Nat) : Int))), some (.int (iI ((o + C'.length : Nat) : Int))), none, none, none, none], [], Wd f fl g (va_up gl 40 st') hh v tx) P := fun y2 st' q1 q2 q3 => hS y2 st' q1 (fun k hk => (q2 k hk).trans ((uL_ne (by omega)).trans (hst3 k (by omega)))) q3
    rw [← el]
    rcases hm with ⟨rfl, rfl⟩ | ⟨rfl, rfl⟩
    · exact I2 top en _ d P (by omega) hlen hen hen2 hcode hS' hN r hb uL_s (by have := g5 (by omega); omega)
    · exact I2 top en _ d P (by omega) hlen hen hen2 hcode hS' hN r hb uL_s (by have := g5 (by omega); omega)
  have hcode0 : ∀ k x, C0[k]? = some x → ac (o + C.length + k) = iI ((x : Nat) : Int) := fun k x hk => by
    have := hcode (C.length + k) x (by rw [hD]; exact get_app (get_app (get_r hk)))
    rw [← Nat.add_assoc] at this
    exact this
  have hN0 : ∀ st' : Nat → Int64, e0 E = none → P (some (.long (-4000000000000000000))) (Wd f fl g (va_up gl 40 st') hh v tx) := fun st' he => hN st' (p_non _ _ _ _ _ _ _ _ _ _ _ _ _ h2 (by omega) (by omega) (by rw [p_bin_eq, hy, he]; rfl))
  rcases hm with ⟨rfl, rfl⟩ | ⟨rfl, rfl⟩
  · exact I1 (top + 1) en st d P htp (by omega) hen hen2 hcode0 last hN0
  · exact I1 (top + 1) en st d P htp (by omega) hen hen2 hcode0 last hN0
/-- a test goes on: what stands behind is left out, perhaps -/
theorem xc_tstL {X : mm_X} {f : Nat → Int32} {fl : Nat → Int64} {g : Nat → Nat → Int32} {gl : Nat → Nat → Int64} {hh : Nat → Nat → Option Nat} {v : Nat → Value} {tx : mm_W} {tt tc th kc : Nat} {nc nz : Int32} {ac : Nat → Int32} (eT : tx[tt]? = some (.inr (6, [.int nc, .int nz, .ref (tc + 100), .ref (th + 100)]))) (eC : tx[tc]? = some (.inl (0, kc, .inl ac))) {E : pE} {c cv : Nat → Nat} {size n : Nat} (hE : ∀ w, -2147483648 ≤ E w ∧ E w < 2147483648) (ih : XCnL X f fl g gl hh v tx tt kc ac E c cv false size n) (hc0 : ∀ i, size ≤ i → c i = 0) {deep i p o op j0 p0 : Nat} {C C0 : List Nat} {e e0 : pE → Option Int} {j p' : Nat} {C' : List Nat} {e' : pE → Option Int} (hrg : p_tst (e E)) (hi : i + 1 ≤ size) (hp : p ≤ 50) {m1 m2 : Nat} (hm : (m1 = 3 ∧ m2 = 8 ∧ op = 12) ∨ (m1 = 4 ∧ m2 = 9 ∧ op = 11))
    (h1 : pP c cv false n m1 deep (i + 1) p (o + C.length + 1) 0 [] p_e0 = some (.inr (j0, p0, C0, e0))) (h2 : pP c cv false n m2 deep j0 p0 o 0 (C ++ [op * 4096 + (o + C.length + 1 + C0.length)] ++ C0) (p_sc op e e0) = some (.inr (j, p', C', e')))
    (top en : Nat) (st : Nat → Int64) (d : Nat) (P : Option Value → mm_W → Prop) (htop : top ≤ p) (hlen : o + C'.length ≤ en) (hen : en ≤ kc) (hen2 : en ≤ 400) (hcode : ∀ k x, C'[k]? = some x → ac (o + k) = iI ((x : Nat) : Int))
    (hS : ∀ y st', e' E = some y → (∀ k, k < top → st' k = st k) → st' top = lI y → WP X (d + 1) 30 (47, [some (.ref 39), some (.ref (tt + 100)), none, none, some (.ref 41), none, some (.int (iI ((en : Nat) : Int))), some (.int (iI ((top + 1 : Nat) : Int))), some (.int (iI ((o + C'.length : Nat) : Int))), none, none, none, none], [], Wd f fl g (va_up gl 40 st') hh v tx) P) (hN : ∀ st' : Nat → Int64, e' E = none → P (some (.long (-4000000000000000000))) (Wd f fl g (va_up gl 40 st') hh v tx)) (y : Int) (hy : e E = some y) (hst0 : st top = lI y) (htp : top + 1 ≤ p) : WP X (d + 1) 30 (47, [some (.ref 39), some (.ref (tt + 100)), none, none, some (.ref 41), none, some (.int (iI ((en : Nat) : Int))), some (.int (iI ((top + 1 : Nat) : Int))), some (.int (iI ((o + C.length : Nat) : Int))), none, none, none, none], [], Wd f fl g (va_up gl 40 st) hh v tx) P := by
  obtain ⟨g1, g2, g3, g4, g5, g6, g7, g8, g9, g10⟩ := p_inv hc0 hE _ _ _ _ _ _ _ _ _ _ _ _ _ h1 (by omega) (by omega) hi hp (fun h => by omega)
  have g10 : p_tst (e0 E) := by
    rcases hm with ⟨rfl, _, _⟩ | ⟨rfl, _, _⟩
    · exact g10
    · exact g10
  have hrb : 6 ≤ m2 → p_rg m2 (p_sc op e e0 E) := fun _ => by
    rcases hm with ⟨_, rfl, _⟩ | ⟨_, rfl, _⟩
    · exact p_tst_sc hrg g10
    · exact p_tst_sc hrg g10
  obtain ⟨k1, k2, k3, k4, k5, k6, k7, k8, k9, k10⟩ := p_inv hc0 hE _ _ _ _ _ _ _ _ _ _ _ _ _ h2 (by omega) (by omega) g2 g3 hrb
  obtain ⟨D, hD⟩ := k9 (by omega)
  obtain ⟨num, hnum⟩ : ∃ num, num = o + C.length + 1 + C0.length := ⟨_, rfl⟩
  rw [← hnum] at h2 hD
  have el : o + (C ++ [op * 4096 + num] ++ C0).length = num := by simp only [List.length_append, List.length_singleton]; omega
  have hl : o + C'.length = num + D.length := by rw [hD, List.length_append, ← Nat.add_assoc, el]
  have I1 := ih _ _ _ _ _ _ _ _ _ _ _ _ h1 (by omega) (by omega) hi hp (fun h => by omega)
  have I2 := ih _ _ _ _ _ _ _ _ _ _ _ _ h2 (by omega) (by omega) g2 g3 hrb
  have hz : ac (o + C.length) = iI ((op * 4096 + num : Nat) : Int) := hcode (C.length + 0) (op * 4096 + num) (by rw [hD]; exact get_app (get_app (get_r rfl)))
  have hy2 := hrg y hy
  have esc : p_sc op e e0 E = (if y = 1 ↔ op = 11 then some y else e0 E) := by
    show (e E).bind _ = _
    rw [hy]
    rfl
  have rest : ∀ w st2, p_sc op e e0 E = some w → (∀ k, k < top → st2 k = st k) → st2 top = lI w → WP X (d + 1) 30 (47, [some (.ref 39), some (.ref (tt + 100)), none, none, some (.ref 41), none, some (.int (iI ((en : Nat) : Int))), some (.int (iI ((top + 1 : Nat) : Int))), some (.int (iI ((num : Nat) : Int))), none, none, none, none], [], Wd f fl g (va_up gl 40 st2) hh v tx) P := by
    intro w st2 hw hst3 hst4
    have hS' : ∀ y2 st', e' E = some y2 → (∀ k, k < top → st' k = st2 k) → st' top = lI y2 → WP X (d + 1) 30 (47, [some (.ref 39), some (.ref (tt + 100)), none, none, some (.ref 41), none, some (.int (iI ((en : Nat) : Int))), some (.int (iI ((top + 1 : Nat) : Int))), some (.int (iI ((o + C'.length : Nat) : Int))), none, none, none, none], [], Wd f fl g (va_up gl 40 st') hh v tx) P := fun y2 st' q1 q2 q3 => hS y2 st' q1 (fun k hk => (q2 k hk).trans (hst3 k hk)) q3
    have := g5 (by omega)
    rcases hm with ⟨rfl, rfl, rfl⟩ | ⟨rfl, rfl, rfl⟩
    · have q := I2 top en st2 d P (by omega) hlen hen hen2 hcode hS' hN w hw hst4 (by omega)
      rw [el] at q
      exact q
    · have q := I2 top en st2 d P (by omega) hlen hen hen2 hcode hS' hN w hw hst4 (by omega)
      rw [el] at q
      exact q
  refine xo_jumpL eT eC (m := top) (op := op) (num := num) hen hen2 (by omega) (by omega) (by omega) (by omega) (by omega) hz (by omega) hst0 (fun hdc => rest y st (by rw [esc, if_pos hdc]) (fun _ _ => rfl) hst0) fun hdc => ?_
  rw [if_neg hdc] at esc
  have hcode0 : ∀ k x, C0[k]? = some x → ac (o + C.length + 1 + k) = iI ((x : Nat) : Int) := fun k x hk => by
    have := hcode ((C ++ [op * 4096 + num]).length + k) x (by rw [hD]; exact get_app (get_r hk))
    rw [List.length_append, List.length_singleton, ← Nat.add_assoc, ← Nat.add_assoc] at this
    exact this
  have hS0 : ∀ w st', e0 E = some w → (∀ k, k < top → st' k = st k) → st' top = lI w → WP X (d + 1) 30 (47, [some (.ref 39), some (.ref (tt + 100)), none, none, some (.ref 41), none, some (.int (iI ((en : Nat) : Int))), some (.int (iI ((top + 1 : Nat) : Int))), some (.int (iI ((o + C.length + 1 + C0.length : Nat) : Int))), none, none, none, none], [], Wd f fl g (va_up gl 40 st') hh v tx) P := fun w st' q1 q2 q3 => by
    rw [← hnum]
    exact rest w st' (by rw [esc]; exact q1) q2 q3
  have hN0 : ∀ st' : Nat → Int64, e0 E = none → P (some (.long (-4000000000000000000))) (Wd f fl g (va_up gl 40 st') hh v tx) := fun st' he => hN st' (p_non _ _ _ _ _ _ _ _ _ _ _ _ _ h2 (by omega) (by omega) (by rw [esc]; exact he))
  rcases hm with ⟨rfl, rfl, rfl⟩ | ⟨rfl, rfl, rfl⟩
  · exact I1 top en st d P htop (by omega) hen hen2 hcode0 hS0 hN0
  · exact I1 top en st d P htop (by omega) hen hen2 hcode0 hS0 hN0
theorem xc_allL {X : mm_X} {f : Nat → Int32} {fl : Nat → Int64} {g : Nat → Nat → Int32} {gl : Nat → Nat → Int64} {hh : Nat → Nat → Option Nat} {v : Nat → Value} {tx : mm_W} {tt tc th kc : Nat} {nc nz : Int32} {ac : Nat → Int32} (eT : tx[tt]? = some (.inr (6, [.int nc, .int nz, .ref (tc + 100), .ref (th + 100)]))) (eC : tx[tc]? = some (.inl (0, kc, .inl ac))) {E : pE} {c cv : Nat → Nat} {size : Nat} (hE : ∀ w, -2147483648 ≤ E w ∧ E w < 2147483648) (hW : ∀ w, w < 8 → g 41 w = iI (E w)) (hc0 : ∀ i, size ≤ i → c i = 0) : ∀ n, XCnL X f fl g gl hh v tx tt kc ac E c cv false size n := by
  intro n
  induction n with
  | zero => intro mode deep i p o t C e j p' C' e' h; cases h
  | succ n ih =>
    intro mode deep i p o t C e j p' C' e' h hmd ht hi hp he
    have h : pS c cv false (pP c cv false n) mode deep i p o t C e = some (.inr (j, p', C', e')) := h
    have hsz : ∀ {k}, c k ≠ 0 → k < size := fun {k} hk => by
      by_cases x : size ≤ k
      · exact absurd (hc0 k x) hk
      · omega
    have hmm : mode = 0 ∨ mode = 1 ∨ mode = 2 ∨ mode = 3 ∨ mode = 4 ∨ mode = 5 ∨ mode = 6 ∨ mode = 7 ∨ mode = 8 ∨ mode = 9 := by omega
    rcases hmm with rfl | rfl | rfl | rfl | rfl | rfl | rfl | rfl | rfl | rfl
    · exact xc_0L eT eC hE hW ih hc0 h hi hp
    · obtain ⟨j0, p0, C0, e0, h1, h2⟩ := pi1 h
      exact xc_seqL hE ih hc0 (by omega) (by omega) h1 h2 (fun h => h) hi hp (fun q => q) fun q => q
    · obtain ⟨j0, p0, C0, e0, h1, h2⟩ := pi2 h
      exact xc_seqL hE ih hc0 (by omega) (by omega) h1 h2 (fun h => h) hi hp (fun q => q) fun q => q
    · exact xc_3L eT eC hE ih hc0 h ht hi hp
    · obtain ⟨j0, p0, C0, e0, h1, h2⟩ := pi4 h
      exact xc_seqL hE ih hc0 (by omega) (by omega) h1 h2 (fun h => h) hi hp (fun q => q) fun q => q
    · obtain ⟨j0, p0, C0, e0, h1, h2⟩ := pi5 h
      exact xc_seqL hE ih hc0 (by omega) (by omega) h1 h2 (fun h => h) hi hp (fun q => q) fun q => q
    · rcases pi6 h with ⟨c1, hq⟩ | ⟨op, j0, p0, C0, e0, hop, h1, h2⟩
      · cases hq
        intro top en st d P htop hlen hen hen2 hcode hS hN y hy hst htp
        exact hS y st hy (fun _ _ => rfl) hst
      · have hop2 := p_termop_v hop
        have hlt := hsz (k := i) (by omega)
        exact xc_numL eT eC hE ih hc0 (he (by omega)) (by omega) (by omega) hp (Or.inl ⟨rfl, rfl⟩) h1 h2
    · rcases pi7 h with ⟨c1, hq⟩ | ⟨op, j0, p0, C0, e0, hop, h1, h2⟩
      · cases hq
        intro top en st d P htop hlen hen hen2 hcode hS hN y hy hst htp
        exact hS y st hy (fun _ _ => rfl) hst
      · have hop2 := p_sumop_v hop
        have hlt := hsz (k := i) (by omega)
        exact xc_numL eT eC hE ih hc0 (he (by omega)) (by omega) (by omega) hp (Or.inr ⟨rfl, rfl⟩) h1 h2
    · rcases pi8 h with ⟨c1, hq⟩ | ⟨j0, p0, C0, e0, hop, h1, h2⟩
      · cases hq
        intro top en st d P htop hlen hen hen2 hcode hS hN y hy hst htp
        exact hS y st hy (fun _ _ => rfl) hst
      · have hlt := hsz (k := i) (by omega)
        exact xc_tstL eT eC hE ih hc0 (he (by omega)) (by omega) hp (Or.inl ⟨rfl, rfl, rfl⟩) h1 h2
    · rcases pi9 h with ⟨c1, hq⟩ | ⟨j0, p0, C0, e0, hop, h1, h2⟩
      · cases hq
        intro top en st d P htop hlen hen hen2 hcode hS hN y hy hst htp
        exact hS y st hy (fun _ _ => rfl) hst
      · have hlt := hsz (k := i) (by omega)
        exact xc_tstL eT eC hE ih hc0 (he (by omega)) (by omega) hp (Or.inr ⟨rfl, rfl, rfl⟩) h1 h2
