/-! a law's clauses: what the last one that holds tells -/
theorem p_pos {c v : Nat → Nat} {sec : Bool} : ∀ (n mode deep i p o t : Nat) (C : List Nat) (e : pE → Option Int) (j p' : Nat) (C' : List Nat) (e' : pE → Option Int), pP c v sec n mode deep i p o t C e = some (.inr (j, p', C', e')) → mode ≤ 9 → (mode ≤ 5 → 1 ≤ C'.length) ∧ (6 ≤ mode → C.length ≤ C'.length) := by
  intro n
  induction n with
  | zero => intro mode deep i p o t C e j p' C' e' h; cases h
  | succ n ih =>
    intro mode deep i p o t C e j p' C' e' h hmd
    have h : pS c v sec (pP c v sec n) mode deep i p o t C e = some (.inr (j, p', C', e')) := h
    have hmm : mode = 0 ∨ mode = 1 ∨ mode = 2 ∨ mode = 3 ∨ mode = 4 ∨ mode = 5 ∨ mode = 6 ∨ mode = 7 ∨ mode = 8 ∨ mode = 9 := by omega
    rcases hmm with rfl | rfl | rfl | rfl | rfl | rfl | rfl | rfl | rfl | rfl
    · rcases pi0 h with ⟨c1, c2, j0, p0, C0, e0, h1, c3, hq⟩ | ⟨c1, c2, c3, hq⟩ | ⟨w, c1, c2, c3, c4, c5, c6, c7, c8, hq⟩ | ⟨w, c1, c2, c3, c4, c5, hq⟩
      · have := ih _ _ _ _ _ _ _ _ _ _ _ _ h1 (by omega)
        cases hq
        exact ⟨fun _ => this.1 (by omega), fun h => by omega⟩
      · cases hq; exact ⟨fun _ => Nat.le_refl 1, fun h => by omega⟩
      · cases hq; exact ⟨fun _ => Nat.le_refl 1, fun h => by omega⟩
      · cases hq; exact ⟨fun _ => Nat.le_refl 1, fun h => by omega⟩
    · obtain ⟨j0, p0, C0, e0, h1, h2⟩ := pi1 h
      have a := (ih _ _ _ _ _ _ _ _ _ _ _ _ h1 (by omega)).1 (by omega)
      have b := (ih _ _ _ _ _ _ _ _ _ _ _ _ h2 (by omega)).2 (by omega)
      exact ⟨fun _ => by omega, fun h => by omega⟩
    · obtain ⟨j0, p0, C0, e0, h1, h2⟩ := pi2 h
      have a := (ih _ _ _ _ _ _ _ _ _ _ _ _ h1 (by omega)).1 (by omega)
      have b := (ih _ _ _ _ _ _ _ _ _ _ _ _ h2 (by omega)).2 (by omega)
      exact ⟨fun _ => by omega, fun h => by omega⟩
    · rcases pi3 h with ⟨c1, h1⟩ | ⟨c1, c2, c3, j0, p0, C0, e0, h1, c4, hq⟩ | ⟨c1, c2, j0, p0, C0, e0, op, j2, p2, C2, e2, h1, hop, h2, hq⟩
      · have a := (ih _ _ _ _ _ _ _ _ _ _ _ _ h1 (by omega)).1 (by omega)
        exact ⟨fun _ => a, fun h => by omega⟩
      · have a := (ih _ _ _ _ _ _ _ _ _ _ _ _ h1 (by omega)).1 (by omega)
        have eC : C' = (if t = 1 then C0 ++ [10 * 4096] else C0) := congrArg (fun q : pO => q.2.2.1) hq
        refine ⟨fun _ => ?_, fun h => by omega⟩
        rw [eC]
        split
        · rw [List.length_append]; omega
        · exact a
      · have eC : C' = (if t = 1 then C0 ++ C2 ++ [op * 4096] ++ [10 * 4096] else C0 ++ C2 ++ [op * 4096]) := congrArg (fun q : pO => q.2.2.1) hq
        refine ⟨fun _ => ?_, fun h => by omega⟩
        rw [eC]
        split
        · simp only [List.length_append, List.length_singleton]; omega
        · simp only [List.length_append, List.length_singleton]; omega
    · obtain ⟨j0, p0, C0, e0, h1, h2⟩ := pi4 h
      have a := (ih _ _ _ _ _ _ _ _ _ _ _ _ h1 (by omega)).1 (by omega)
      have b := (ih _ _ _ _ _ _ _ _ _ _ _ _ h2 (by omega)).2 (by omega)
      exact ⟨fun _ => by omega, fun h => by omega⟩
    · obtain ⟨j0, p0, C0, e0, h1, h2⟩ := pi5 h
      have a := (ih _ _ _ _ _ _ _ _ _ _ _ _ h1 (by omega)).1 (by omega)
      have b := (ih _ _ _ _ _ _ _ _ _ _ _ _ h2 (by omega)).2 (by omega)
      exact ⟨fun _ => by omega, fun h => by omega⟩
    · rcases pi6 h with ⟨c1, hq⟩ | ⟨op, j0, p0, C0, e0, hop, h1, h2⟩
      · cases hq; exact ⟨fun h => by omega, fun _ => Nat.le_refl _⟩
      · have b := (ih _ _ _ _ _ _ _ _ _ _ _ _ h2 (by omega)).2 (by omega)
        simp only [List.length_append, List.length_singleton] at b
        exact ⟨fun h => by omega, fun _ => by omega⟩
    · rcases pi7 h with ⟨c1, hq⟩ | ⟨op, j0, p0, C0, e0, hop, h1, h2⟩
      · cases hq; exact ⟨fun h => by omega, fun _ => Nat.le_refl _⟩
      · have b := (ih _ _ _ _ _ _ _ _ _ _ _ _ h2 (by omega)).2 (by omega)
        simp only [List.length_append, List.length_singleton] at b
        exact ⟨fun h => by omega, fun _ => by omega⟩
    · rcases pi8 h with ⟨c1, hq⟩ | ⟨j0, p0, C0, e0, hop, h1, h2⟩
      · cases hq; exact ⟨fun h => by omega, fun _ => Nat.le_refl _⟩
      · have b := (ih _ _ _ _ _ _ _ _ _ _ _ _ h2 (by omega)).2 (by omega)
        simp only [List.length_append, List.length_singleton] at b
        exact ⟨fun h => by omega, fun _ => by omega⟩
    · rcases pi9 h with ⟨c1, hq⟩ | ⟨j0, p0, C0, e0, hop, h1, h2⟩
      · cases hq; exact ⟨fun h => by omega, fun _ => Nat.le_refl _⟩
      · have b := (ih _ _ _ _ _ _ _ _ _ _ _ _ h2 (by omega)).2 (by omega)
        simp only [List.length_append, List.length_singleton] at b
        exact ⟨fun h => by omega, fun _ => by omega⟩
/-- how a clause was read -/
theorem pc_inv {c v : Nat → Nat} {sec : Bool} {n i p o j p' : Nat} {q : pC} (h : p_clause c v sec n i p o = some (.inr (j, p', q))) : ∃ k j1 p1 C1 e1 j2 t C2 e2, p_kind sec (c i) = some k ∧ p_sum0 c v sec n k (i + 1) p o = some (.inr (j1, p1, C1, e1)) ∧ p_times c v sec j1 = .inr (j2, t) ∧ p_test c v sec n j2 p1 (o + C1.length) = some (.inr (j, p', C2, e2)) ∧ q = (k, t, C1, C2, e1, e2) := by
  unfold p_clause at h
  split at h
  · cases h
  · rename_i k hk
    split at h
    · cases h
    · cases h
    · rename_i j1 p1 C1 e1 h1
      split at h
      · cases h
      · rename_i j2 t h2
        split at h
        · cases h
        · cases h
        · rename_i j3 p3 C2 e2 h3
          cases h
          exact ⟨k, j1, p1, C1, e1, j2, t, C2, e2, hk, h1, h2, h3, rfl⟩
theorem p_kind_n {sec : Bool} {x k : Nat} (h : p_kind sec x = some k) : x ≠ 0 ∧ k ≤ 3 ∧ (sec = false → k ≤ 2 ∧ x = k + 1) ∧ (sec = true → x = 20 + k) := by
  unfold p_kind at h
  repeat' (split at h)
  all_goals (cases h <;> simp_all)
/-- a piece of a clause: nothing (told: 1), or what was read so -/
def pcX (c v : Nat → Nat) (sec : Bool) (size m o : Nat) (C : List Nat) (e : pE → Option Int) : Prop := (C = [] ∧ e = fun _ => some 1) ∨ ∃ n i p j p', pP c v sec n m 0 i p o 0 [] p_e0 = some (.inr (j, p', C, e)) ∧ i ≤ size ∧ p ≤ 50
def pcK (c v : Nat → Nat) (sec : Bool) (size : Nat) : Nat → List pC → Prop
  | _, [] => True
  | o, q :: qs => pcX c v sec size 2 o q.2.2.1 q.2.2.2.2.1 ∧ pcX c v sec size 5 (o + q.2.2.1.length) q.2.2.2.1 q.2.2.2.2.2 ∧ pcK c v sec size (o + q.2.2.1.length + q.2.2.2.1.length) qs
/-- the pieces of a clause, with bounds -/
theorem pc_ok {c v : Nat → Nat} {sec : Bool} {size n i p o j p' : Nat} {q : pC} (hc : ∀ i, size ≤ i → c i = 0) (hi : i ≤ size) (hp : p ≤ 50) (h : p_clause c v sec n i p o = some (.inr (j, p', q))) : i + 1 ≤ j ∧ j ≤ size ∧ p' ≤ 50 ∧ pcX c v sec size 2 o q.2.2.1 q.2.2.2.2.1 ∧ pcX c v sec size 5 (o + q.2.2.1.length) q.2.2.2.1 q.2.2.2.2.2 ∧ q.2.2.1.length + q.2.2.2.1.length + i ≤ j := by
  obtain ⟨k, j1, p1, C1, e1, j2, t, C2, e2, hk, h1, h2, h3, rfl⟩ := pc_inv h
  have hsz : ∀ {k}, c k ≠ 0 → k < size := fun {k} hk => by
    by_cases x : size ≤ k
    · exact absurd (hc k x) hk
    · omega
  have hlt := hsz (k := i) (p_kind_n hk).1
  have s1 : i + 1 ≤ j1 ∧ j1 ≤ size ∧ p1 ≤ 50 ∧ pcX c v sec size 2 o C1 e1 ∧ C1.length + (i + 1) ≤ j1 := by
    unfold p_sum0 at h1
    split at h1
    · obtain ⟨g1, g2, g3, g4, g5, g6, g7, g8, g9, g10⟩ := p_inv (E := fun _ => 0) hc (fun _ => by omega) _ _ _ _ _ _ _ _ _ _ _ _ _ h1 (by omega) (by omega) (by omega) hp (fun h => by omega)
      exact ⟨g1, g2, g3, Or.inr ⟨_, _, _, _, _, h1, by omega, hp⟩, g6 (by omega) (by omega)⟩
    · cases h1
      exact ⟨by omega, by omega, hp, Or.inl ⟨rfl, rfl⟩, by show 0 + _ ≤ _; omega⟩
  obtain ⟨a1, a2, a3, a4, a5⟩ := s1
  have s2 : j1 ≤ j2 ∧ j2 ≤ size := by
    unfold p_times at h2
    split at h2
    · split at h2
      · rename_i c1 c2
        cases h2
        have := hsz (k := j1 + 1) (by omega)
        omega
      · cases h2
    · cases h2
      omega
  unfold p_test at h3
  split at h3
  · rename_i c4
    have := hsz (k := j2) (by omega)
    obtain ⟨g1, g2, g3, g4, g5, g6, g7, g8, g9, g10⟩ := p_inv (E := fun _ => 0) hc (fun _ => by omega) _ _ _ _ _ _ _ _ _ _ _ _ _ h3 (by omega) (by omega) (by omega) a3 (fun h => by omega)
    have g6 := g6 (by omega) (by omega)
    exact ⟨by omega, g2, g3, a4, Or.inr ⟨_, _, _, _, _, h3, by omega, a3⟩, by show C1.length + C2.length + i ≤ j; omega⟩
  · cases h3
    exact ⟨by omega, by omega, a3, a4, Or.inl ⟨rfl, rfl⟩, by show C1.length + 0 + i ≤ _; omega⟩
theorem pt_inv {c v : Nat → Nat} {sec : Bool} {n size m i p o : Nat} {cs : List pC} (h : p_text c v sec n size (m + 1) i p o = some (.inr cs)) : ∃ j p' q, p_clause c v sec n i p o = some (.inr (j, p', q)) ∧ ((c j = 159 ∧ ∃ qs, p_text c v sec n size m (j + 1) p' (o + q.2.2.1.length + q.2.2.2.1.length) = some (.inr qs) ∧ cs = q :: qs) ∨ (c j ≠ 159 ∧ j = size ∧ cs = [q])) := by
  rw [p_text] at h
  split at h
  · cases h
  · cases h
  · rename_i j p' q hq
    refine ⟨j, p', q, hq, ?_⟩
    split at h
    · rename_i c1
      split at h
      · cases h
      · cases h
      · rename_i qs h2
        cases h
        exact Or.inl ⟨c1, qs, h2, rfl⟩
    · rename_i c1
      split at h
      · rename_i c2
        cases h
        exact Or.inr ⟨c1, c2, rfl⟩
      · cases h
theorem pt_ok {c v : Nat → Nat} {sec : Bool} {n size : Nat} (hc : ∀ i, size ≤ i → c i = 0) : ∀ (m i p o : Nat) (cs : List pC), i ≤ size → p ≤ 50 → p_text c v sec n size m i p o = some (.inr cs) → pcK c v sec size o cs ∧ cs.length ≤ m ∧ (p_code cs).length + i ≤ size ∧ cs ≠ [] := by
  intro m
  induction m with
  | zero => intro i p o cs _ _ h; cases h
  | succ m ih =>
    intro i p o cs hi hp h
    obtain ⟨j, p', q, h1, h2⟩ := pt_inv h
    obtain ⟨b1, b2, b3, b4, b5, b6⟩ := pc_ok hc hi hp h1
    rcases h2 with ⟨c1, qs, h2, rfl⟩ | ⟨c1, c2, rfl⟩
    · have : j < size := by
        by_cases x : size ≤ j
        · rw [hc j x] at c1; omega
        · omega
      obtain ⟨d1, d2, d3, d4⟩ := ih _ _ _ _ (by omega) b3 h2
      refine ⟨⟨b4, b5, d1⟩, by rw [List.length_cons]; omega, ?_, by simp⟩
      show ((q.2.2.1 ++ q.2.2.2.1) ++ p_code qs).length + i ≤ size
      rw [List.length_append, List.length_append]
      omega
    · refine ⟨⟨b4, b5, trivial⟩, by rw [List.length_singleton]; omega, ?_, by simp⟩
      show ((q.2.2.1 ++ q.2.2.2.1) ++ []).length + i ≤ size
      rw [List.append_nil, List.length_append]
      omega
/-- what the last clause of a kind that holds tells -/
def lwS (E : pE) (k : Nat) (q : pC) (r : Option Int) : Option Int := if q.1 = k ∧ q.2.2.2.2.2 E = some 1 then (match q.2.2.2.2.1 E with | some s => some s | none => r) else r
def lwT (E : pE) (k : Nat) : List pC → Option Int → Option Int
  | [], r => r
  | q :: qs, r => lwT E k qs (lwS E k q r)
theorem lwT_app {E : pE} {k : Nat} : ∀ (l l2 : List pC) (r : Option Int), lwT E k (l ++ l2) r = lwT E k l2 (lwT E k l r)
  | [], _, _ => rfl
  | q :: qs, l2, r => lwT_app qs l2 (lwS E k q r)
theorem pcX_rg {c v : Nat → Nat} {sec : Bool} {size m o : Nat} {C : List Nat} {e : pE → Option Int} {E : pE} (hm : m = 2 ∨ m = 5) (hc : ∀ i, size ≤ i → c i = 0) (hE : ∀ w, -2147483648 ≤ E w ∧ E w < 2147483648) (h : pcX c v sec size m o C e) : p_num (e E) ∧ (m = 5 → p_tst (e E)) := by
  rcases h with ⟨h1, h2⟩ | ⟨n, i, p, j, p', h1, h2, h3⟩
  · subst h2
    exact ⟨fun y hy => by cases hy; omega, fun _ y hy => by cases hy; exact Or.inr rfl⟩
  · obtain ⟨g1, g2, g3, g4, g5, g6, g7, g8, g9, g10⟩ := p_inv hc hE _ _ _ _ _ _ _ _ _ _ _ _ _ h1 (by omega) (by omega) h2 h3 (fun h => by omega)
    exact ⟨p_rg_num g10, fun e5 => by subst e5; exact g10⟩
theorem lwT_rg {c v : Nat → Nat} {sec : Bool} {size : Nat} {E : pE} {k : Nat} (hc : ∀ i, size ≤ i → c i = 0) (hE : ∀ w, -2147483648 ≤ E w ∧ E w < 2147483648) : ∀ (cs : List pC) (o : Nat) (r : Option Int), pcK c v sec size o cs → p_num r → p_num (lwT E k cs r)
  | [], _, _, _, h => h
  | q :: qs, o, r, hk, h => by
    refine lwT_rg hc hE qs _ (lwS E k q r) hk.2.2 ?_
    unfold lwS
    split
    · split
      · rename_i s hs
        intro y hy
        cases hy
        exact (pcX_rg (Or.inl rfl) hc hE hk.1).1 s hs
      · exact h
    · exact h
theorem pcK_at {c v : Nat → Nat} {sec : Bool} {size : Nat} {q : pC} {r : List pC} : ∀ (l : List pC) (o : Nat), pcK c v sec size o (l ++ q :: r) → pcX c v sec size 2 (o + (p_code l).length) q.2.2.1 q.2.2.2.2.1 ∧ pcX c v sec size 5 (o + (p_code l).length + q.2.2.1.length) q.2.2.2.1 q.2.2.2.2.2
  | [], _, h => ⟨h.1, h.2.1⟩
  | a :: l, o, h => by
    have := pcK_at l _ h.2.2
    have e : (p_code (a :: l)).length = a.2.2.1.length + a.2.2.2.1.length + (p_code l).length := by
      show ((a.2.2.1 ++ a.2.2.2.1) ++ p_code l).length = _
      rw [List.length_append, List.length_append]
    rw [e, show o + (a.2.2.1.length + a.2.2.2.1.length + (p_code l).length) = o + a.2.2.1.length + a.2.2.2.1.length + (p_code l).length by omega]
    exact this
theorem heads_at {hd : Nat → Int32} {q : pC} {r : List pC} : ∀ (l : List pC) (j o : Nat), p_heads hd j o (l ++ q :: r) → hd (5 * (j + l.length)) = iI (q.1 : Int) ∧ hd (5 * (j + l.length) + 1) = iI (q.2.1 : Int) ∧ hd (5 * (j + l.length) + 2) = iI ((o + (p_code l).length : Nat) : Int) ∧ hd (5 * (j + l.length) + 3) = iI ((o + (p_code l).length + q.2.2.1.length : Nat) : Int) ∧ hd (5 * (j + l.length) + 4) = iI ((o + (p_code l).length + q.2.2.1.length + q.2.2.2.1.length : Nat) : Int)
  | [], _, _, h => ⟨h.1, h.2.1, h.2.2.1, h.2.2.2.1, h.2.2.2.2.1⟩
  | a :: l, j, o, h => by
    have := heads_at l _ _ h.2.2.2.2.2
    have e : (p_code (a :: l)).length = a.2.2.1.length + a.2.2.2.1.length + (p_code l).length := by
      show ((a.2.2.1 ++ a.2.2.2.1) ++ p_code l).length = _
      rw [List.length_append, List.length_append]
    rw [e, List.length_cons, show j + (l.length + 1) = j + 1 + l.length by omega, show o + (a.2.2.1.length + a.2.2.2.1.length + (p_code l).length) = o + a.2.2.1.length + a.2.2.2.1.length + (p_code l).length by omega]
    exact this
theorem code_at {q : pC} {r l : List pC} {k x : Nat} : (q.2.2.1[k]? = some x → (p_code (l ++ q :: r))[(p_code l).length + k]? = some x) ∧ (q.2.2.2.1[k]? = some x → (p_code (l ++ q :: r))[(p_code l).length + q.2.2.1.length + k]? = some x) := by
  have e : p_code (l ++ q :: r) = p_code l ++ ((q.2.2.1 ++ q.2.2.2.1) ++ p_code r) := by
    unfold p_code
    rw [List.flatMap_append, List.flatMap_cons]
  rw [e]
  refine ⟨fun h => get_r (get_app (get_app h)), fun h => ?_⟩
  rw [Nat.add_assoc]
  exact get_r (get_app (get_r h))
theorem code_len {q : pC} {r l : List pC} : (p_code l).length + q.2.2.1.length + q.2.2.2.1.length ≤ (p_code (l ++ q :: r)).length := by
  have e : p_code (l ++ q :: r) = p_code l ++ ((q.2.2.1 ++ q.2.2.2.1) ++ p_code r) := by
    unfold p_code
    rw [List.flatMap_append, List.flatMap_cons]
  rw [e]
  simp only [List.length_append]
  omega
/-- a Text in tx that holds these clauses -/
def lwX (tx : mm_W) (o : Nat) (cs : List pC) : Prop := ∃ (tt tc th : Nat) (ac ah : Nat → Int32), o = tt + 100 ∧ tx[tt]? = some (.inr (6, [.int (iI (cs.length : Int)), .int (iI ((p_code cs).length : Int)), .ref (tc + 100), .ref (th + 100)])) ∧ tx[tc]? = some (.inl (0, (p_code cs).length, .inl ac)) ∧ tx[th]? = some (.inl (0, 5 * cs.length, .inl ah)) ∧ p_heads ah 0 0 cs ∧ (∀ (k x : Nat), (p_code cs)[k]? = some x → ac k = iI (x : Int))
theorem c_head_L {X : mm_X} {d : Nat} {f : Nat → Int32} {fl : Nat → Int64} {g : Nat → Nat → Int32} {gl : Nat → Nat → Int64} {hh : Nat → Nat → Option Nat} {v : Nat → Value} {tx : mm_W} {P : Option Value → mm_W → Prop} {tt tc th : Nat} {nc nz : Int32} {kh m what : Nat} {ah : Nat → Int32} (eT : tx[tt]? = some (.inr (6, [.int nc, .int nz, .ref (tc + 100), .ref (th + 100)]))) (eH : tx[th]? = some (.inl (0, kh, .inl ah))) (hk : kh ≤ 60) (hm : 5 * m + what < kh) (h : P (some (.int (ah (5 * m + what)))) (Wd f fl g gl hh v tx)) : WP X d 56 (0, [some (.ref (tt + 100)), some (.int (iI m)), some (.int (iI what)), none], [], Wd f fl g gl hh v tx) P := by
  refine b_yte_head_L_0 (eT := eT) (eH := eH) (h := ?_) ..
  rw [show Int32.ofNat kh = iI kh from z_nI kh]
  have e : iI (m : Int) * (5 : Int32) + iI (what : Int) = iI ((5 * m + what : Nat) : Int) := by
    rw [show (5 : Int32) = iI 5 from rfl, z_mul, z_add]
    congr 1
    omega
  rw [e]
  simp (disch := omega) only [z_lit, z_litl, z_neg, z_negl, z_add, z_sub, z_mul, z_addl, z_subl, z_mull, z_cc, z_cl, z_cr, z_cm, z_cml, z_cmr, z_lt, z_le, z_eq, z_ltl, z_lel, z_eql, z_nat, z_i2l, z_l2i, z_div, z_sh, Int.toNat_natCast, z_ts, z_tsl]
  exact ⟨fun c => by omega, fun _ => ⟨fun c => by omega, fun _ => ⟨by omega, h⟩⟩⟩
/-- the machine tells of a piece of a clause -/
theorem c_value_L {X : mm_X} {d : Nat} {f : Nat → Int32} {fl : Nat → Int64} {g : Nat → Nat → Int32} {gl : Nat → Nat → Int64} {hh : Nat → Nat → Option Nat} {v : Nat → Value} {tx : mm_W} {P : Option Value → mm_W → Prop} {tt tc th kc kh : Nat} {nc nz : Int32} {ac ah : Nat → Int32} (eT : tx[tt]? = some (.inr (6, [.int nc, .int nz, .ref (tc + 100), .ref (th + 100)]))) (eC : tx[tc]? = some (.inl (0, kc, .inl ac))) (eH : tx[th]? = some (.inl (0, kh, .inl ah))) {E : pE} {c cv : Nat → Nat} {size m what o mode : Nat} {C : List Nat} {e : pE → Option Int} (hE : ∀ w, -2147483648 ≤ E w ∧ E w < 2147483648) (hW : ∀ w, w < 8 → g 41 w = iI (E w)) (hc0 : ∀ i, size ≤ i → c i = 0) (hmode : mode = 2 ∨ mode = 5) (hX : pcX c cv false size mode o C e) (hkh : kh ≤ 60) (hkc : kc ≤ 400) (hm : 5 * m + what + 1 < kh) (hh1 : ah (5 * m + what) = iI (o : Int)) (hh2 : ah (5 * m + what + 1) = iI ((o + C.length : Nat) : Int)) (hlen : o + C.length ≤ kc) (hcode : ∀ k x, C[k]? = some x → ac (o + k) = iI ((x : Nat) : Int))
    (hS : ∀ y st, e E = some y → P (some (.long (lI y))) (Wd f fl g (va_up gl 40 st) hh v tx)) (hN : ∀ st, e E = none → P (some (.long (-4000000000000000000))) (Wd f fl g (va_up gl 40 st) hh v tx)) : WP X (d + 2) 30 (0, [some (.ref 39), some (.ref (tt + 100)), some (.int (iI m)), some (.int (iI what)), some (.ref 41), none, none, none, none, none, none, none, none], [], Wd f fl g gl hh v tx) P := by
  refine b_yma_value_L_0 (eT := eT) (h := ?_) ..
  refine c_head_L (kh := kh) eT eH hkh (by omega) ?_
  rw [hh1]
  refine b_yma_value_L_6 (eT := eT) (h := ?_) ..
  rw [show iI (what : Int) + (1 : Int32) = iI ((what + 1 : Nat) : Int) by simp (disch := omega) only [z_lit, z_litl, z_neg, z_negl, z_add, z_sub, z_mul, z_addl, z_subl, z_mull, z_cc, z_cl, z_cr, z_cm, z_cml, z_cmr, z_lt, z_le, z_eq, z_ltl, z_lel, z_eql, z_nat, z_i2l, z_l2i, z_div, z_sh, Int.toNat_natCast, z_ts, z_tsl]]
  refine c_head_L (kh := kh) eT eH hkh (by omega) ?_
  rw [show 5 * m + (what + 1) = 5 * m + what + 1 by omega, hh2]
  refine b_yma_value_L_16 (eT := eT) (eC := eC) (h := ?_) ..
  rw [show Int32.ofNat kc = iI kc from z_nI kc]
  have emin : (if iI (kc : Int) < iI ((o + C.length : Nat) : Int) then iI (kc : Int) else iI ((o + C.length : Nat) : Int)) = iI ((o + C.length : Nat) : Int) := by
    rw [if_neg (by simp (disch := omega) only [z_lit, z_litl, z_neg, z_negl, z_add, z_sub, z_mul, z_addl, z_subl, z_mull, z_cc, z_cl, z_cr, z_cm, z_cml, z_cmr, z_lt, z_le, z_eq, z_ltl, z_lel, z_eql, z_nat, z_i2l, z_l2i, z_div, z_sh, Int.toNat_natCast, z_ts, z_tsl]; omega)]
  rw [emin]
  have g40 : va_up gl 40 (gl 40) = gl := va_id rfl
  rcases hX with ⟨rfl, rfl⟩ | ⟨n, i, p, j, p', h1, h2, h3⟩
  · simp (disch := omega) only [z_lit, z_litl, z_neg, z_negl, z_add, z_sub, z_mul, z_addl, z_subl, z_mull, z_cc, z_cl, z_cr, z_cm, z_cml, z_cmr, z_lt, z_le, z_eq, z_ltl, z_lel, z_eql, z_nat, z_i2l, z_l2i, z_div, z_sh, Int.toNat_natCast, z_ts, z_tsl]
    refine ⟨fun c => by omega, fun _ => ⟨fun c => absurd c (by show ¬ ((o : Int) < ((o + 0 : Nat) : Int)); omega), fun _ => ?_⟩⟩
    have := hS 1 (gl 40) rfl
    rw [g40] at this
    exact this
  · have hpos := (p_pos _ _ _ _ _ _ _ _ _ _ _ _ _ h1 (by omega)).1 (by omega)
    have run : WP X (d + 1 + 1) 30 (47, [some (.ref 39), some (.ref (tt + 100)), none, none, some (.ref 41), none, some (.int (iI ((o + C.length : Nat) : Int))), some (.int (iI ((0 : Nat) : Int))), some (.int (iI ((o : Nat) : Int))), none, none, none, none], [], Wd f fl g (va_up gl 40 (gl 40)) hh v tx) P := by
      have fin : ∀ y st', e E = some y → (∀ k, k < 0 → st' k = gl 40 k) → st' 0 = lI y → WP X (d + 1 + 1) 30 (47, [some (.ref 39), some (.ref (tt + 100)), none, none, some (.ref 41), none, some (.int (iI ((o + C.length : Nat) : Int))), some (.int (iI ((0 + 1 : Nat) : Int))), some (.int (iI ((o + C.length : Nat) : Int))), none, none, none, none], [], Wd f fl g (va_up gl 40 st') hh v tx) P := by
        intro y st' hy _ hst
        refine b_yma_value_L_47 (eT := eT) (eC := eC) (h := ?_) ..
        rw [show va_up gl 40 st' 40 = st' from va_s, hst]
        refine ⟨fun _ => ⟨fun c => absurd rfl c, fun _ => hS y st' hy⟩, fun c => absurd (Int32.le_refl _) c⟩
      rcases hmode with rfl | rfl
      · exact xc_allL eT eC hE hW hc0 n _ _ _ _ _ _ _ _ _ _ _ _ h1 (by omega) (by omega) h2 h3 (fun h => by omega) 0 (o + C.length) (gl 40) (d + 1) P (by omega) (by omega) hlen (by omega) hcode fin hN
      · exact xc_allL eT eC hE hW hc0 n _ _ _ _ _ _ _ _ _ _ _ _ h1 (by omega) (by omega) h2 h3 (fun h => by omega) 0 (o + C.length) (gl 40) (d + 1) P (by omega) (by omega) hlen (by omega) hcode fin hN
    rw [g40] at run
    simp (disch := omega) only [z_lit, z_litl, z_neg, z_negl, z_add, z_sub, z_mul, z_addl, z_subl, z_mull, z_cc, z_cl, z_cr, z_cm, z_cml, z_cmr, z_lt, z_le, z_eq, z_ltl, z_lel, z_eql, z_nat, z_i2l, z_l2i, z_div, z_sh, Int.toNat_natCast, z_ts, z_tsl]
    refine ⟨fun c => by omega, fun _ => ⟨fun _ => run, fun c => absurd (by omega) c⟩⟩
/-- what the captain's law tells -/
def tld (r : Option Int) : Int64 := match r with | some s => lI s | none => -4000000000000000000
theorem c_tells_L {X : mm_X} {d : Nat} {f : Nat → Int32} {fl : Nat → Int64} {g : Nat → Nat → Int32} {gl : Nat → Nat → Int64} {hh : Nat → Nat → Option Nat} {v : Nat → Value} {tx : mm_W} {P : Option Value → mm_W → Prop} {tt tc th : Nat} {ac ah : Nat → Int32} {cs : List pC} (hv : v 2439 = .ref (tt + 100)) (eT : tx[tt]? = some (.inr (6, [.int (iI (cs.length : Int)), .int (iI ((p_code cs).length : Int)), .ref (tc + 100), .ref (th + 100)]))) (eC : tx[tc]? = some (.inl (0, (p_code cs).length, .inl ac))) (eH : tx[th]? = some (.inl (0, 5 * cs.length, .inl ah))) (hhd : p_heads ah 0 0 cs) (hcd : ∀ (k x : Nat), (p_code cs)[k]? = some x → ac k = iI (x : Int)) {c cv : Nat → Nat} {size : Nat} (hc0 : ∀ i, size ≤ i → c i = 0) (hpk : pcK c cv false size 0 cs) (hkd : ∀ q, q ∈ cs → q.1 ≤ 3) (h12 : cs.length ≤ 12) (h400 : (p_code cs).length ≤ 400)
    {E : pE} {k : Nat} {sp : Nat} (hk : k ≤ 2) (hE : ∀ w, -2147483648 ≤ E w ∧ E w < 2147483648) (hW : ∀ w, w < 8 → w ≠ 3 → w ≠ 4 → w ≠ 5 → g 41 w = iI (E w)) (hsp : f 2440 = iI (sp : Int)) (hsp2 : sp < 1000) (h4 : E 4 = (sp / 40 : Nat)) (h5 : E 5 = (sp % 10 : Nat))
    (h : ∀ (a : Nat → Int32) st, (∀ w, w ≠ 3 → w ≠ 4 → w ≠ 5 → a w = g 41 w) → P (some (.long (tld (lwT E k cs none)))) (Wd f fl (va_up g 41 a) (va_up gl 40 st) hh v tx)) : WP X (d + 3) 6 (0, [some (.ref 38), some (.int (iI k)), some (.int (iI (E 3))), none, none, none], [], Wd f fl g gl hh v tx) P := by
  have e4 : f 2440 / (40 : Int32) = iI (E 4) := by
    rw [hsp, h4]
    simp (disch := omega) only [z_lit, z_litl, z_neg, z_negl, z_add, z_sub, z_mul, z_addl, z_subl, z_mull, z_cc, z_cl, z_cr, z_cm, z_cml, z_cmr, z_lt, z_le, z_eq, z_ltl, z_lel, z_eql, z_nat, z_i2l, z_l2i, z_div, z_sh, Int.toNat_natCast, z_ts, z_tsl]
    congr 1
  have e5 : f 2440 - f 2440 / (10 : Int32) * (10 : Int32) = iI (E 5) := by
    rw [hsp, h5]
    simp (disch := omega) only [z_lit, z_litl, z_neg, z_negl, z_add, z_sub, z_mul, z_addl, z_subl, z_mull, z_cc, z_cl, z_cr, z_cm, z_cml, z_cmr, z_lt, z_le, z_eq, z_ltl, z_lel, z_eql, z_nat, z_i2l, z_l2i, z_div, z_sh, Int.toNat_natCast, z_ts, z_tsl]
    congr 1
    omega
  refine b_yca_lawTells_L_0 (eT := eT) (e0 := hv) (h := ?_) ..
  rw [e4, e5, va_tw, va_tw]
  obtain ⟨A, hA⟩ : ∃ A, A = upd (upd (upd (g 41) 3 (iI (E 3))) 4 (iI (E 4))) 5 (iI (E 5)) := ⟨_, rfl⟩
  rw [← hA]
  have hA1 : ∀ w, w ≠ 3 → w ≠ 4 → w ≠ 5 → A w = g 41 w := fun w a b c => by rw [hA, upd_ne c, upd_ne b, upd_ne a]
  have hA2 : ∀ w, w < 8 → A w = iI (E w) := by
    intro w hw
    by_cases x5 : w = 5
    · rw [hA, x5, upd_s]
    · by_cases x4 : w = 4
      · rw [hA, x4, upd_ne (by omega), upd_s]
      · by_cases x3 : w = 3
        · rw [hA, x3, upd_ne (by omega), upd_ne (by omega), upd_s]
        · rw [hA1 w x3 x4 x5]; exact hW w hw x3 x4 x5
  have hW' : ∀ w, w < 8 → va_up g 41 A 41 w = iI (E w) := fun w hw => by rw [va_s]; exact hA2 w hw
  have key : ∀ (n : Nat) (l r : List pC) (st : Nat → Int64), l.length = n → cs = l ++ r → lwT E k cs none = lwT E k cs none → (lwT E k l none = lwT E k cs none) → WP X (d + 3) 6 (54, [some (.ref 38), some (.int (iI k)), none, some (.int (iI ((n : Int) - 1))), none, none], [], Wd f fl (va_up g 41 A) (va_up gl 40 st) hh v tx) P := by
    intro n
    induction n with
    | zero =>
      intro l r st hl hcs _ he
      have hl0 : l = [] := List.length_eq_zero_iff.mp hl
      subst hl0
      refine b_yca_lawTells_L_54 (eT := eT) (e0 := hv) (h := ?_) ..
      refine ⟨fun _ => ?_, fun c => absurd (by simp (disch := omega) only [z_lit, z_litl, z_neg, z_negl, z_add, z_sub, z_mul, z_addl, z_subl, z_mull, z_cc, z_cl, z_cr, z_cm, z_cml, z_cmr, z_lt, z_le, z_eq, z_ltl, z_lel, z_eql, z_nat, z_i2l, z_l2i, z_div, z_sh, Int.toNat_natCast, z_ts, z_tsl]; omega) c⟩
      have := h A st hA1
      rw [← he] at this
      exact this
    | succ n ih =>
      intro l r st hl hcs _ he
      have hne : l ≠ [] := fun h0 => by rw [h0] at hl; cases hl
      obtain ⟨l', q, hlq⟩ : ∃ l' q, l = l' ++ [q] := ⟨l.dropLast, l.getLast hne, (List.dropLast_concat_getLast hne).symm⟩
      have hl' : l'.length = n := by rw [hlq, List.length_append, List.length_singleton] at hl; omega
      have hcs2 : cs = l' ++ q :: r := by rw [hcs, hlq, List.append_assoc]; rfl
      have hcl : cs.length = l'.length + r.length + 1 := by rw [hcs2, List.length_append, List.length_cons]; omega
      rw [hlq, lwT_app] at he
      have he : lwS E k q (lwT E k l' none) = lwT E k cs none := he
      have hd2 := hhd
      rw [hcs2] at hd2
      obtain ⟨q1, q2, q3, q4, q5⟩ := heads_at l' 0 0 hd2
      rw [Nat.zero_add, hl'] at q1 q3 q4 q5
      rw [Nat.zero_add] at q3 q4 q5
      have hp2 := hpk
      rw [hcs2] at hp2
      obtain ⟨x1, x2⟩ := pcK_at l' 0 hp2
      rw [Nat.zero_add] at x1 x2
      have hcl2 := code_len (q := q) (r := r) (l := l')
      rw [← hcs2] at hcl2
      have r1 := pcX_rg (Or.inl rfl) hc0 hE x1
      have r2 := (pcX_rg (Or.inr rfl) hc0 hE x2).2 rfl
      have skip : ∀ st, lwT E k l' none = lwT E k cs none → WP X (d + 3) 6 (54, [some (.ref 38), some (.int (iI k)), none, some (.int (iI (((n + 1 : Nat) : Int) - 1) + (-1 : Int32))), none, none], [], Wd f fl (va_up g 41 A) (va_up gl 40 st) hh v tx) P := by
        intro st hsk
        have := ih l' (q :: r) st hl' hcs2 rfl hsk
        rw [show iI (((n + 1 : Nat) : Int) - 1) + (-1 : Int32) = iI ((n : Int) - 1) by rw [show (-1 : Int32) = iI (-1) from rfl, z_add]; congr 1; omega]
        exact this
      have en : iI (((n + 1 : Nat) : Int) - 1) = iI (n : Int) := by congr 1; omega
      refine b_yca_lawTells_L_54 (eT := eT) (e0 := hv) (h := ?_) ..
      refine ⟨fun c => by simp (disch := omega) only [z_lit, z_litl, z_neg, z_negl, z_add, z_sub, z_mul, z_addl, z_subl, z_mull, z_cc, z_cl, z_cr, z_cm, z_cml, z_cmr, z_lt, z_le, z_eq, z_ltl, z_lel, z_eql, z_nat, z_i2l, z_l2i, z_div, z_sh, Int.toNat_natCast, z_ts, z_tsl] at c; omega, fun _ => ?_⟩
      rw [en] at skip ⊢
      have skip2 : ∀ st, lwT E k l' none = lwT E k cs none → WP X (d + 3) 6 (54, [some (.ref 38), some (.int (iI k)), none, some (.int (iI ((n : Int) + -1))), none, none], [], Wd f fl (va_up g 41 A) (va_up gl 40 st) hh v tx) P := by
        intro st hsk
        have := skip st hsk
        rw [show (-1 : Int32) = iI (-1) from rfl, z_add] at this
        exact this
      refine c_head_L (kh := 5 * cs.length) (m := n) (what := 0) eT eH (by omega) (by omega) ?_
      rw [show ah (5 * n + 0) = iI (q.1 : Int) from q1]
      refine b_yca_lawTells_L_67 (e0 := hv) (h := ?_) ..
      have hq1 : q.1 < 2147483648 ∨ 2147483648 ≤ q.1 := by omega
      refine ⟨fun c2 => skip st ?_, fun c2 => ?_⟩
      · unfold lwS at he
        rw [if_neg] at he
        · exact he
        · rintro ⟨a, _⟩
          rw [a] at c2
          exact c2 rfl
      · -- the clause is of that kind
        by_cases hkq : q.1 = k
        · refine c_value_L (m := n) (what := 3) (o := (p_code l').length + q.2.2.1.length) (mode := 5) eT eC eH hE hW' hc0 (Or.inr rfl) x2 (by omega) h400 (by omega) q4 q5 (by omega) (fun kk x hx => hcd _ _ (by rw [hcs2]; exact code_at.2 hx)) (fun y st2 hy => ?_) fun st2 hy => ?_
          · have hy2 := r2 y hy
            refine b_yca_lawTells_L_88 (e0 := hv) (h := ?_) ..
            simp (disch := omega) only [z_lit, z_litl, z_neg, z_negl, z_add, z_sub, z_mul, z_addl, z_subl, z_mull, z_cc, z_cl, z_cr, z_cm, z_cml, z_cmr, z_lt, z_le, z_eq, z_ltl, z_lel, z_eql, z_nat, z_i2l, z_l2i, z_div, z_sh, Int.toNat_natCast, z_ts, z_tsl, zc_lt, zc_le, zc_gt, zc_ge, zc_eq]
            rw [va_tw]
            refine ⟨fun c3 => skip2 st2 ?_, fun c3 => ?_⟩
            · unfold lwS at he
              rw [if_neg] at he
              · exact he
              · rintro ⟨_, a⟩
                rw [hy] at a
                cases a
                exact c3 rfl
            · refine c_value_L (m := n) (what := 2) (o := (p_code l').length) (mode := 2) eT eC eH hE hW' hc0 (Or.inl rfl) x1 (by omega) h400 (by omega) q3 q4 (by omega) (fun kk x hx => hcd _ _ (by rw [hcs2]; exact code_at.1 hx)) (fun s st3 hs => ?_) fun st3 hs => ?_
              · have hs2 := r1.1 s hs
                refine b_yca_lawTells_L_110 (h := ?_) ..
                simp (disch := omega) only [z_lit, z_litl, z_neg, z_negl, z_add, z_sub, z_mul, z_addl, z_subl, z_mull, z_cc, z_cl, z_cr, z_cm, z_cml, z_cmr, z_lt, z_le, z_eq, z_ltl, z_lel, z_eql, z_nat, z_i2l, z_l2i, z_div, z_sh, Int.toNat_natCast, z_ts, z_tsl, zc_lt, zc_le, zc_gt, zc_ge, zc_eq]
                rw [va_tw]
                refine ⟨fun c4 => by omega, fun _ => ?_⟩
                unfold lwS at he
                rw [if_pos ⟨hkq, by rw [hy, c3]⟩, hs] at he
                have := h A st3 hA1
                rw [← he] at this
                exact this
              · refine b_yca_lawTells_L_110 (h := ?_) ..
                rw [va_tw]
                refine ⟨fun _ => skip st3 ?_, fun c4 => absurd rfl c4⟩
                unfold lwS at he
                rw [if_pos ⟨hkq, by rw [hy, c3]⟩, hs] at he
                exact he
          · refine b_yca_lawTells_L_88 (e0 := hv) (h := ?_) ..
            rw [va_tw]
            refine ⟨fun _ => skip st2 ?_, fun c4 => absurd c4 (by decide)⟩
            unfold lwS at he
            rw [if_neg] at he
            · exact he
            · rintro ⟨_, a⟩
              rw [hy] at a
              cases a
        · -- never: kinds are below 4
          exact absurd c2 (by
            have : q.1 ≤ 3 := hkd q (by rw [hcs2]; simp)
            simp (disch := omega) only [z_lit, z_litl, z_neg, z_negl, z_add, z_sub, z_mul, z_addl, z_subl, z_mull, z_cc, z_cl, z_cr, z_cm, z_cml, z_cmr, z_lt, z_le, z_eq, z_ltl, z_lel, z_eql, z_nat, z_i2l, z_l2i, z_div, z_sh, Int.toNat_natCast, z_ts, z_tsl]
            omega)
  have := key cs.length cs [] (gl 40) rfl (List.append_nil cs).symm rfl rfl
  rw [va_id (f := gl) rfl] at this
  rw [show iI (cs.length : Int) - (1 : Int32) = iI ((cs.length : Int) - 1) by rw [show (1 : Int32) = iI 1 from rfl, z_sub]]
  exact this
