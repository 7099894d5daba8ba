/-! what is read: bounds, values -/
theorem p_then_r {r : pR} {f : Nat → Nat → List Nat → (pE → Option Int) → pR} {q : pO} (h : p_then r f = some (.inr q)) : ∃ j p C e, r = some (.inr (j, p, C, e)) ∧ f j p C e = some (.inr q) := by
  unfold p_then at h
  split at h
  · cases h
  · cases h
  · exact ⟨_, _, _, _, rfl, h⟩
abbrev pF : Type := Nat → Nat → Nat → Nat → Nat → Nat → List Nat → (pE → Option Int) → pR
abbrev p_e0 : pE → Option Int := fun _ => none
theorem pi0 {c v : Nat → Nat} {sec : Bool} {rec : pF} {deep i p o t : Nat} {C : List Nat} {e : pE → Option Int} {q : pO} (h : pS c v sec rec 0 deep i p o t C e = some (.inr q)) :
    (c i = 191 ∧ deep ≠ 8 ∧ ∃ j p' C' e', rec 2 (deep + 1) (i + 1) p o 0 [] p_e0 = some (.inr (j, p', C', e')) ∧ c j = 193 ∧ q = (j + 1, p', C', e')) ∨
    (c i = 50 ∧ p ≠ 50 ∧ v i ≤ 1000 ∧ q = (i + 1, p + 1, [v i], fun _ => some (v i : Int))) ∨
    (∃ w, c i ≠ 191 ∧ c i ≠ 50 ∧ p ≠ 50 ∧ p_word sec (c i) = some w ∧ sec = true ∧ 5 ≤ w ∧ c (i + 1) = 50 ∧ v (i + 1) ≤ 2 ∧ q = (i + 2, p + 1, [4096 + (w + v (i + 1))], fun E => some (E (w + v (i + 1))))) ∨
    (∃ w, c i ≠ 191 ∧ c i ≠ 50 ∧ p ≠ 50 ∧ p_word sec (c i) = some w ∧ ¬ (sec = true ∧ 5 ≤ w) ∧ q = (i + 1, p + 1, [4096 + w], fun E => some (E w))) := by
  simp only [pS] at h
  split at h
  · rename_i c1
    split at h
    · cases h
    · rename_i c2
      obtain ⟨j, p', C', e', h1, h2⟩ := p_then_r h
      split at h2
      · rename_i c3
        cases h2
        exact Or.inl ⟨c1, c2, j, p', C', e', h1, c3, rfl⟩
      · cases h2
  · rename_i c1
    split at h
    · cases h
    · rename_i c2
      split at h
      · rename_i c3
        split at h
        · rename_i c4
          cases h
          exact Or.inr (Or.inl ⟨c3, c2, c4, rfl⟩)
        · cases h
      · rename_i c3
        split at h
        · cases h
        · rename_i w hw
          split at h
          · rename_i c4
            split at h
            · rename_i c5
              cases h
              exact Or.inr (Or.inr (Or.inl ⟨w, c1, c3, c2, hw, c4.1, c4.2, c5.1, c5.2, rfl⟩))
            · cases h
          · rename_i c4
            cases h
            exact Or.inr (Or.inr (Or.inr ⟨w, c1, c3, c2, hw, c4, rfl⟩))
theorem pi1 {c v : Nat → Nat} {sec : Bool} {rec : pF} {deep i p o t : Nat} {C : List Nat} {e : pE → Option Int} {q : pO} (h : pS c v sec rec 1 deep i p o t C e = some (.inr q)) : ∃ j p' C' e', rec 0 deep i p o 0 [] p_e0 = some (.inr (j, p', C', e')) ∧ rec 6 deep j p' o 0 C' e' = some (.inr q) := p_then_r h
theorem pi2 {c v : Nat → Nat} {sec : Bool} {rec : pF} {deep i p o t : Nat} {C : List Nat} {e : pE → Option Int} {q : pO} (h : pS c v sec rec 2 deep i p o t C e = some (.inr q)) : ∃ j p' C' e', rec 1 deep i p o 0 [] p_e0 = some (.inr (j, p', C', e')) ∧ rec 7 deep j p' o 0 C' e' = some (.inr q) := p_then_r h
theorem pi4 {c v : Nat → Nat} {sec : Bool} {rec : pF} {deep i p o t : Nat} {C : List Nat} {e : pE → Option Int} {q : pO} (h : pS c v sec rec 4 deep i p o t C e = some (.inr q)) : ∃ j p' C' e', rec 3 deep i p o 0 [] p_e0 = some (.inr (j, p', C', e')) ∧ rec 8 deep j p' o 0 C' e' = some (.inr q) := p_then_r h
theorem pi5 {c v : Nat → Nat} {sec : Bool} {rec : pF} {deep i p o t : Nat} {C : List Nat} {e : pE → Option Int} {q : pO} (h : pS c v sec rec 5 deep i p o t C e = some (.inr q)) : ∃ j p' C' e', rec 4 deep i p o 0 [] p_e0 = some (.inr (j, p', C', e')) ∧ rec 9 deep j p' o 0 C' e' = some (.inr q) := p_then_r h
theorem pi3 {c v : Nat → Nat} {sec : Bool} {rec : pF} {deep i p o t : Nat} {C : List Nat} {e : pE → Option Int} {q : pO} (h : pS c v sec rec 3 deep i p o t C e = some (.inr q)) :
    (c i = 7 ∧ rec 3 deep (i + 1) p o (1 - t) [] p_e0 = some (.inr q)) ∨
    (c i ≠ 7 ∧ c i = 140 ∧ deep ≠ 8 ∧ ∃ j p' C' e', rec 5 (deep + 1) (i + 1) p o 0 [] p_e0 = some (.inr (j, p', C', e')) ∧ c j = 141 ∧ q = (j + 1, p', (if t = 1 then C' ++ [10 * 4096] else C'), (if t = 1 then p_not e' else e'))) ∨
    (c i ≠ 7 ∧ c i ≠ 140 ∧ ∃ j p' C' e' op j2 p2 C2 e2, rec 2 deep i p o 0 [] p_e0 = some (.inr (j, p', C', e')) ∧ p_cmp (c j) = some op ∧ rec 2 deep (j + 1) p' (o + C'.length) 0 [] p_e0 = some (.inr (j2, p2, C2, e2)) ∧ q = (j2, p2, (if t = 1 then C' ++ C2 ++ [op * 4096] ++ [10 * 4096] else C' ++ C2 ++ [op * 4096]), (if t = 1 then p_not (p_bin op e' e2) else p_bin op e' e2))) := by
  simp only [pS] at h
  split at h
  · rename_i c1
    exact Or.inl ⟨c1, h⟩
  · rename_i c1
    split at h
    · rename_i c2
      split at h
      · cases h
      · rename_i c3
        obtain ⟨j, p', C', e', h1, h2⟩ := p_then_r h
        split at h2
        · rename_i c4
          cases h2
          exact Or.inr (Or.inl ⟨c1, c2, c3, j, p', C', e', h1, c4, rfl⟩)
        · cases h2
    · rename_i c2
      obtain ⟨j, p', C', e', h1, h2⟩ := p_then_r h
      split at h2
      · cases h2
      · rename_i op hop
        obtain ⟨j2, p2, C2, e2, h3, h4⟩ := p_then_r h2
        cases h4
        exact Or.inr (Or.inr ⟨c1, c2, j, p', C', e', op, j2, p2, C2, e2, h1, hop, h3, rfl⟩)
theorem pi6 {c v : Nat → Nat} {sec : Bool} {rec : pF} {deep i p o t : Nat} {C : List Nat} {e : pE → Option Int} {q : pO} (h : pS c v sec rec 6 deep i p o t C e = some (.inr q)) : (p_termop (c i) = none ∧ q = (i, p, C, e)) ∨ ∃ op j p' C' e', p_termop (c i) = some op ∧ rec 0 deep (i + 1) p (o + C.length) 0 [] p_e0 = some (.inr (j, p', C', e')) ∧ rec 6 deep j p' o 0 (C ++ C' ++ [op * 4096]) (p_bin op e e') = some (.inr q) := by
  simp only [pS] at h
  split at h
  · rename_i c1
    cases h
    exact Or.inl ⟨c1, rfl⟩
  · rename_i op hop
    obtain ⟨j, p', C', e', h1, h2⟩ := p_then_r h
    exact Or.inr ⟨op, j, p', C', e', hop, h1, h2⟩
theorem pi7 {c v : Nat → Nat} {sec : Bool} {rec : pF} {deep i p o t : Nat} {C : List Nat} {e : pE → Option Int} {q : pO} (h : pS c v sec rec 7 deep i p o t C e = some (.inr q)) : (p_sumop (c i) = none ∧ q = (i, p, C, e)) ∨ ∃ op j p' C' e', p_sumop (c i) = some op ∧ rec 1 deep (i + 1) p (o + C.length) 0 [] p_e0 = some (.inr (j, p', C', e')) ∧ rec 7 deep j p' o 0 (C ++ C' ++ [op * 4096]) (p_bin op e e') = some (.inr q) := by
  simp only [pS] at h
  split at h
  · rename_i c1
    cases h
    exact Or.inl ⟨c1, rfl⟩
  · rename_i op hop
    obtain ⟨j, p', C', e', h1, h2⟩ := p_then_r h
    exact Or.inr ⟨op, j, p', C', e', hop, h1, h2⟩
theorem pi8 {c v : Nat → Nat} {sec : Bool} {rec : pF} {deep i p o t : Nat} {C : List Nat} {e : pE → Option Int} {q : pO} (h : pS c v sec rec 8 deep i p o t C e = some (.inr q)) : (c i ≠ 6 ∧ q = (i, p, C, e)) ∨ ∃ j p' C' e', c i = 6 ∧ rec 3 deep (i + 1) p (o + C.length + 1) 0 [] p_e0 = some (.inr (j, p', C', e')) ∧ rec 8 deep j p' o 0 (C ++ [12 * 4096 + (o + C.length + 1 + C'.length)] ++ C') (p_sc 12 e e') = some (.inr q) := by
  simp only [pS] at h
  split at h
  · rename_i c1
    obtain ⟨j, p', C', e', h1, h2⟩ := p_then_r h
    exact Or.inr ⟨j, p', C', e', c1, h1, h2⟩
  · rename_i c1
    cases h
    exact Or.inl ⟨c1, rfl⟩
theorem pi9 {c v : Nat → Nat} {sec : Bool} {rec : pF} {deep i p o t : Nat} {C : List Nat} {e : pE → Option Int} {q : pO} (h : pS c v sec rec 9 deep i p o t C e = some (.inr q)) : (c i ≠ 5 ∧ q = (i, p, C, e)) ∨ ∃ j p' C' e', c i = 5 ∧ rec 4 deep (i + 1) p (o + C.length + 1) 0 [] p_e0 = some (.inr (j, p', C', e')) ∧ rec 9 deep j p' o 0 (C ++ [11 * 4096 + (o + C.length + 1 + C'.length)] ++ C') (p_sc 11 e e') = some (.inr q) := by
  simp only [pS] at h
  split at h
  · rename_i c1
    obtain ⟨j, p', C', e', h1, h2⟩ := p_then_r h
    exact Or.inr ⟨j, p', C', e', c1, h1, h2⟩
  · rename_i c1
    cases h
    exact Or.inl ⟨c1, rfl⟩
theorem p_termop_v {x op : Nat} (h : p_termop x = some op) : (x = 142 ∧ op = 4) ∨ (x = 147 ∧ op = 5) ∨ (x = 137 ∧ op = 6) := by
  unfold p_termop at h
  repeat' (split at h)
  all_goals (cases h <;> simp_all)
theorem p_sumop_v {x op : Nat} (h : p_sumop x = some op) : (x = 143 ∧ op = 2) ∨ (x = 145 ∧ op = 3) := by
  unfold p_sumop at h
  repeat' (split at h)
  all_goals (cases h <;> simp_all)
theorem p_cmp_v {x op : Nat} (h : p_cmp x = some op) : (x = 160 ∧ op = 7) ∨ (x = 162 ∧ op = 8) ∨ (x = 161 ∧ op = 9) := by
  unfold p_cmp at h
  repeat' (split at h)
  all_goals (cases h <;> simp_all)
theorem p_word_v {x w : Nat} (h : p_word false x = some w) : (x = 8 ∧ w = 0) ∨ (x = 9 ∧ w = 1) ∨ (x = 10 ∧ w = 2) ∨ (x = 11 ∧ w = 3) ∨ (x = 12 ∧ w = 7) ∨ (x = 13 ∧ w = 4) ∨ (x = 14 ∧ w = 5) ∨ (x = 15 ∧ w = 6) := by
  unfold p_word at h
  rw [if_neg (by decide)] at h
  repeat' (split at h)
  all_goals (cases h <;> simp_all)
theorem p_word_v2 {x w : Nat} (h : p_word true x = some w) : (x = 13 ∧ w = 5) ∨ (x = 14 ∧ w = 8) ∨ (x = 15 ∧ w = 0) ∨ (x = 16 ∧ w = 1) ∨ (x = 17 ∧ w = 2) ∨ (x = 18 ∧ w = 3) ∨ (x = 19 ∧ w = 4) := by
  unfold p_word at h
  rw [if_pos rfl] at h
  repeat' (split at h)
  all_goals (cases h <;> simp_all)
theorem p_word_n {sec : Bool} {x w : Nat} (h : p_word sec x = some w) : x ≠ 0 ∧ w ≤ 8 ∧ (sec = false → w ≤ 7) := by
  cases sec with
  | false => have := p_word_v h; omega
  | true => have := p_word_v2 h; exact ⟨by omega, by omega, fun h => absurd h (by decide)⟩
theorem p_lim_v {x y : Int} (h : p_lim x = some y) : x = y ∧ -1000000000 ≤ y ∧ y ≤ 1000000000 := by
  unfold p_lim at h
  split at h
  · cases h; omega
  · cases h
theorem p_arith_v {op : Nat} {a b y : Int} (h : p_arith op a b = some y) : -1000000000 ≤ y ∧ y ≤ 1000000000 ∧ (7 ≤ op → y = 0 ∨ y = 1) := by
  unfold p_arith at h
  split at h
  · have := p_lim_v h; omega
  split at h
  · have := p_lim_v h; omega
  split at h
  · have := p_lim_v h; omega
  split at h
  · split at h
    · cases h
    · have := p_lim_v h; omega
  split at h
  · split at h
    · cases h
    · have := p_lim_v h; omega
  split at h
  · cases h; split <;> omega
  split at h
  · cases h; split <;> omega
  · cases h; split <;> omega
theorem p_bin_v {op : Nat} {e e' : pE → Option Int} {E : pE} {y : Int} (h : p_bin op e e' E = some y) : ∃ a b, e E = some a ∧ e' E = some b ∧ p_arith op a b = some y := by
  unfold p_bin at h
  cases h1 : e E with
  | none => rw [h1] at h; cases h
  | some a =>
    cases h2 : e' E with
    | none => rw [h1, h2] at h; cases h
    | some b => rw [h1, h2] at h; exact ⟨a, b, rfl, rfl, h⟩
/-- values: a number within these bounds; a test's: 0, 1 -/
def p_num (x : Option Int) : Prop := ∀ y, x = some y → -2147483648 ≤ y ∧ y < 2147483648
def p_tst (x : Option Int) : Prop := ∀ y, x = some y → y = 0 ∨ y = 1
def p_rg (m : Nat) (x : Option Int) : Prop := if m = 3 ∨ m = 4 ∨ m = 5 ∨ m = 8 ∨ m = 9 then p_tst x else p_num x
theorem p_tst_sc {op : Nat} {e e' : pE → Option Int} {E : pE} (h1 : p_tst (e E)) (h2 : p_tst (e' E)) : p_tst (p_sc op e e' E) := by
  intro y hy
  unfold p_sc at hy
  cases he : e E with
  | none => rw [he] at hy; cases hy
  | some a =>
    rw [he] at hy
    have : (if a = 1 ↔ op = 11 then some a else e' E) = some y := hy
    split at this
    · cases this
      exact h1 _ he
    · exact h2 _ this
theorem p_num_bin {op : Nat} {e e' : pE → Option Int} {E : pE} : p_num (p_bin op e e' E) := by
  intro y hy
  obtain ⟨a, b, h1, h2, h3⟩ := p_bin_v hy
  have := p_arith_v h3
  omega
theorem p_tst_cmp {op : Nat} {e e' : pE → Option Int} {E : pE} (hop : 7 ≤ op) : p_tst (p_bin op e e' E) := by
  intro y hy
  obtain ⟨a, b, h1, h2, h3⟩ := p_bin_v hy
  have := p_arith_v h3
  omega
theorem p_tst_not {e : pE → Option Int} {E : pE} (h : p_tst (e E)) : p_tst (p_not e E) := by
  intro y hy
  unfold p_not at hy
  cases he : e E with
  | none => rw [he] at hy; cases hy
  | some a =>
    rw [he] at hy
    have h1 := h a he
    have : some (1 - a) = some y := hy
    cases this
    omega
/-- what is always so of what was read -/
theorem p_inv {c v : Nat → Nat} {sec : Bool} {size : Nat} {E : pE} (hc : ∀ i, size ≤ i → c i = 0) (hE : ∀ w, -2147483648 ≤ E w ∧ E w < 2147483648) : ∀ (n mode deep i p o t : Nat) (C : List Nat) (e : pE → Option Int) (j p' : Nat) (C' : List Nat) (e' : pE → Option Int), pP c v sec n mode deep i p o t C e = some (.inr (j, p', C', e')) → mode ≤ 9 → t ≤ 1 → i ≤ size → p ≤ 50 → (6 ≤ mode → p_rg mode (e E)) →
    i ≤ j ∧ j ≤ size ∧ p' ≤ 50 ∧ p ≤ p' ∧ (mode ≤ 5 → p + 1 ≤ p') ∧ (mode ≤ 5 → mode ≠ 3 → C'.length + i ≤ j) ∧ (mode = 3 → C'.length + i ≤ j + t) ∧ (6 ≤ mode → C'.length + i ≤ j + C.length) ∧ (6 ≤ mode → ∃ D, C' = C ++ D) ∧ p_rg mode (e' E) := by
  intro n
  induction n with
  | zero => intro mode deep i p o t C e j p' C' e' h; cases h
  | succ n ih =>
    intro mode deep i p o t C e j p' C' e' h hmd ht hi hp he
    have h : pS c v sec (pP c v sec n) mode deep i p o t C e = some (.inr (j, p', C', e')) := h
    have hsz : ∀ {k}, c k ≠ 0 → k < size := fun {k} hk => by
      by_cases x : size ≤ k
      · exact absurd (hc k x) hk
      · omega
    have hmm : mode = 0 ∨ mode = 1 ∨ mode = 2 ∨ mode = 3 ∨ mode = 4 ∨ mode = 5 ∨ mode = 6 ∨ mode = 7 ∨ mode = 8 ∨ mode = 9 := by omega
    rcases hmm with rfl | rfl | rfl | rfl | rfl | rfl | rfl | rfl | rfl | rfl
    · rcases pi0 h with ⟨c1, c2, j0, p0, C0, e0, h1, c3, hq⟩ | ⟨c1, c2, c3, hq⟩ | ⟨w, c1, c2, c3, c4, c5, c6, c7, c8, hq⟩ | ⟨w, c1, c2, c3, c4, c5, hq⟩
      · have hlt := hsz (k := i) (by omega)
        obtain ⟨g1, g2, g3, g4, g5, g6, g7, g8, g9, g10⟩ := ih _ _ _ _ _ _ _ _ _ _ _ _ h1 (by omega) (by omega) (by omega) hp (fun h => by omega)
        have := hsz (k := j0) (by omega)
        cases hq
        exact ⟨by omega, by omega, g3, g4, fun _ => g5 (by omega), fun _ _ => by omega, fun h => by omega, fun h => by omega, fun h => by omega, g10⟩
      · have hlt := hsz (k := i) (by omega)
        cases hq
        refine ⟨by omega, by omega, by omega, by omega, fun _ => by omega, fun _ _ => ?_, fun h => by omega, fun h => by omega, fun h => by omega, fun y hy => ?_⟩
        · simp only [List.length_singleton]; omega
        · have : some (v i : Int) = some y := hy
          cases this
          omega
      · have hlt := hsz (k := i + 1) (by omega)
        cases hq
        refine ⟨by omega, by omega, by omega, by omega, fun _ => by omega, fun _ _ => ?_, fun h => by omega, fun h => by omega, fun h => by omega, fun y hy => ?_⟩
        · simp only [List.length_singleton]; omega
        · have : some (E (w + v (i + 1))) = some y := hy
          cases this
          exact hE _
      · have hlt := hsz (k := i) (p_word_n c4).1
        cases hq
        refine ⟨by omega, by omega, by omega, by omega, fun _ => by omega, fun _ _ => ?_, fun h => by omega, fun h => by omega, fun h => by omega, fun y hy => ?_⟩
        · simp only [List.length_singleton]; omega
        · have : some (E w) = some y := hy
          cases this
          exact hE _
    · obtain ⟨j0, p0, C0, e0, h1, h2⟩ := pi1 h
      obtain ⟨g1, g2, g3, g4, g5, g6, g7, g8, g9, g10⟩ := ih _ _ _ _ _ _ _ _ _ _ _ _ h1 (by omega) (by omega) hi hp (fun h => by omega)
      obtain ⟨k1, k2, k3, k4, k5, k6, k7, k8, k9, k10⟩ := ih _ _ _ _ _ _ _ _ _ _ _ _ h2 (by omega) (by omega) g2 g3 (fun _ => g10)
      exact ⟨by omega, k2, k3, by omega, fun _ => by omega, fun _ _ => by omega, fun h => by omega, fun h => by omega, fun h => by omega, k10⟩
    · obtain ⟨j0, p0, C0, e0, h1, h2⟩ := pi2 h
      obtain ⟨g1, g2, g3, g4, g5, g6, g7, g8, g9, g10⟩ := ih _ _ _ _ _ _ _ _ _ _ _ _ h1 (by omega) (by omega) hi hp (fun h => by omega)
      obtain ⟨k1, k2, k3, k4, k5, k6, k7, k8, k9, k10⟩ := ih _ _ _ _ _ _ _ _ _ _ _ _ h2 (by omega) (by omega) g2 g3 (fun _ => g10)
      exact ⟨by omega, k2, k3, by omega, fun _ => by omega, fun _ _ => by omega, fun h => by omega, fun h => by omega, fun h => by omega, k10⟩
    · rcases pi3 h with ⟨c1, h1⟩ | ⟨c1, c2, c3, j0, p0, C0, e0, h1, c4, hq⟩ | ⟨c1, c2, j0, p0, C0, e0, op, j2, p2, C2, e2, h1, hop, h2, hq⟩
      · have hlt := hsz (k := i) (by omega)
        obtain ⟨g1, g2, g3, g4, g5, g6, g7, g8, g9, g10⟩ := ih _ _ _ _ _ _ _ _ _ _ _ _ h1 (by omega) (by omega) (by omega) hp (fun h => by omega)
        exact ⟨by omega, g2, g3, g4, g5, fun _ h => absurd rfl h, fun _ => by omega, fun h => by omega, fun h => by omega, g10⟩
      · have hlt := hsz (k := i) (by omega)
        obtain ⟨g1, g2, g3, g4, g5, g6, g7, g8, g9, g10⟩ := ih _ _ _ _ _ _ _ _ _ _ _ _ h1 (by omega) (by omega) (by omega) hp (fun h => by omega)
        have := hsz (k := j0) (by omega)
        cases hq
        refine ⟨by omega, by omega, g3, g4, fun _ => g5 (by omega), fun _ h => absurd rfl h, fun _ => ?_, fun h => by omega, fun h => by omega, ?_⟩
        · split
          · rw [List.length_append, List.length_singleton]; omega
          · omega
        · split
          · exact p_tst_not g10
          · exact g10
      · have hop2 := p_cmp_v hop
        obtain ⟨g1, g2, g3, g4, g5, g6, g7, g8, g9, g10⟩ := ih _ _ _ _ _ _ _ _ _ _ _ _ h1 (by omega) (by omega) hi hp (fun h => by omega)
        have := hsz (k := j0) (by omega)
        obtain ⟨k1, k2, k3, k4, k5, k6, k7, k8, k9, k10⟩ := ih _ _ _ _ _ _ _ _ _ _ _ _ h2 (by omega) (by omega) (by omega) g3 (fun h => by omega)
        cases hq
        refine ⟨by omega, by omega, by omega, by omega, fun _ => by omega, fun _ h => absurd rfl h, fun _ => ?_, fun h => by omega, fun h => by omega, ?_⟩
        · split
          · simp only [List.length_append, List.length_singleton]; omega
          · simp only [List.length_append, List.length_singleton]; omega
        · split
          · exact p_tst_not (p_tst_cmp (by omega))
          · exact p_tst_cmp (by omega)
    · obtain ⟨j0, p0, C0, e0, h1, h2⟩ := pi4 h
      obtain ⟨g1, g2, g3, g4, g5, g6, g7, g8, g9, g10⟩ := ih _ _ _ _ _ _ _ _ _ _ _ _ h1 (by omega) (by omega) hi hp (fun h => by omega)
      obtain ⟨k1, k2, k3, k4, k5, k6, k7, k8, k9, k10⟩ := ih _ _ _ _ _ _ _ _ _ _ _ _ h2 (by omega) (by omega) g2 g3 (fun _ => g10)
      exact ⟨by omega, k2, k3, by omega, fun _ => by omega, fun _ _ => by omega, fun h => by omega, fun h => by omega, fun h => by omega, k10⟩
    · obtain ⟨j0, p0, C0, e0, h1, h2⟩ := pi5 h
      obtain ⟨g1, g2, g3, g4, g5, g6, g7, g8, g9, g10⟩ := ih _ _ _ _ _ _ _ _ _ _ _ _ h1 (by omega) (by omega) hi hp (fun h => by omega)
      obtain ⟨k1, k2, k3, k4, k5, k6, k7, k8, k9, k10⟩ := ih _ _ _ _ _ _ _ _ _ _ _ _ h2 (by omega) (by omega) g2 g3 (fun _ => g10)
      exact ⟨by omega, k2, k3, by omega, fun _ => by omega, fun _ _ => by omega, fun h => by omega, fun h => by omega, fun h => by omega, k10⟩
    · rcases pi6 h with ⟨c1, hq⟩ | ⟨op, j0, p0, C0, e0, hop, h1, h2⟩
      · cases hq
        exact ⟨by omega, hi, hp, by omega, fun h => by omega, fun h => by omega, fun h => by omega, fun _ => by omega, fun _ => ⟨[], (List.append_nil _).symm⟩, he (by omega)⟩
      · have hop2 := p_termop_v hop
        have hlt := hsz (k := i) (by omega)
        obtain ⟨g1, g2, g3, g4, g5, g6, g7, g8, g9, g10⟩ := ih _ _ _ _ _ _ _ _ _ _ _ _ h1 (by omega) (by omega) (by omega) hp (fun h => by omega)
        obtain ⟨k1, k2, k3, k4, k5, k6, k7, k8, k9, k10⟩ := ih _ _ _ _ _ _ _ _ _ _ _ _ h2 (by omega) (by omega) g2 g3 (fun _ => p_num_bin)
        have k8 := k8 (by omega)
        simp only [List.length_append, List.length_singleton] at k8
        obtain ⟨D, hD⟩ := k9 (by omega)
        exact ⟨by omega, k2, k3, by omega, fun h => by omega, fun h => by omega, fun h => by omega, fun _ => by omega, fun _ => ⟨C0 ++ [op * 4096] ++ D, by rw [hD]; simp only [List.append_assoc]⟩, k10⟩
    · rcases pi7 h with ⟨c1, hq⟩ | ⟨op, j0, p0, C0, e0, hop, h1, h2⟩
      · cases hq
        exact ⟨by omega, hi, hp, by omega, fun h => by omega, fun h => by omega, fun h => by omega, fun _ => by omega, fun _ => ⟨[], (List.append_nil _).symm⟩, he (by omega)⟩
      · have hop2 := p_sumop_v hop
        have hlt := hsz (k := i) (by omega)
        obtain ⟨g1, g2, g3, g4, g5, g6, g7, g8, g9, g10⟩ := ih _ _ _ _ _ _ _ _ _ _ _ _ h1 (by omega) (by omega) (by omega) hp (fun h => by omega)
        obtain ⟨k1, k2, k3, k4, k5, k6, k7, k8, k9, k10⟩ := ih _ _ _ _ _ _ _ _ _ _ _ _ h2 (by omega) (by omega) g2 g3 (fun _ => p_num_bin)
        have k8 := k8 (by omega)
        simp only [List.length_append, List.length_singleton] at k8
        obtain ⟨D, hD⟩ := k9 (by omega)
        exact ⟨by omega, k2, k3, by omega, fun h => by omega, fun h => by omega, fun h => by omega, fun _ => by omega, fun _ => ⟨C0 ++ [op * 4096] ++ D, by rw [hD]; simp only [List.append_assoc]⟩, k10⟩
    · rcases pi8 h with ⟨c1, hq⟩ | ⟨j0, p0, C0, e0, hop, h1, h2⟩
      · cases hq
        exact ⟨by omega, hi, hp, by omega, fun h => by omega, fun h => by omega, fun h => by omega, fun _ => by omega, fun _ => ⟨[], (List.append_nil _).symm⟩, he (by omega)⟩
      · have hlt := hsz (k := i) (by omega)
        obtain ⟨g1, g2, g3, g4, g5, g6, g7, g8, g9, g10⟩ := ih _ _ _ _ _ _ _ _ _ _ _ _ h1 (by omega) (by omega) (by omega) hp (fun h => by omega)
        obtain ⟨k1, k2, k3, k4, k5, k6, k7, k8, k9, k10⟩ := ih _ _ _ _ _ _ _ _ _ _ _ _ h2 (by omega) (by omega) g2 g3 (fun _ => p_tst_sc (he (by omega)) g10)
        have k8 := k8 (by omega)
        simp only [List.length_append, List.length_singleton] at k8
        obtain ⟨D, hD⟩ := k9 (by omega)
        exact ⟨by omega, k2, k3, by omega, fun h => by omega, fun h => by omega, fun h => by omega, fun _ => by omega, fun _ => ⟨[12 * 4096 + (o + C.length + 1 + C0.length)] ++ C0 ++ D, by rw [hD]; simp only [List.append_assoc]⟩, k10⟩
    · rcases pi9 h with ⟨c1, hq⟩ | ⟨j0, p0, C0, e0, hop, h1, h2⟩
      · cases hq
        exact ⟨by omega, hi, hp, by omega, fun h => by omega, fun h => by omega, fun h => by omega, fun _ => by omega, fun _ => ⟨[], (List.append_nil _).symm⟩, he (by omega)⟩
      · have hlt := hsz (k := i) (by omega)
        obtain ⟨g1, g2, g3, g4, g5, g6, g7, g8, g9, g10⟩ := ih _ _ _ _ _ _ _ _ _ _ _ _ h1 (by omega) (by omega) (by omega) hp (fun h => by omega)
        obtain ⟨k1, k2, k3, k4, k5, k6, k7, k8, k9, k10⟩ := ih _ _ _ _ _ _ _ _ _ _ _ _ h2 (by omega) (by omega) g2 g3 (fun _ => p_tst_sc (he (by omega)) g10)
        have k8 := k8 (by omega)
        simp only [List.length_append, List.length_singleton] at k8
        obtain ⟨D, hD⟩ := k9 (by omega)
        exact ⟨by omega, k2, k3, by omega, fun h => by omega, fun h => by omega, fun h => by omega, fun _ => by omega, fun _ => ⟨[11 * 4096 + (o + C.length + 1 + C0.length)] ++ C0 ++ D, by rw [hD]; simp only [List.append_assoc]⟩, k10⟩
