/-! a text is read to an end, with so much fuel -/
theorem p_then_ne {r : pR} {F : Nat → Nat → List Nat → (pE → Option Int) → pR} (h1 : r ≠ none) (h2 : ∀ j p C e, r = some (.inr (j, p, C, e)) → F j p C e ≠ none) : p_then r F ≠ none := by
  match r, h1, h2 with
  | none, h1, _ => exact absurd rfl h1
  | some (.inl k), _, _ => exact fun h => by cases h
  | some (.inr (j, p, C, e)), _, h2 => exact h2 j p C e rfl
def p_rk (mode : Nat) : Nat := if mode ≤ 5 then mode + 1 else 1
theorem p_tot {c u : Nat → Nat} {sec : Bool} {N : Nat} (hc : ∀ i, N ≤ i → c i = 0) : ∀ (n mode deep i p o t : Nat) (C : List Nat) (e : pE → Option Int), mode ≤ 9 → t ≤ 1 → i ≤ N → p ≤ 50 → (6 ≤ mode → p_rg mode (e E00)) → 12 * (N - i) + p_rk mode ≤ n → pP c u sec n mode deep i p o t C e ≠ none := by
  have hs : ∀ k, c k ≠ 0 → k < N := fun k hk => by
    by_cases q : N ≤ k
    · exact absurd (hc k q) hk
    · omega
  intro n
  induction n with
  | zero =>
    intro mode deep i p o t C e _ _ _ _ _ hn
    unfold p_rk at hn
    split at hn <;> omega
  | succ n ih =>
    intro mode deep i p o t C e hm ht hi hp he hn
    have r2 : p_rk 2 = 3 := rfl
    have r0 : p_rk 0 = 1 := rfl
    have r1 : p_rk 1 = 2 := rfl
    have r3 : p_rk 3 = 4 := rfl
    have r4 : p_rk 4 = 5 := rfl
    have r5 : p_rk 5 = 6 := rfl
    have r6 : p_rk 6 = 1 := rfl
    have r7 : p_rk 7 = 1 := rfl
    have r8 : p_rk 8 = 1 := rfl
    have r9 : p_rk 9 = 1 := rfl
    have go : ∀ (a i2 d2 o2 : Nat), a ≤ 5 → i2 ≤ N → 12 * (N - i2) + p_rk a ≤ n → pP c u sec n a d2 i2 p o2 0 [] p_e0 ≠ none := fun a i2 d2 o2 ha h2 h3 => ih a d2 i2 p o2 0 [] p_e0 (by omega) (by omega) h2 hp (fun h => by omega) h3
    match mode, hm with
    | 0, _ =>
      show (if c i = 191 then (if deep = 8 then some (.inl i) else p_then (pP c u sec n 2 (deep + 1) (i + 1) p o 0 [] p_e0) fun j p' C' e' => if c j = 193 then some (.inr (j + 1, p', C', e')) else some (.inl j))
        else if p = 50 then some (.inl i)
        else if c i = 50 then (if u i ≤ 1000 then some (.inr (i + 1, p + 1, [u i], fun _ => some (u i : Int))) else some (.inl i))
        else match p_word sec (c i) with
          | none => some (.inl i)
          | some w => if sec = true ∧ 5 ≤ w then (if c (i + 1) = 50 ∧ u (i + 1) ≤ 2 then some (.inr (i + 2, p + 1, [4096 + (w + u (i + 1))], fun E => some (E (w + u (i + 1))))) else some (.inl (i + 1)))
            else some (.inr (i + 1, p + 1, [4096 + w], fun E => some (E w))) : pR) ≠ none
      split
      · rename_i h1
        have := hs i (by rw [h1]; decide)
        split
        · exact fun h => by cases h
        · refine p_then_ne (go 2 (i + 1) _ _ (by omega) (by omega) (by omega)) fun j p' C' e' _ => ?_
          split <;> exact fun h => by cases h
      · split
        · exact fun h => by cases h
        · split
          · split <;> exact fun h => by cases h
          · split
            · exact fun h => by cases h
            · split
              · split <;> exact fun h => by cases h
              · exact fun h => by cases h
    | 1, _ =>
      refine p_then_ne (go 0 i _ _ (by omega) hi (by omega)) fun j p' C' e' h1 => ?_
      obtain ⟨g1, g2, g3, g4, g5, g6, g7, g8, g9, g10⟩ := p_inv hc E00_ok _ _ _ _ _ _ _ _ _ _ _ _ _ h1 (by omega) (by omega) hi hp (fun h => by omega)
      exact ih 6 _ j p' o 0 C' e' (by omega) (by omega) g2 g3 (fun _ => g10) (by omega)
    | 2, _ =>
      refine p_then_ne (go 1 i _ _ (by omega) hi (by omega)) fun j p' C' e' h1 => ?_
      obtain ⟨g1, g2, g3, g4, g5, g6, g7, g8, g9, g10⟩ := p_inv hc E00_ok _ _ _ _ _ _ _ _ _ _ _ _ _ h1 (by omega) (by omega) hi hp (fun h => by omega)
      exact ih 7 _ j p' o 0 C' e' (by omega) (by omega) g2 g3 (fun _ => g10) (by omega)
    | 3, _ =>
      show (if c i = 7 then pP c u sec n 3 deep (i + 1) p o (1 - t) [] p_e0
        else if c i = 140 then (if deep = 8 then some (.inl i) else p_then (pP c u sec n 5 (deep + 1) (i + 1) p o 0 [] p_e0) fun j p' C' e' => if c j = 141 then some (.inr (j + 1, p', if t = 1 then C' ++ [10 * 4096] else C', if t = 1 then p_not e' else e')) else some (.inl j))
        else p_then (pP c u sec n 2 deep i p o 0 [] p_e0) fun j p' C' e' => match p_cmp (c j) with
          | none => some (.inl j)
          | some op => p_then (pP c u sec n 2 deep (j + 1) p' (o + C'.length) 0 [] p_e0) fun j2 p2 C2 e2 => some (.inr (j2, p2, if t = 1 then C' ++ C2 ++ [op * 4096] ++ [10 * 4096] else C' ++ C2 ++ [op * 4096], if t = 1 then p_not (p_bin op e' e2) else p_bin op e' e2)) : pR) ≠ none
      split
      · rename_i h1
        have := hs i (by rw [h1]; decide)
        exact ih 3 deep (i + 1) p o (1 - t) [] p_e0 (by omega) (by omega) (by omega) hp (fun h => by omega) (by omega)
      · split
        · rename_i h1
          have := hs i (by rw [h1]; decide)
          split
          · exact fun h => by cases h
          · refine p_then_ne (go 5 (i + 1) _ _ (by omega) (by omega) (by omega)) fun j p' C' e' _ => ?_
            split <;> exact fun h => by cases h
        · refine p_then_ne (go 2 i _ _ (by omega) hi (by omega)) fun j p' C' e' h1 => ?_
          obtain ⟨g1, g2, g3, g4, g5, g6, g7, g8, g9, g10⟩ := p_inv hc E00_ok _ _ _ _ _ _ _ _ _ _ _ _ _ h1 (by omega) (by omega) hi hp (fun h => by omega)
          split
          · exact fun h => by cases h
          · rename_i op hop
            have := hs j fun h => by rw [h] at hop; cases hop
            exact p_then_ne (ih 2 _ (j + 1) p' _ 0 [] p_e0 (by omega) (by omega) (by omega) g3 (fun h => by omega) (by omega)) fun j2 p2 C2 e2 _ h => by cases h
    | 4, _ =>
      refine p_then_ne (go 3 i _ _ (by omega) hi (by omega)) fun j p' C' e' h1 => ?_
      obtain ⟨g1, g2, g3, g4, g5, g6, g7, g8, g9, g10⟩ := p_inv hc E00_ok _ _ _ _ _ _ _ _ _ _ _ _ _ h1 (by omega) (by omega) hi hp (fun h => by omega)
      exact ih 8 _ j p' o 0 C' e' (by omega) (by omega) g2 g3 (fun _ => g10) (by omega)
    | 5, _ =>
      refine p_then_ne (go 4 i _ _ (by omega) hi (by omega)) fun j p' C' e' h1 => ?_
      obtain ⟨g1, g2, g3, g4, g5, g6, g7, g8, g9, g10⟩ := p_inv hc E00_ok _ _ _ _ _ _ _ _ _ _ _ _ _ h1 (by omega) (by omega) hi hp (fun h => by omega)
      exact ih 9 _ j p' o 0 C' e' (by omega) (by omega) g2 g3 (fun _ => g10) (by omega)
    | 6, _ =>
      show (match p_termop (c i) with
        | none => some (.inr (i, p, C, e))
        | some op => p_then (pP c u sec n 0 deep (i + 1) p (o + C.length) 0 [] p_e0) (fun j p' C' e' => pP c u sec n 6 deep j p' o 0 (C ++ C' ++ [op * 4096]) (p_bin op e e')) : pR) ≠ none
      split
      · exact fun h => by cases h
      · rename_i op hop
        have := hs i fun h => by rw [h] at hop; cases hop
        refine p_then_ne (go 0 (i + 1) _ _ (by omega) (by omega) (by omega)) fun j p' C' e' h1 => ?_
        obtain ⟨g1, g2, g3, g4, g5, g6, g7, g8, g9, g10⟩ := p_inv hc E00_ok _ _ _ _ _ _ _ _ _ _ _ _ _ h1 (by omega) (by omega) (by omega) hp (fun h => by omega)
        exact ih 6 _ j p' o 0 _ (p_bin op e e') (by omega) (by omega) g2 g3 (fun _ => p_num_bin) (by omega)
    | 7, _ =>
      show (match p_sumop (c i) with
        | none => some (.inr (i, p, C, e))
        | some op => p_then (pP c u sec n 1 deep (i + 1) p (o + C.length) 0 [] p_e0) (fun j p' C' e' => pP c u sec n 7 deep j p' o 0 (C ++ C' ++ [op * 4096]) (p_bin op e e')) : pR) ≠ none
      split
      · exact fun h => by cases h
      · rename_i op hop
        have := hs i fun h => by rw [h] at hop; cases hop
        refine p_then_ne (go 1 (i + 1) _ _ (by omega) (by omega) (by omega)) fun j p' C' e' h1 => ?_
        obtain ⟨g1, g2, g3, g4, g5, g6, g7, g8, g9, g10⟩ := p_inv hc E00_ok _ _ _ _ _ _ _ _ _ _ _ _ _ h1 (by omega) (by omega) (by omega) hp (fun h => by omega)
        exact ih 7 _ j p' o 0 _ (p_bin op e e') (by omega) (by omega) g2 g3 (fun _ => p_num_bin) (by omega)
    | 8, _ =>
      show (if c i = 6 then p_then (pP c u sec n 3 deep (i + 1) p (o + C.length + 1) 0 [] p_e0) (fun j p' C' e' => pP c u sec n 8 deep j p' o 0 (C ++ [12 * 4096 + (o + C.length + 1 + C'.length)] ++ C') (p_sc 12 e e')) else some (.inr (i, p, C, e)) : pR) ≠ none
      split
      · rename_i h1
        have := hs i (by rw [h1]; decide)
        refine p_then_ne (go 3 (i + 1) _ _ (by omega) (by omega) (by omega)) fun j p' C' e' h1 => ?_
        obtain ⟨g1, g2, g3, g4, g5, g6, g7, g8, g9, g10⟩ := p_inv hc E00_ok _ _ _ _ _ _ _ _ _ _ _ _ _ h1 (by omega) (by omega) (by omega) hp (fun h => by omega)
        exact ih 8 _ j p' o 0 _ (p_sc 12 e e') (by omega) (by omega) g2 g3 (fun _ => p_tst_sc (he (by omega)) g10) (by omega)
      · exact fun h => by cases h
    | 9, _ =>
      show (if c i = 5 then p_then (pP c u sec n 4 deep (i + 1) p (o + C.length + 1) 0 [] p_e0) (fun j p' C' e' => pP c u sec n 9 deep j p' o 0 (C ++ [11 * 4096 + (o + C.length + 1 + C'.length)] ++ C') (p_sc 11 e e')) else some (.inr (i, p, C, e)) : pR) ≠ none
      split
      · rename_i h1
        have := hs i (by rw [h1]; decide)
        refine p_then_ne (go 4 (i + 1) _ _ (by omega) (by omega) (by omega)) fun j p' C' e' h1 => ?_
        obtain ⟨g1, g2, g3, g4, g5, g6, g7, g8, g9, g10⟩ := p_inv hc E00_ok _ _ _ _ _ _ _ _ _ _ _ _ _ h1 (by omega) (by omega) (by omega) hp (fun h => by omega)
        exact ih 9 _ j p' o 0 _ (p_sc 11 e e') (by omega) (by omega) g2 g3 (fun _ => p_tst_sc (he (by omega)) g10) (by omega)
      · exact fun h => by cases h
