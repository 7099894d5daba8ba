/-! the class's reader: what it holds of a token against the reference's code -/
theorem tM_rg {b : Nat → Nat} (hb : ∀ i, b i < 256) (n s : Nat) : -1 ≤ tM b n s ∧ tM b n s < 256 := by
  unfold tM
  have := hb s
  split
  · omega
  · split
    · omega
    · split <;> omega
theorem tM_eq {b : Nat → Nat} (hb : ∀ i, b i < 256) {n s w : Nat} (h1 : ¬ (97 ≤ w ∧ w ≤ 122)) (h2 : ¬ (48 ≤ w ∧ w ≤ 57)) (h3 : w < 256) : (iI (tM b n s) = iI (w : Int)) = (tc b n s = 100 + w) := by
  have hr := tM_rg hb n s
  rw [z_eq (by omega) (by omega)]
  unfold tM tc
  have := hb s
  have := wdc_lt (bts b s (tE b n s - s))
  split
  · exact propext ⟨fun a => by omega, fun a => by omega⟩
  · split
    · exact propext ⟨fun a => by omega, fun a => by omega⟩
    · split
      · exact propext ⟨fun a => by omega, fun a => by omega⟩
      · exact propext ⟨fun a => by omega, fun a => by omega⟩
theorem tM_D {b : Nat → Nat} (hb : ∀ i, b i < 256) {n s : Nat} : (iI (tM b n s) = iI 48) = (tc b n s = 50) := by
  have hr := tM_rg hb n s
  rw [z_eq (by omega) (by omega)]
  unfold tM tc
  have := hb s
  have := wdc_lt (bts b s (tE b n s - s))
  split
  · exact propext ⟨fun a => by omega, fun a => by omega⟩
  · split
    · exact propext ⟨fun a => by omega, fun a => by omega⟩
    · split
      · exact propext ⟨fun _ => rfl, fun _ => rfl⟩
      · rename_i q1 q2 q3
        have := isD_f.mp (eq_false_of_ne_true q3)
        exact propext ⟨fun a => by omega, fun a => by omega⟩
theorem tM_L {b : Nat → Nat} (hb : ∀ i, b i < 256) {n s : Nat} (h : iI (tM b n s) = iI 97) : s < n ∧ tc b n s = wdc (bts b s (tE b n s - s)) := by
  have hr := tM_rg hb n s
  rw [z_eq (by omega) (by omega)] at h
  unfold tM at h
  unfold tc
  split at h
  · omega
  · rename_i q1
    split at h
    · rename_i q2
      rw [if_neg q1, if_pos q2]
      exact ⟨by omega, rfl⟩
    · rename_i q2
      have := isL_f.mp (eq_false_of_ne_true q2)
      split at h <;> omega
theorem tM_N {b : Nat → Nat} {n s : Nat} (h : ¬ iI (tM b n s) = iI 97) : tc b n s = 0 ∨ 50 ≤ tc b n s := by
  unfold tM at h
  unfold tc
  split at h
  · rename_i q1
    rw [if_pos q1]
    exact Or.inl rfl
  · rename_i q1
    split at h
    · exact absurd rfl h
    · rename_i q2
      rw [if_neg q1, if_neg q2]
      split
      · exact Or.inr (Nat.le_refl _)
      · exact Or.inr (by omega)
theorem tN_v {b : Nat → Nat} {n s : Nat} (h : tc b n s = 50) : tN b n s = min (tv b n s) 1001 := by
  unfold tc at h
  unfold tN tv
  have := wdc_lt (bts b s (tE b n s - s))
  split at h
  · omega
  · rename_i q1
    rw [if_neg q1, if_neg q1]
    split at h
    · omega
    · rename_i q2
      rw [if_neg q2, if_neg q2]
      split at h
      · rename_i q3
        rw [if_pos q3, if_pos q3]
        rfl
      · rename_i q3
        rw [if_neg q3, if_neg q3]
        rfl
theorem nok_kind {sec : Bool} {x : Nat} (h : x = 0 ∨ 50 ≤ x) : p_kind sec x = none := by
  cases hk : p_kind sec x with
  | none => rfl
  | some k =>
    have := p_kind_n hk
    cases sec with
    | false => have := this.2.2.1 rfl; omega
    | true => have := this.2.2.2 rfl; omega
theorem nok_word {sec : Bool} {x : Nat} (h : x = 0 ∨ 50 ≤ x) : p_word sec x = none := by
  refine pw_no ?_
  cases sec with
  | false => show x < 8 ∨ 15 < x; omega
  | true => show x < 13 ∨ 19 < x; omega
