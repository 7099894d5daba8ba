/-! the class's reader: what it holds of a token against the reference's code -/
theorem tM_rg {b : Nat → Nat} (hb : ∀ i, b i < 256) (n s : Nat) : -1 ≤ tM b n s ∧ tM b n s < 256 := by
  unfold tM
  have := hb s
  split
  · omega
  · split
    · omega
    · split <;> omega
theorem tM_eq {b : Nat → Nat} (hb : ∀ i, b i < 256) {n s w : Nat} (h1 : ¬ (97 ≤ w ∧ w ≤ 122)) (h2 : ¬ (48 ≤ w ∧ w ≤ 57)) (h3 : w < 256) : (iI (tM b n s) = iI (w : Int)) = (tc b n s = 100 + w) := by
  have hr := tM_rg hb n s
  rw [z_eq (by omega) (by omega)]
  unfold tM tc
  have := hb s
  have := wdc_lt (bts b s (tE b n s - s))
  split
  · exact propext ⟨fun a => by omega, fun a => by omega⟩
  · split
    · exact propext ⟨fun a => by omega, fun a => by omega⟩
    · split
      · exact propext ⟨fun a => by omega, fun a => by omega⟩
      · exact propext ⟨fun a => by omega, fun a => by omega⟩
theorem tM_D {b : Nat → Nat} (hb : ∀ i, b i < 256) {n s : Nat} : (iI (tM b n s) = iI 48) = (tc b n s = 50) := by
  have hr := tM_rg hb n s
  rw [z_eq (by omega) (by omega)]
  unfold tM tc
  have := hb s
  have := wdc_lt (bts b s (tE b n s - s))
  split
  · exact propext ⟨fun a => by omega, fun a => by omega⟩
  · split
    · exact propext ⟨fun a => by omega, fun a => by omega⟩
    · split
      · exact propext ⟨fun _ => rfl, fun _ => rfl⟩
      · rename_i q1 q2 q3
        have := isD_f.mp (eq_false_of_ne_true q3)
        exact propext ⟨fun a => by omega, fun a => by omega⟩
theorem tM_L {b : Nat → Nat} (hb : ∀ i, b i < 256) {n s : Nat} (h : iI (tM b n s) = iI 97) : s < n ∧ tc b n s = wdc (bts b s (tE b n s - s)) := by
  have hr := tM_rg hb n s
  rw [z_eq (by omega) (by omega)] at h
  unfold tM at h
  unfold tc
  split at h
  · omega
  · rename_i q1
    split at h
    · rename_i q2
      rw [if_neg q1, if_pos q2]
      exact ⟨by omega, rfl⟩
    · rename_i q2
      have := isL_f.mp (eq_false_of_ne_true q2)
      split at h <;> omega
theorem tM_N {b : Nat → Nat} {n s : Nat} (h : ¬ iI (tM b n s) = iI 97) : tc b n s = 0 ∨ 50 ≤ tc b n s := by
  unfold tM at h
  unfold tc
  split at h
  · rename_i q1
    rw [if_pos q1]
    exact Or.inl rfl
  · rename_i q1
    split at h
    · exact absurd rfl h
    · rename_i q2
      rw [if_neg q1, if_neg q2]
      split
      · exact Or.inr (Nat.le_refl _)
      · exact Or.inr (by omega)
theorem tN_v {b : Nat → Nat} {n s : Nat} (h : tc b n s = 50) : tN b n s = min (tv b n s) 1001 := by
  unfold tc at h
  unfold tN tv
  have := wdc_lt (bts b s (tE b n s - s))
  split at h
  · omega
  · rename_i q1
    rw [if_neg q1, if_neg q1]
    split at h
    · omega
    · rename_i q2
      rw [if_neg q2, if_neg q2]
      split at h
      · rename_i q3
        rw [if_pos q3, if_pos q3]
        rfl
      · rename_i q3
        rw [if_neg q3, if_neg q3]
        rfl
theorem nok_kind {sec : Bool} {x : Nat} (h : x = 0 ∨ 50 ≤ x) : p_kind sec x = none := by
  cases hk : p_kind sec x with
  | none => rfl
  | some k =>
    have := p_kind_n hk
    cases sec with
    | false => have := this.2.2.1 rfl; omega
    | true => have := this.2.2.2 rfl; omega
theorem nok_word {sec : Bool} {x : Nat} (h : x = 0 ∨ 50 ≤ x) : p_word sec x = none := by
  refine pw_no ?_
  cases sec with
  | false => show x < 8 ∨ 15 < x; omega
  | true => show x < 13 ∨ 19 < x; omega
/-- the class's reader stands at token k -/
def CK (f : Nat → Int32) (v : Nat → Value) (b : Nat → Nat) (n k : Nat) : Prop := v 1986 = .ref 30 ∧ f 1987 = iI (n : Int) ∧ f 1990 = iI (tM b n (ts b n k)) ∧ f 1991 = iI (ts b n k : Int) ∧ f 1992 = iI (tE b n (ts b n k) : Nat) ∧ f 1993 = iI (tN b n (ts b n k) : Nat)
/-- what its pick of a list finds -/
def pkR (b : Nat → Nat) (n s : Nat) (ws : List (List Nat)) : Option Nat := if iI (tM b n s) = iI 97 then fnd (bts b s (tE b n s - s)) ws 0 else none
theorem pkR_kind {b : Nat → Nat} (hb : ∀ i, b i < 256) {n s : Nat} (sec : Bool) : pkR b n s (wdk sec) = p_kind sec (tc b n s) := by
  unfold pkR
  split
  · rename_i h
    rw [(tM_L hb h).2, wdc_kind]
  · rename_i h
    rw [nok_kind (tM_N h)]
theorem pkR_word {b : Nat → Nat} (hb : ∀ i, b i < 256) {n s : Nat} (sec : Bool) : (pkR b n s (wdw sec)).map (fun k => if sec = true ∧ k = 6 then 8 else k) = p_word sec (tc b n s) := by
  unfold pkR
  split
  · rename_i h
    rw [(tM_L hb h).2, wdc_word]
  · rename_i h
    rw [nok_word (tM_N h)]
    rfl
theorem pkR_one {b : Nat → Nat} (hb : ∀ i, b i < 256) {n s c : Nat} (hc : c < 24) : pkR b n s [wds.getD c []] = if tc b n s = c + 1 then some 0 else none := by
  unfold pkR
  split
  · rename_i h
    rw [(tM_L hb h).2, wdc_one hc]
  · rename_i h
    have := tM_N h
    rw [if_neg (by omega)]
theorem c_pickk {X : mm_X} {d : Nat} {f : Nat → Int32} {fl : Nat → Int64} {g : Nat → Nat → Int32} {gl : Nat → Nat → Int64} {hh : Nat → Nat → Option Nat} {v : Nat → Value} {tx : mm_W} {P : Option Value → mm_W → Prop} {b : Nat → Nat} {n k : Nat} {z0 : UInt32} {tS : List Int32} {ws : List (List Nat)} (hn : n ≤ 400) (hb : ∀ i, b i < 256) (hx : ∀ i, i < n → g 30 i = iI (b i : Int)) (hC : CK f v b n k) (eS : mk_S[z0.toNat - 16]? = some tS) (eZ : 16 ≤ z0.toNat) (hS : tS = stW ws) (hL : tS.length < 1000) (hw : ∀ w, w ∈ ws → ∀ x, x ∈ w → x < 256 ∧ x ≠ 32)
    (h : P (some (.int (iI (pkV (pkR b n (ts b n k) ws))))) (Wd f fl g gl hh v tx)) : WP X d 43 (0, [some (.ref 31), some (.float z0), none, none, none, none, none], [], Wd f fl g gl hh v tx) P := by
  obtain ⟨c1, c2, c3, c4, c5, c6⟩ := hC
  by_cases hm : iI (tM b n (ts b n k)) = iI 97
  · have hlt := (tM_L hb hm).1
    obtain ⟨q1, q2⟩ := tE_ok (b := b) hlt
    rw [pkR, if_pos hm] at h
    exact c_pick (s := ts b n k) (l := tE b n (ts b n k) - ts b n k) hn hb hx c1 eS eZ hS hL hw (c3.trans hm) c4 (by rw [c5]; congr 2; omega) (by omega) h
  · rw [pkR, if_neg hm] at h
    refine b_yre_pick_31_0 (h := ⟨fun c => absurd (c3.symm.trans c) hm, fun _ => h⟩) ..
theorem c_stepk {X : mm_X} {d : Nat} {f : Nat → Int32} {fl : Nat → Int64} {g : Nat → Nat → Int32} {gl : Nat → Nat → Int64} {hh : Nat → Nat → Option Nat} {v : Nat → Value} {tx : mm_W} {P : Option Value → mm_W → Prop} {b : Nat → Nat} {n k : Nat} (hn : n ≤ 400) (hb : ∀ i, b i < 256) (hx : ∀ i, i < n → g 30 i = iI (b i : Int)) (hC : CK f v b n k) (hk : ts b n k < n)
    (h : ∀ f', (∀ a, a < 1990 ∨ 1993 < a → f' a = f a) → CK f' v b n (k + 1) → P none (Wd f' fl g gl hh v tx)) : WP X d 42 (0, [some (.ref 31), none], [], Wd f fl g gl hh v tx) P := by
  obtain ⟨c1, c2, c3, c4, c5, c6⟩ := hC
  obtain ⟨q1, q2⟩ := tE_ok (b := b) hk
  refine c_step hn hb hx c1 c2 c5 q2 ?_
  exact h _ (fun a ha => by rw [va_ne (by omega), va_ne (by omega), va_ne (by omega), va_ne (by omega)]) ⟨c1, c2, rfl, rfl, rfl, rfl⟩
