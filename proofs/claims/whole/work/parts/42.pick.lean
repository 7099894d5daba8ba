/-! the reading that is picked -/
def fstI (p : Nat → Bool) : Nat → Nat
  | 0 => 0
  | n + 1 => if fstI p n < n then fstI p n else if p n = true then n else n + 1
theorem fstI_le {p : Nat → Bool} : ∀ n, fstI p n ≤ n
  | 0 => Nat.le_refl _
  | n + 1 => by
    rw [fstI]
    split
    · omega
    · split <;> omega
theorem fstI_min {p : Nat → Bool} : ∀ n j, j < fstI p n → p j = false
  | 0, j, h => by rw [fstI] at h; omega
  | n + 1, j, h => by
    have ih := fstI_min (p := p) n j
    have hl := fstI_le (p := p) n
    rw [fstI] at h
    split at h
    · exact ih h
    · split at h
      · exact ih (by omega)
      · rename_i h1 h2
        by_cases e : j = n
        · rw [e]; simpa using h2
        · exact ih (by omega)
theorem fstI_is {p : Nat → Bool} : ∀ n, fstI p n < n → p (fstI p n) = true
  | 0, h => by omega
  | n + 1, h => by
    have ih := fstI_is (p := p) n
    rw [fstI] at h ⊢
    split
    · rename_i h1; exact ih h1
    · rename_i h1
      rw [if_neg h1] at h
      split
      · rename_i h2; exact h2
      · rename_i h2; rw [if_neg h2] at h; omega
theorem fstI_ex {p : Nat → Bool} {n j : Nat} (hj : j < n) (h : p j = true) : fstI p n < n := by
  have hl := fstI_le (p := p) n
  by_cases c : fstI p n < n
  · exact c
  · have := fstI_min (p := p) n j (by omega)
    rw [h] at this
    exact absurd this (by decide)
def lyF (κ : Nat → Nat) (md : Bool) (wt : Nat → Nat) : Nat → Nat := ly κ md wt (κ 12)
def sgn (κ : Nat → Nat) (md : Bool) (wt : Nat → Nat) (at_ : Nat) : Nat := fstI (fun j => prc κ md wt (lyF κ md wt) at_ j == lyF κ md wt at_) (κ 55)
/-- where the n-th sign begins; how many there are -/
def psn (κ : Nat → Nat) (md : Bool) (wt : Nat → Nat) : Nat → Nat
  | 0 => 0
  | n + 1 => if psn κ md wt n < κ 12 then psn κ md wt n + κ (31 + sgn κ md wt (psn κ md wt n)) else psn κ md wt n
def pln (κ : Nat → Nat) (md : Bool) (wt : Nat → Nat) : Nat := fstI (fun n => decide (κ 12 ≤ psn κ md wt n)) 12
theorem lyF_le {κ : Nat → Nat} {md : Bool} {wt : Nat → Nat} (i : Nat) : lyF κ md wt i ≤ 1000000 := ly_le i _
theorem lyF_end {κ : Nat → Nat} {md : Bool} {wt : Nat → Nat} : lyF κ md wt (κ 12) = 0 := ly_last _ (Nat.le_refl _)
theorem lyF_at {κ : Nat → Nat} {md : Bool} {wt : Nat → Nat} (hw : wS κ) {at_ : Nat} (h : at_ < κ 12) : lyF κ md wt at_ = mS (prc κ md wt (lyF κ md wt) at_) (κ 55) := ly_at (Nat.le_refl _) h (by omega) fun j hj => (hw.2.1 j hj).1
/-- the sign that is picked at a place from which there is a reading -/
theorem sgn_spec {κ : Nat → Nat} {md : Bool} {wt : Nat → Nat} (hw : wS κ) {at_ : Nat} (h : at_ < κ 12) (hL : lyF κ md wt at_ < 1000000) : sgn κ md wt at_ < κ 55 ∧ prc κ md wt (lyF κ md wt) at_ (sgn κ md wt at_) = lyF κ md wt at_ ∧ (∀ j, j < sgn κ md wt at_ → prc κ md wt (lyF κ md wt) at_ j ≠ lyF κ md wt at_) ∧
    1 ≤ κ (31 + sgn κ md wt at_) ∧ at_ + κ (31 + sgn κ md wt at_) ≤ κ 12 ∧ lyF κ md wt (at_ + κ (31 + sgn κ md wt at_)) < 1000000 := by
  have e := lyF_at (md := md) (wt := wt) hw h
  obtain ⟨j, hj, hj2⟩ := mS_ex (t := prc κ md wt (lyF κ md wt) at_) (κ 55) (by omega)
  have h1 : sgn κ md wt at_ < κ 55 := fstI_ex hj (by simp; omega)
  have h2 : prc κ md wt (lyF κ md wt) at_ (sgn κ md wt at_) = lyF κ md wt at_ := beq_iff_eq.mp (fstI_is (p := fun j => prc κ md wt (lyF κ md wt) at_ j == lyF κ md wt at_) _ h1)
  have h3 : ∀ j, j < sgn κ md wt at_ → prc κ md wt (lyF κ md wt) at_ j ≠ lyF κ md wt at_ := fun j hj => by simpa using fstI_min _ j hj
  refine ⟨h1, h2, h3, (hw.2.1 _ h1).1, ?_, ?_⟩
  · have h4 : prc κ md wt (lyF κ md wt) at_ (sgn κ md wt at_) < 1000000 := by omega
    unfold prc at h4
    split at h4
    · omega
    · rename_i hc
      exact dif_lt (by
        have := dif_le (κ := κ) (j := sgn κ md wt at_) (at_ := at_) (hw.2.1 _ h1).2.1
        by_cases c : dif κ (sgn κ md wt at_) at_ = 1000000
        · exact absurd (Or.inl c) hc
        · omega)
  · have h4 : prc κ md wt (lyF κ md wt) at_ (sgn κ md wt at_) < 1000000 := by omega
    unfold prc at h4
    split at h4
    · omega
    · omega
theorem psn_s {κ : Nat → Nat} {md : Bool} {wt : Nat → Nat} {n : Nat} (h : psn κ md wt n < κ 12) : psn κ md wt (n + 1) = psn κ md wt n + κ (31 + sgn κ md wt (psn κ md wt n)) := if_pos h
theorem psn_ok {κ : Nat → Nat} {md : Bool} {wt : Nat → Nat} (hw : wS κ) (hL : lyF κ md wt 0 < 1000000) : ∀ n, psn κ md wt n ≤ κ 12 ∧ lyF κ md wt (psn κ md wt n) < 1000000 ∧ (psn κ md wt n < κ 12 → n ≤ psn κ md wt n)
  | 0 => ⟨Nat.zero_le _, hL, fun _ => Nat.zero_le _⟩
  | n + 1 => by
    obtain ⟨a1, a2, a3⟩ := psn_ok hw hL n
    by_cases c : psn κ md wt n < κ 12
    · obtain ⟨s1, s2, s3, s4, s5, s6⟩ := sgn_spec hw c a2
      rw [psn_s c]
      have := a3 c
      exact ⟨s5, s6, fun _ => by omega⟩
    · rw [show psn κ md wt (n + 1) = psn κ md wt n from if_neg c]
      exact ⟨a1, a2, fun h => absurd h c⟩
theorem pln_lt {κ : Nat → Nat} {md : Bool} {wt : Nat → Nat} {n : Nat} (h : n < pln κ md wt) : psn κ md wt n < κ 12 := by
  have := fstI_min (p := fun n => decide (κ 12 ≤ psn κ md wt n)) 12 n h
  have := of_decide_eq_false this
  omega
theorem pln_le {κ : Nat → Nat} {md : Bool} {wt : Nat → Nat} : pln κ md wt ≤ 12 := fstI_le 12
/-- at the first place at the end there are so many signs -/
theorem pln_eq {κ : Nat → Nat} {md : Bool} {wt : Nat → Nat} {n : Nat} (hn : n ≤ 12) (h : κ 12 ≤ psn κ md wt n) (h2 : ∀ m, m < n → psn κ md wt m < κ 12) : pln κ md wt = n := by
  by_cases c : n < pln κ md wt
  · have := pln_lt c; omega
  · by_cases e : pln κ md wt = n
    · exact e
    · have h3 : pln κ md wt < 12 := by have := pln_le (κ := κ) (md := md) (wt := wt); omega
      have h4 := fstI_is (p := fun n => decide (κ 12 ≤ psn κ md wt n)) 12 h3
      have h5 := of_decide_eq_true h4
      have h6 := h2 (pln κ md wt) (by omega)
      have h7 : κ 12 ≤ psn κ md wt (pln κ md wt) := h5
      omega
theorem psn_end {κ : Nat → Nat} {md : Bool} {wt : Nat → Nat} (hw : wS κ) (hwL : wL κ) (hL : lyF κ md wt 0 < 1000000) : ∀ n, pln κ md wt ≤ n → psn κ md wt n = κ 12 := by
  have h12 : psn κ md wt 12 = κ 12 := by
    obtain ⟨a1, a2, a3⟩ := psn_ok (md := md) (wt := wt) hw hL 12
    have := hwL.1
    by_cases c : psn κ md wt 12 < κ 12
    · have := a3 c; omega
    · omega
  have hp : psn κ md wt (pln κ md wt) = κ 12 := by
    by_cases c : pln κ md wt < 12
    · have h4 := of_decide_eq_true (fstI_is (p := fun n => decide (κ 12 ≤ psn κ md wt n)) 12 c)
      have h7 : κ 12 ≤ psn κ md wt (pln κ md wt) := h4
      have := (psn_ok (md := md) (wt := wt) hw hL (pln κ md wt)).1
      omega
    · rw [show pln κ md wt = 12 by have := pln_le (κ := κ) (md := md) (wt := wt); omega]; exact h12
  intro n hn
  obtain ⟨k, rfl⟩ : ∃ k, n = pln κ md wt + k := ⟨n - pln κ md wt, by omega⟩
  clear hn
  induction k with
  | zero => rw [Nat.add_zero]; exact hp
  | succ k ih => rw [← Nat.add_assoc, show psn κ md wt (pln κ md wt + k + 1) = psn κ md wt (pln κ md wt + k) from if_neg (by omega)]; exact ih
theorem prc_dif {κ : Nat → Nat} {md : Bool} {wt a : Nat → Nat} {at_ j : Nat} (h : dif κ j at_ < 1000000) (h2 : md = true ∨ dif κ j at_ = 0) : prc κ md wt a at_ j = min 1000000 ((if md then dif κ j at_ else wt j) + a (at_ + κ (31 + j))) := by
  unfold prc
  rw [if_neg]
  rintro (h3 | ⟨h3, h4⟩)
  · omega
  · rcases h2 with h2 | h2
    · rw [h2] at h3; exact absurd h3 (by decide)
    · omega
def bI (b : Bool) : Int := if b then 1 else 0
theorem c_price1 {X : mm_X} {d : Nat} {f : Nat → Int32} {fl : Nat → Int64} {g : Nat → Nat → Int32} {gl : Nat → Nat → Int64} {hh : Nat → Nat → Option Nat} {v : Nat → Value} {tx : mm_W} {P : Option Value → mm_W → Prop} {κ : Nat → Nat} (hwS : wS κ) (hwL : wL κ) (hxS : xS (f 64) (g 2) (g 3) (g 4) κ) (hxL : xL (f 70) (f 71) κ) {j at_ : Nat} (hj : j < κ 55) (ha : at_ ≤ 12) {md : Bool} {wt A : Nat → Nat} (hwt : md = true ∨ (g 42 j = iI (wt j) ∧ wt j ≤ 99)) (hA : at_ + κ (31 + j) ≤ κ 12 → g 43 (at_ + κ (31 + j)) = iI (A (at_ + κ (31 + j))) ∧ A (at_ + κ (31 + j)) ≤ 1000000) (h : P (some (.int (iI (prc κ md wt A at_ j : Nat)))) (Wd f fl g gl hh v tx)) : WP X (d + 2) 9 (0, [some (.ref 38), some (.ref 1), some (.int (iI j)), some (.int (iI at_)), some (.int (iI (bI md))), none, none], [], Wd f fl g gl hh v tx) P := by
  have b55 := hwS.1
  have b12 := hwL.1
  obtain ⟨h1, h2, -⟩ := hwS.2.1 j hj
  obtain ⟨x1, x2, x3⟩ := hxS.2 j hj
  have d2 := dif_le (κ := κ) (j := j) (at_ := at_) h2
  refine b_yca_priceFrom_38_1_0 (h := ?_) ..
  refine c_others1 hwS hwL hxS hxL hj ha ?_
  refine b_yca_priceFrom_38_1_6 (h := ?_) ..
  by_cases c1 : dif κ j at_ = 1000000
  · rw [show prc κ md wt A at_ j = 1000000 from if_pos (Or.inl c1)] at h
    simp (disch := omega) only [z_lit, z_litl, z_neg, z_negl, z_add, z_sub, z_mul, z_addl, z_subl, z_mull, z_cc, z_cl, z_cr, z_cm, z_cml, z_cmr, z_lt, z_le, z_eq, z_ltl, z_lel, z_eql, z_nat, z_i2l, z_l2i, z_div, z_sh, Int.toNat_natCast, z_ts, z_tsl]
    repeat (first | refine ⟨fun c9 => by omega, fun _ => ?_⟩ | refine ⟨fun _ => ?_, fun c9 => by omega⟩ | refine ⟨by omega, ?_⟩ | refine ⟨fun c9 => absurd trivial c9, fun _ => ?_⟩ | refine ⟨fun _ => ?_, fun c9 => absurd trivial c9⟩)
    exact h
  · have d3 := dif_lt (κ := κ) (j := j) (at_ := at_) (by omega)
    obtain ⟨a1, a2⟩ := hA d3
    have hd12 : dif κ j at_ ≤ 4 := by
      rw [dif, if_neg (by omega)]
      exact Nat.le_trans (mis_le _) h2
    cases md with
    | true =>
      rw [prc_dif (by omega) (Or.inl rfl), if_pos rfl] at h
      rw [show bI true = 1 from rfl]
      simp (disch := omega) only [z_lit, z_litl, z_neg, z_negl, z_add, z_sub, z_mul, z_addl, z_subl, z_mull, z_cc, z_cl, z_cr, z_cm, z_cml, z_cmr, z_lt, z_le, z_eq, z_ltl, z_lel, z_eql, z_nat, z_i2l, z_l2i, z_div, z_sh, Int.toNat_natCast, z_ts, z_tsl, x2, a1]
      have fin : P (some (.int (if ((dif κ j at_ : Nat) : Int) + ((A (at_ + κ (31 + j)) : Nat) : Int) < 1000000 then iI ((dif κ j at_ + A (at_ + κ (31 + j)) : Nat) : Int) else iI 1000000))) (Wd f fl g gl hh v tx) := by
        split
        · rw [Nat.min_eq_right (by omega)] at h; exact h
        · rw [Nat.min_eq_left (by omega)] at h; exact h
      refine ⟨fun c => by omega, fun _ => ⟨fun c => ⟨fun c => by omega, fun _ => ⟨by omega, by omega, fin⟩⟩, fun c => ⟨fun _ => ⟨fun c => by omega, fun _ => ⟨by omega, by omega, fin⟩⟩, fun c => by omega⟩⟩⟩
    | false =>
      rw [show bI false = 0 from rfl]
      rcases hwt with hwt | ⟨w1, w2⟩
      · exact absurd hwt (by decide)
      · simp (disch := omega) only [z_lit, z_litl, z_neg, z_negl, z_add, z_sub, z_mul, z_addl, z_subl, z_mull, z_cc, z_cl, z_cr, z_cm, z_cml, z_cmr, z_lt, z_le, z_eq, z_ltl, z_lel, z_eql, z_nat, z_i2l, z_l2i, z_div, z_sh, Int.toNat_natCast, z_ts, z_tsl, x2, a1, w1]
        refine ⟨fun c => by omega, fun _ => ⟨fun c => ⟨fun _ => ⟨by omega, by omega, by omega, ?_⟩, fun c => absurd trivial c⟩, fun c => ⟨fun c => absurd trivial c, fun _ => ?_⟩⟩⟩
        · rw [prc_dif (by omega) (Or.inr (by omega)), if_neg (by decide)] at h
          split
          · rw [Nat.min_eq_right (by omega)] at h; exact h
          · rw [Nat.min_eq_left (by omega)] at h; exact h
        · rw [show prc κ false wt A at_ j = 1000000 from if_pos (Or.inr ⟨rfl, by omega⟩)] at h
          exact h
theorem c_price19 {X : mm_X} {d : Nat} {f : Nat → Int32} {fl : Nat → Int64} {g : Nat → Nat → Int32} {gl : Nat → Nat → Int64} {hh : Nat → Nat → Option Nat} {v : Nat → Value} {tx : mm_W} {P : Option Value → mm_W → Prop} {κ : Nat → Nat} (hwS : wS κ) (hwL : wL κ) (hxS : xS (f 1216) (g 20) (g 21) (g 22) κ) (hxL : xL (f 1222) (f 1223) κ) {j at_ : Nat} (hj : j < κ 55) (ha : at_ ≤ 12) {md : Bool} {wt A : Nat → Nat} (hwt : md = true ∨ (g 42 j = iI (wt j) ∧ wt j ≤ 99)) (hA : at_ + κ (31 + j) ≤ κ 12 → g 43 (at_ + κ (31 + j)) = iI (A (at_ + κ (31 + j))) ∧ A (at_ + κ (31 + j)) ≤ 1000000) (h : P (some (.int (iI (prc κ md wt A at_ j : Nat)))) (Wd f fl g gl hh v tx)) : WP X (d + 2) 9 (0, [some (.ref 38), some (.ref 19), some (.int (iI j)), some (.int (iI at_)), some (.int (iI (bI md))), none, none], [], Wd f fl g gl hh v tx) P := by
  have b55 := hwS.1
  have b12 := hwL.1
  obtain ⟨h1, h2, -⟩ := hwS.2.1 j hj
  obtain ⟨x1, x2, x3⟩ := hxS.2 j hj
  have d2 := dif_le (κ := κ) (j := j) (at_ := at_) h2
  refine b_yca_priceFrom_38_19_0 (h := ?_) ..
  refine c_others19 hwS hwL hxS hxL hj ha ?_
  refine b_yca_priceFrom_38_19_6 (h := ?_) ..
  by_cases c1 : dif κ j at_ = 1000000
  · rw [show prc κ md wt A at_ j = 1000000 from if_pos (Or.inl c1)] at h
    simp (disch := omega) only [z_lit, z_litl, z_neg, z_negl, z_add, z_sub, z_mul, z_addl, z_subl, z_mull, z_cc, z_cl, z_cr, z_cm, z_cml, z_cmr, z_lt, z_le, z_eq, z_ltl, z_lel, z_eql, z_nat, z_i2l, z_l2i, z_div, z_sh, Int.toNat_natCast, z_ts, z_tsl]
    repeat (first | refine ⟨fun c9 => by omega, fun _ => ?_⟩ | refine ⟨fun _ => ?_, fun c9 => by omega⟩ | refine ⟨by omega, ?_⟩ | refine ⟨fun c9 => absurd trivial c9, fun _ => ?_⟩ | refine ⟨fun _ => ?_, fun c9 => absurd trivial c9⟩)
    exact h
  · have d3 := dif_lt (κ := κ) (j := j) (at_ := at_) (by omega)
    obtain ⟨a1, a2⟩ := hA d3
    have hd12 : dif κ j at_ ≤ 4 := by
      rw [dif, if_neg (by omega)]
      exact Nat.le_trans (mis_le _) h2
    cases md with
    | true =>
      rw [prc_dif (by omega) (Or.inl rfl), if_pos rfl] at h
      rw [show bI true = 1 from rfl]
      simp (disch := omega) only [z_lit, z_litl, z_neg, z_negl, z_add, z_sub, z_mul, z_addl, z_subl, z_mull, z_cc, z_cl, z_cr, z_cm, z_cml, z_cmr, z_lt, z_le, z_eq, z_ltl, z_lel, z_eql, z_nat, z_i2l, z_l2i, z_div, z_sh, Int.toNat_natCast, z_ts, z_tsl, x2, a1]
      have fin : P (some (.int (if ((dif κ j at_ : Nat) : Int) + ((A (at_ + κ (31 + j)) : Nat) : Int) < 1000000 then iI ((dif κ j at_ + A (at_ + κ (31 + j)) : Nat) : Int) else iI 1000000))) (Wd f fl g gl hh v tx) := by
        split
        · rw [Nat.min_eq_right (by omega)] at h; exact h
        · rw [Nat.min_eq_left (by omega)] at h; exact h
      refine ⟨fun c => by omega, fun _ => ⟨fun c => ⟨fun c => by omega, fun _ => ⟨by omega, by omega, fin⟩⟩, fun c => ⟨fun _ => ⟨fun c => by omega, fun _ => ⟨by omega, by omega, fin⟩⟩, fun c => by omega⟩⟩⟩
    | false =>
      rw [show bI false = 0 from rfl]
      rcases hwt with hwt | ⟨w1, w2⟩
      · exact absurd hwt (by decide)
      · simp (disch := omega) only [z_lit, z_litl, z_neg, z_negl, z_add, z_sub, z_mul, z_addl, z_subl, z_mull, z_cc, z_cl, z_cr, z_cm, z_cml, z_cmr, z_lt, z_le, z_eq, z_ltl, z_lel, z_eql, z_nat, z_i2l, z_l2i, z_div, z_sh, Int.toNat_natCast, z_ts, z_tsl, x2, a1, w1]
        refine ⟨fun c => by omega, fun _ => ⟨fun c => ⟨fun _ => ⟨by omega, by omega, by omega, ?_⟩, fun c => absurd trivial c⟩, fun c => ⟨fun c => absurd trivial c, fun _ => ?_⟩⟩⟩
        · rw [prc_dif (by omega) (Or.inr (by omega)), if_neg (by decide)] at h
          split
          · rw [Nat.min_eq_right (by omega)] at h; exact h
          · rw [Nat.min_eq_left (by omega)] at h; exact h
        · rw [show prc κ false wt A at_ j = 1000000 from if_pos (Or.inr ⟨rfl, by omega⟩)] at h
          exact h
theorem c_pick1 {X : mm_X} {d : Nat} {f : Nat → Int32} {fl : Nat → Int64} {g : Nat → Nat → Int32} {gl : Nat → Nat → Int64} {hh : Nat → Nat → Option Nat} {v : Nat → Value} {tx : mm_W} {P : Option Value → mm_W → Prop} {κ : Nat → Nat} (hwS : wS κ) (hwL : wL κ) (hxS : xS (f 64) (g 2) (g 3) (g 4) κ) (hxL : xL (f 70) (f 71) κ) {md : Bool} {wt : Nat → Nat} (hwt : md = true ∨ ∀ j, j < κ 55 → g 42 j = iI (wt j) ∧ wt j ≤ 99)
    (h0 : lyF κ md wt 0 = 1000000 → ∀ a, P (some (.int (iI 0))) (Wd (va_up (va_up f 2438 (iI 1000000)) 2437 (iI 0)) fl (va_up g 43 a) gl hh v tx))
    (h1 : lyF κ md wt 0 < 1000000 → ∀ a b : Nat → Int32, (∀ i, i < pln κ md wt → b i = iI (sgn κ md wt (psn κ md wt i))) → P (some (.int (iI 1))) (Wd (va_up (va_up f 2438 (iI (lyF κ md wt 0))) 2437 (iI (pln κ md wt))) fl (va_up (va_up g 43 a) 44 b) gl hh v tx)) : WP X (d + 3) 8 (0, [some (.ref 38), some (.ref 1), some (.int (iI (bI md))), none, none, none], [], Wd f fl g gl hh v tx) P := by
  have b55 := hwS.1
  have b12 := hwL.1
  have hlo : ∀ j, j < κ 55 → 1 ≤ κ (31 + j) := fun j hj => (hwS.2.1 j hj).1
  have hL0 := lyF_le (κ := κ) (md := md) (wt := wt) 0
  -- the row that is picked
  have two : lyF κ md wt 0 < 1000000 → ∀ (r n : Nat) (a b : Nat → Int32), n + r = 13 → (∀ m, m < n → psn κ md wt m < κ 12) → (∀ i, i ≤ κ 12 → a i = iI (lyF κ md wt i)) → (∀ i, i < n → b i = iI (sgn κ md wt (psn κ md wt i))) → WP X (d + 3) 8 (90, [some (.ref 38), some (.ref 1), some (.int (iI (bI md))), some (.int (iI (psn κ md wt n))), none, none], [], Wd (va_up (va_up f 2438 (iI (lyF κ md wt 0))) 2437 (iI n)) fl (va_up (va_up g 43 a) 44 b) gl hh v tx) P := by
    intro hL r
    induction r with
    | zero =>
      intro n a b hr hm
      have q := (psn_ok (md := md) (wt := wt) hwS hL 12).2.2 (hm 12 (by omega))
      have := hm 12 (by omega)
      omega
    | succ r ih =>
      intro n a b hr hm ha hb
      obtain ⟨q1, q2, q3⟩ := psn_ok (md := md) (wt := wt) hwS hL n
      have v1 : va_up (va_up f 2438 (iI (lyF κ md wt 0))) 2437 (iI n) 2438 = iI (lyF κ md wt 0) := by rw [va_ne (by decide), va_s]
      have v2 : va_up (va_up f 2438 (iI (lyF κ md wt 0))) 2437 (iI n) 2437 = iI n := va_s
      have v3 : va_up (va_up f 2438 (iI (lyF κ md wt 0))) 2437 (iI n) 70 = iI (κ 12) := by rw [va_ne (by decide), va_ne (by decide)]; exact hxL.1
      have v4 : va_up (va_up f 2438 (iI (lyF κ md wt 0))) 2437 (iI n) 64 = iI (κ 55) := by rw [va_ne (by decide), va_ne (by decide)]; exact hxS.1
      refine b_yca_pick_38_1_90 (h := ?_) ..
      rw [v1, v2, v3]
      simp (disch := omega) only [z_lit, z_litl, z_neg, z_negl, z_add, z_sub, z_mul, z_addl, z_subl, z_mull, z_cc, z_cl, z_cr, z_cm, z_cml, z_cmr, z_lt, z_le, z_eq, z_ltl, z_lel, z_eql, z_nat, z_i2l, z_l2i, z_div, z_sh, Int.toNat_natCast, z_ts, z_tsl]
      refine ⟨fun c => by omega, fun _ => ⟨fun c => ⟨fun c => by omega, fun _ => ?_⟩, fun c => ⟨fun c2 => ?_, fun c2 => ?_⟩⟩⟩
      · have e := pln_eq (md := md) (wt := wt) (n := n) (by
          by_cases e : n ≤ 12
          · exact e
          · have := hm 12 (by omega)
            have := (psn_ok (md := md) (wt := wt) hwS hL 12).2.2 this
            omega) (by omega) hm
        have := h1 hL a b fun i hi => hb i (by omega)
        rw [e] at this
        exact this
      · have := q3 (by omega)
        omega
      · have hn := q3 (by omega)
        obtain ⟨s1, s2, s3, s4, s5, s6⟩ := sgn_spec (md := md) (wt := wt) hwS (at_ := psn κ md wt n) (by omega) q2
        have go : ∀ j, j ≤ sgn κ md wt (psn κ md wt n) → WP X (d + 3) 8 (119, [some (.ref 38), some (.ref 1), some (.int (iI (bI md))), some (.int (iI (psn κ md wt n))), some (.int (iI j)), none], [], Wd (va_up (va_up f 2438 (iI (lyF κ md wt 0))) 2437 (iI n)) fl (va_up (va_up g 43 a) 44 b) gl hh v tx) P := by
          have fin : ∀ x : Int32, x = iI (κ (31 + sgn κ md wt (psn κ md wt n))) → WP X (d + 3) 8 (90, [some (.ref 38), some (.ref 1), some (.int (iI (bI md))), some (.int (iI (psn κ md wt n) + (if iI 1 < x then x else iI 1))), none, none], [], Wd (va_up (va_up f 2438 (iI (lyF κ md wt 0))) 2437 (iI ((n + 1 : Nat) : Int))) fl (va_up (va_up g 43 a) 44 (upd b n (iI (sgn κ md wt (psn κ md wt n))))) gl hh v tx) P := by
            rintro x rfl
            have e1 : (if iI 1 < iI (κ (31 + sgn κ md wt (psn κ md wt n))) then iI (κ (31 + sgn κ md wt (psn κ md wt n))) else iI 1) = iI (κ (31 + sgn κ md wt (psn κ md wt n))) := by
              split
              · rfl
              · rename_i h
                simp (disch := omega) only [z_lit, z_litl, z_neg, z_negl, z_add, z_sub, z_mul, z_addl, z_subl, z_mull, z_cc, z_cl, z_cr, z_cm, z_cml, z_cmr, z_lt, z_le, z_eq, z_ltl, z_lel, z_eql, z_nat, z_i2l, z_l2i, z_div, z_sh, Int.toNat_natCast, z_ts, z_tsl] at h
                congr 1
                omega
            rw [e1, z_add, z_cc, ← psn_s (by omega)]
            refine ih (n + 1) a _ (by omega) (fun m hm2 => ?_) ha fun i hi => ?_
            · by_cases e : m = n
              · rw [e]; omega
              · exact hm m (by omega)
            · by_cases e : i = n
              · rw [e, upd_s]
              · rw [upd_ne e]; exact hb i (by omega)
          obtain ⟨x1, x2, x3⟩ := hxS.2 (sgn κ md wt (psn κ md wt n)) s1
          have price : ∀ j, j < κ 55 → ∀ Q, Q (some (.int (iI (prc κ md wt (lyF κ md wt) (psn κ md wt n) j : Nat)))) (Wd (va_up (va_up f 2438 (iI (lyF κ md wt 0))) 2437 (iI n)) fl (va_up (va_up g 43 a) 44 b) gl hh v tx) → WP X (d + 2) 9 (0, [some (.ref 38), some (.ref 1), some (.int (iI j)), some (.int (iI (psn κ md wt n))), some (.int (iI (bI md))), none, none], [], Wd (va_up (va_up f 2438 (iI (lyF κ md wt 0))) 2437 (iI n)) fl (va_up (va_up g 43 a) 44 b) gl hh v tx) Q := by
            intro j hj Q hQ
            refine c_price1 (g := va_up (va_up g 43 a) 44 b) (A := lyF κ md wt) (md := md) (wt := wt) hwS hwL (by exact hxS) (by exact hxL) hj (by omega) ?_ (fun h => ⟨ha _ h, lyF_le _⟩) hQ
            rcases hwt with h | h
            · exact Or.inl h
            · exact Or.inr (h j hj)
          apply k_up (Q := fun j => WP X (d + 3) 8 (119, [some (.ref 38), some (.ref 1), some (.int (iI (bI md))), some (.int (iI (psn κ md wt n))), some (.int (iI j)), none], [], Wd (va_up (va_up f 2438 (iI (lyF κ md wt 0))) 2437 (iI n)) fl (va_up (va_up g 43 a) 44 b) gl hh v tx) P)
          · refine b_yca_pick_38_1_119 (h := ?_) ..
            rw [v4, v2]
            simp (disch := omega) only [z_lit, z_litl, z_neg, z_negl, z_add, z_sub, z_mul, z_addl, z_subl, z_mull, z_cc, z_cl, z_cr, z_cm, z_cml, z_cmr, z_lt, z_le, z_eq, z_ltl, z_lel, z_eql, z_nat, z_i2l, z_l2i, z_div, z_sh, Int.toNat_natCast, z_ts, z_tsl, va_s, va_ne, va_tw]
            refine ⟨fun c5 => ⟨by omega, by omega, fin _ x2⟩, fun c5 => ?_⟩
            refine price _ s1 _ ?_
            refine b_yca_pick_38_1_139 (h := ?_) ..
            rw [v2]
            have ea := ha (psn κ md wt n) (by omega)
            simp (disch := omega) only [z_lit, z_litl, z_neg, z_negl, z_add, z_sub, z_mul, z_addl, z_subl, z_mull, z_cc, z_cl, z_cr, z_cm, z_cml, z_cmr, z_lt, z_le, z_eq, z_ltl, z_lel, z_eql, z_nat, z_i2l, z_l2i, z_div, z_sh, Int.toNat_natCast, z_ts, z_tsl, va_s, va_ne, va_tw, ea, s2]
            repeat (first | refine ⟨fun c9 => by omega, fun _ => ?_⟩ | refine ⟨fun _ => ?_, fun c9 => by omega⟩ | refine ⟨by omega, ?_⟩ | refine ⟨fun c9 => absurd trivial c9, fun _ => ?_⟩ | refine ⟨fun _ => ?_, fun c9 => absurd trivial c9⟩)
            exact fin _ x2
          · intro j hj ih3
            have hne := s3 j hj
            have hpl := prc_le (κ := κ) (md := md) (wt := wt) (a := lyF κ md wt) (at_ := psn κ md wt n) (j := j)
            refine b_yca_pick_38_1_119 (h := ?_) ..
            rw [v4, v2]
            simp (disch := omega) only [z_lit, z_litl, z_neg, z_negl, z_add, z_sub, z_mul, z_addl, z_subl, z_mull, z_cc, z_cl, z_cr, z_cm, z_cml, z_cmr, z_lt, z_le, z_eq, z_ltl, z_lel, z_eql, z_nat, z_i2l, z_l2i, z_div, z_sh, Int.toNat_natCast, z_ts, z_tsl, va_s, va_ne, va_tw]
            refine ⟨fun c5 => by omega, fun c5 => ?_⟩
            refine price _ (by omega) _ ?_
            refine b_yca_pick_38_1_139 (h := ?_) ..
            rw [v2]
            have ea := ha (psn κ md wt n) (by omega)
            simp (disch := omega) only [z_lit, z_litl, z_neg, z_negl, z_add, z_sub, z_mul, z_addl, z_subl, z_mull, z_cc, z_cl, z_cr, z_cm, z_cml, z_cmr, z_lt, z_le, z_eq, z_ltl, z_lel, z_eql, z_nat, z_i2l, z_l2i, z_div, z_sh, Int.toNat_natCast, z_ts, z_tsl, va_s, va_ne, va_tw, ea]
            refine ⟨by omega, fun c6 => by omega, fun c6 => ?_⟩
            exact ih3
        exact go 0 (Nat.zero_le _)
  -- the least from each place
  have one : ∀ r, r ≤ κ 12 → ∀ a : Nat → Int32, (∀ i, κ 12 - r ≤ i → i ≤ κ 12 → a i = iI (ly κ md wt r i)) → WP X (d + 3) 8 (17, [some (.ref 38), some (.ref 1), some (.int (iI (bI md))), some (.int (iI ((κ 12 : Int) - (r : Int) - 1))), none, none], [], Wd f fl (va_up g 43 a) gl hh v tx) P := by
    apply k_up (Q := fun r => ∀ a : Nat → Int32, (∀ i, κ 12 - r ≤ i → i ≤ κ 12 → a i = iI (ly κ md wt r i)) → WP X (d + 3) 8 (17, [some (.ref 38), some (.ref 1), some (.int (iI (bI md))), some (.int (iI ((κ 12 : Int) - (r : Int) - 1))), none, none], [], Wd f fl (va_up g 43 a) gl hh v tx) P)
    · intro a ha
      refine b_yca_pick_38_1_17 (h := ?_) ..
      have e0 := ha 0 (by omega) (by omega)
      simp (disch := omega) only [z_lit, z_litl, z_neg, z_negl, z_add, z_sub, z_mul, z_addl, z_subl, z_mull, z_cc, z_cl, z_cr, z_cm, z_cml, z_cmr, z_lt, z_le, z_eq, z_ltl, z_lel, z_eql, z_nat, z_i2l, z_l2i, z_div, z_sh, Int.toNat_natCast, z_ts, z_tsl, va_s, e0]
      refine ⟨fun _ => ?_, fun c => by omega⟩
      by_cases hL : lyF κ md wt 0 = 1000000
      · refine b_yca_pick_38_1_90 (h := ?_) ..
        have hL' : ly κ md wt (κ 12) 0 = 1000000 := hL
        have v1 : va_up (va_up f 2438 (iI (ly κ md wt (κ 12) 0))) 2437 (iI 0) 2438 = iI 1000000 := by rw [va_ne (by decide), va_s, hL']; rfl
        rw [v1]
        simp (disch := omega) only [z_lit, z_litl, z_neg, z_negl, z_add, z_sub, z_mul, z_addl, z_subl, z_mull, z_cc, z_cl, z_cr, z_cm, z_cml, z_cmr, z_lt, z_le, z_eq, z_ltl, z_lel, z_eql, z_nat, z_i2l, z_l2i, z_div, z_sh, Int.toNat_natCast, z_ts, z_tsl]
        refine ⟨fun _ => ⟨fun _ => ?_, fun c => by omega⟩, fun c => by omega⟩
        have := h0 hL a
        rw [hL']
        exact this
      · have := two (by omega) 13 0 a (g 44) rfl (fun m hm => absurd hm (Nat.not_lt_zero m)) (fun i hi => ha i (by omega) hi) fun i hi => absurd hi (Nat.not_lt_zero i)
        rw [show va_up (va_up g 43 a) 44 (g 44) = va_up g 43 a by
          funext j
          by_cases e : j = 44
          · rw [e, va_s, va_ne (by decide)]
          · rw [va_ne e]] at this
        exact this
    · intro r hr ih a ha
      rw [show (κ 12 : Int) - (r : Int) - 1 = ((κ 12 - (r + 1) : Nat) : Int) by omega]
      refine b_yca_pick_38_1_17 (h := ?_) ..
      simp (disch := omega) only [z_lit, z_litl, z_neg, z_negl, z_add, z_sub, z_mul, z_addl, z_subl, z_mull, z_cc, z_cl, z_cr, z_cm, z_cml, z_cmr, z_lt, z_le, z_eq, z_ltl, z_lel, z_eql, z_nat, z_i2l, z_l2i, z_div, z_sh, Int.toNat_natCast, z_ts, z_tsl]
      refine ⟨fun c => by omega, fun _ => ?_⟩
      have inner : ∀ j, j ≤ κ 55 → WP X (d + 3) 8 (28, [some (.ref 38), some (.ref 1), some (.int (iI (bI md))), some (.int (iI ((κ 12 - (r + 1) : Nat) : Int))), some (.int (iI (mS (prc κ md wt (ly κ md wt r) (κ 12 - (r + 1))) j : Nat))), some (.int (iI j))], [], Wd f fl (va_up g 43 a) gl hh v tx) P := by
        apply k_up (Q := fun j => WP X (d + 3) 8 (28, [some (.ref 38), some (.ref 1), some (.int (iI (bI md))), some (.int (iI ((κ 12 - (r + 1) : Nat) : Int))), some (.int (iI (mS (prc κ md wt (ly κ md wt r) (κ 12 - (r + 1))) j : Nat))), some (.int (iI j))], [], Wd f fl (va_up g 43 a) gl hh v tx) P)
        · refine b_yca_pick_38_1_28 (h := ?_) ..
          simp (disch := omega) only [z_lit, z_litl, z_neg, z_negl, z_add, z_sub, z_mul, z_addl, z_subl, z_mull, z_cc, z_cl, z_cr, z_cm, z_cml, z_cmr, z_lt, z_le, z_eq, z_ltl, z_lel, z_eql, z_nat, z_i2l, z_l2i, z_div, z_sh, Int.toNat_natCast, z_ts, z_tsl, hxS.1, va_s, va_tw]
          refine ⟨fun _ => ⟨by omega, ?_⟩, fun c => by omega⟩
          rw [show ((κ 12 - (r + 1) : Nat) : Int) + -1 = (κ 12 : Int) - ((r + 1 : Nat) : Int) - 1 by omega]
          refine ih _ fun i hi hi2 => ?_
          by_cases e : i = κ 12 - (r + 1)
          · rw [e, upd_s, ly, va_s]
          · rw [upd_ne e, ly, va_ne e]; exact ha i (by omega) hi2
        · intro j hj ih2
          have m1 := mS_le (t := prc κ md wt (ly κ md wt r) (κ 12 - (r + 1))) j
          have m2 := prc_le (κ := κ) (md := md) (wt := wt) (a := ly κ md wt r) (at_ := κ 12 - (r + 1)) (j := j)
          have l1 := hlo j hj
          refine b_yca_pick_38_1_28 (h := ?_) ..
          simp (disch := omega) only [z_lit, z_litl, z_neg, z_negl, z_add, z_sub, z_mul, z_addl, z_subl, z_mull, z_cc, z_cl, z_cr, z_cm, z_cml, z_cmr, z_lt, z_le, z_eq, z_ltl, z_lel, z_eql, z_nat, z_i2l, z_l2i, z_div, z_sh, Int.toNat_natCast, z_ts, z_tsl, hxS.1]
          refine ⟨fun c => by omega, fun _ => ?_⟩
          refine c_price1 (g := va_up g 43 a) (A := ly κ md wt r) (md := md) (wt := wt) (at_ := κ 12 - (r + 1)) hwS hwL (by exact hxS) (by exact hxL) hj (by omega) ?_ (fun h => ⟨ha _ (by omega) h, ly_le _ _⟩) ?_
          · rcases hwt with h | h
            · exact Or.inl h
            · exact Or.inr (h j hj)
          · refine b_yca_pick_38_1_48 (h := ?_) ..
            have e1 : (if iI (prc κ md wt (ly κ md wt r) (κ 12 - (r + 1)) j : Nat) < iI (mS (prc κ md wt (ly κ md wt r) (κ 12 - (r + 1))) j : Nat) then iI (prc κ md wt (ly κ md wt r) (κ 12 - (r + 1)) j : Nat) else iI (mS (prc κ md wt (ly κ md wt r) (κ 12 - (r + 1))) j : Nat)) = iI (mS (prc κ md wt (ly κ md wt r) (κ 12 - (r + 1))) (j + 1) : Nat) := by
              rw [mS]
              split
              · rename_i h
                simp (disch := omega) only [z_lit, z_litl, z_neg, z_negl, z_add, z_sub, z_mul, z_addl, z_subl, z_mull, z_cc, z_cl, z_cr, z_cm, z_cml, z_cmr, z_lt, z_le, z_eq, z_ltl, z_lel, z_eql, z_nat, z_i2l, z_l2i, z_div, z_sh, Int.toNat_natCast, z_ts, z_tsl] at h
                congr 1
                omega
              · rename_i h
                simp (disch := omega) only [z_lit, z_litl, z_neg, z_negl, z_add, z_sub, z_mul, z_addl, z_subl, z_mull, z_cc, z_cl, z_cr, z_cm, z_cml, z_cmr, z_lt, z_le, z_eq, z_ltl, z_lel, z_eql, z_nat, z_i2l, z_l2i, z_div, z_sh, Int.toNat_natCast, z_ts, z_tsl] at h
                congr 1
                omega
            rw [e1, show iI (j : Int) + 1 = iI ((j + 1 : Nat) : Int) by rw [show (1 : Int32) = iI 1 from rfl, z_add]; rfl]
            exact ih2
      exact inner 0 (Nat.zero_le _)
  refine b_yca_pick_38_1_0 (h := ?_) ..
  simp (disch := omega) only [z_lit, z_litl, z_neg, z_negl, z_add, z_sub, z_mul, z_addl, z_subl, z_mull, z_cc, z_cl, z_cr, z_cm, z_cml, z_cmr, z_lt, z_le, z_eq, z_ltl, z_lel, z_eql, z_nat, z_i2l, z_l2i, z_div, z_sh, Int.toNat_natCast, z_ts, z_tsl, hxL.1]
  refine ⟨by omega, ?_⟩
  rw [show (κ 12 : Int) - 1 = (κ 12 : Int) - ((0 : Nat) : Int) - 1 by omega]
  exact one 0 (Nat.zero_le _) _ fun i hi hi2 => by
    rw [show i = κ 12 by omega, upd_s, ly, va_s]
    rfl
theorem c_pick19 {X : mm_X} {d : Nat} {f : Nat → Int32} {fl : Nat → Int64} {g : Nat → Nat → Int32} {gl : Nat → Nat → Int64} {hh : Nat → Nat → Option Nat} {v : Nat → Value} {tx : mm_W} {P : Option Value → mm_W → Prop} {κ : Nat → Nat} (hwS : wS κ) (hwL : wL κ) (hxS : xS (f 1216) (g 20) (g 21) (g 22) κ) (hxL : xL (f 1222) (f 1223) κ) {md : Bool} {wt : Nat → Nat} (hwt : md = true ∨ ∀ j, j < κ 55 → g 42 j = iI (wt j) ∧ wt j ≤ 99)
    (h0 : lyF κ md wt 0 = 1000000 → ∀ a, P (some (.int (iI 0))) (Wd (va_up (va_up f 2438 (iI 1000000)) 2437 (iI 0)) fl (va_up g 43 a) gl hh v tx))
    (h1 : lyF κ md wt 0 < 1000000 → ∀ a b : Nat → Int32, (∀ i, i < pln κ md wt → b i = iI (sgn κ md wt (psn κ md wt i))) → P (some (.int (iI 1))) (Wd (va_up (va_up f 2438 (iI (lyF κ md wt 0))) 2437 (iI (pln κ md wt))) fl (va_up (va_up g 43 a) 44 b) gl hh v tx)) : WP X (d + 3) 8 (0, [some (.ref 38), some (.ref 19), some (.int (iI (bI md))), none, none, none], [], Wd f fl g gl hh v tx) P := by
  have b55 := hwS.1
  have b12 := hwL.1
  have hlo : ∀ j, j < κ 55 → 1 ≤ κ (31 + j) := fun j hj => (hwS.2.1 j hj).1
  have hL0 := lyF_le (κ := κ) (md := md) (wt := wt) 0
  -- the row that is picked
  have two : lyF κ md wt 0 < 1000000 → ∀ (r n : Nat) (a b : Nat → Int32), n + r = 13 → (∀ m, m < n → psn κ md wt m < κ 12) → (∀ i, i ≤ κ 12 → a i = iI (lyF κ md wt i)) → (∀ i, i < n → b i = iI (sgn κ md wt (psn κ md wt i))) → WP X (d + 3) 8 (90, [some (.ref 38), some (.ref 19), some (.int (iI (bI md))), some (.int (iI (psn κ md wt n))), none, none], [], Wd (va_up (va_up f 2438 (iI (lyF κ md wt 0))) 2437 (iI n)) fl (va_up (va_up g 43 a) 44 b) gl hh v tx) P := by
    intro hL r
    induction r with
    | zero =>
      intro n a b hr hm
      have q := (psn_ok (md := md) (wt := wt) hwS hL 12).2.2 (hm 12 (by omega))
      have := hm 12 (by omega)
      omega
    | succ r ih =>
      intro n a b hr hm ha hb
      obtain ⟨q1, q2, q3⟩ := psn_ok (md := md) (wt := wt) hwS hL n
      have v1 : va_up (va_up f 2438 (iI (lyF κ md wt 0))) 2437 (iI n) 2438 = iI (lyF κ md wt 0) := by rw [va_ne (by decide), va_s]
      have v2 : va_up (va_up f 2438 (iI (lyF κ md wt 0))) 2437 (iI n) 2437 = iI n := va_s
      have v3 : va_up (va_up f 2438 (iI (lyF κ md wt 0))) 2437 (iI n) 1222 = iI (κ 12) := by rw [va_ne (by decide), va_ne (by decide)]; exact hxL.1
      have v4 : va_up (va_up f 2438 (iI (lyF κ md wt 0))) 2437 (iI n) 1216 = iI (κ 55) := by rw [va_ne (by decide), va_ne (by decide)]; exact hxS.1
      refine b_yca_pick_38_19_90 (h := ?_) ..
      rw [v1, v2, v3]
      simp (disch := omega) only [z_lit, z_litl, z_neg, z_negl, z_add, z_sub, z_mul, z_addl, z_subl, z_mull, z_cc, z_cl, z_cr, z_cm, z_cml, z_cmr, z_lt, z_le, z_eq, z_ltl, z_lel, z_eql, z_nat, z_i2l, z_l2i, z_div, z_sh, Int.toNat_natCast, z_ts, z_tsl]
      refine ⟨fun c => by omega, fun _ => ⟨fun c => ⟨fun c => by omega, fun _ => ?_⟩, fun c => ⟨fun c2 => ?_, fun c2 => ?_⟩⟩⟩
      · have e := pln_eq (md := md) (wt := wt) (n := n) (by
          by_cases e : n ≤ 12
          · exact e
          · have := hm 12 (by omega)
            have := (psn_ok (md := md) (wt := wt) hwS hL 12).2.2 this
            omega) (by omega) hm
        have := h1 hL a b fun i hi => hb i (by omega)
        rw [e] at this
        exact this
      · have := q3 (by omega)
        omega
      · have hn := q3 (by omega)
        obtain ⟨s1, s2, s3, s4, s5, s6⟩ := sgn_spec (md := md) (wt := wt) hwS (at_ := psn κ md wt n) (by omega) q2
        have go : ∀ j, j ≤ sgn κ md wt (psn κ md wt n) → WP X (d + 3) 8 (119, [some (.ref 38), some (.ref 19), some (.int (iI (bI md))), some (.int (iI (psn κ md wt n))), some (.int (iI j)), none], [], Wd (va_up (va_up f 2438 (iI (lyF κ md wt 0))) 2437 (iI n)) fl (va_up (va_up g 43 a) 44 b) gl hh v tx) P := by
          have fin : ∀ x : Int32, x = iI (κ (31 + sgn κ md wt (psn κ md wt n))) → WP X (d + 3) 8 (90, [some (.ref 38), some (.ref 19), some (.int (iI (bI md))), some (.int (iI (psn κ md wt n) + (if iI 1 < x then x else iI 1))), none, none], [], Wd (va_up (va_up f 2438 (iI (lyF κ md wt 0))) 2437 (iI ((n + 1 : Nat) : Int))) fl (va_up (va_up g 43 a) 44 (upd b n (iI (sgn κ md wt (psn κ md wt n))))) gl hh v tx) P := by
            rintro x rfl
            have e1 : (if iI 1 < iI (κ (31 + sgn κ md wt (psn κ md wt n))) then iI (κ (31 + sgn κ md wt (psn κ md wt n))) else iI 1) = iI (κ (31 + sgn κ md wt (psn κ md wt n))) := by
              split
              · rfl
              · rename_i h
                simp (disch := omega) only [z_lit, z_litl, z_neg, z_negl, z_add, z_sub, z_mul, z_addl, z_subl, z_mull, z_cc, z_cl, z_cr, z_cm, z_cml, z_cmr, z_lt, z_le, z_eq, z_ltl, z_lel, z_eql, z_nat, z_i2l, z_l2i, z_div, z_sh, Int.toNat_natCast, z_ts, z_tsl] at h
                congr 1
                omega
            rw [e1, z_add, z_cc, ← psn_s (by omega)]
            refine ih (n + 1) a _ (by omega) (fun m hm2 => ?_) ha fun i hi => ?_
            · by_cases e : m = n
              · rw [e]; omega
              · exact hm m (by omega)
            · by_cases e : i = n
              · rw [e, upd_s]
              · rw [upd_ne e]; exact hb i (by omega)
          obtain ⟨x1, x2, x3⟩ := hxS.2 (sgn κ md wt (psn κ md wt n)) s1
          have price : ∀ j, j < κ 55 → ∀ Q, Q (some (.int (iI (prc κ md wt (lyF κ md wt) (psn κ md wt n) j : Nat)))) (Wd (va_up (va_up f 2438 (iI (lyF κ md wt 0))) 2437 (iI n)) fl (va_up (va_up g 43 a) 44 b) gl hh v tx) → WP X (d + 2) 9 (0, [some (.ref 38), some (.ref 19), some (.int (iI j)), some (.int (iI (psn κ md wt n))), some (.int (iI (bI md))), none, none], [], Wd (va_up (va_up f 2438 (iI (lyF κ md wt 0))) 2437 (iI n)) fl (va_up (va_up g 43 a) 44 b) gl hh v tx) Q := by
            intro j hj Q hQ
            refine c_price19 (g := va_up (va_up g 43 a) 44 b) (A := lyF κ md wt) (md := md) (wt := wt) hwS hwL (by exact hxS) (by exact hxL) hj (by omega) ?_ (fun h => ⟨ha _ h, lyF_le _⟩) hQ
            rcases hwt with h | h
            · exact Or.inl h
            · exact Or.inr (h j hj)
          apply k_up (Q := fun j => WP X (d + 3) 8 (119, [some (.ref 38), some (.ref 19), some (.int (iI (bI md))), some (.int (iI (psn κ md wt n))), some (.int (iI j)), none], [], Wd (va_up (va_up f 2438 (iI (lyF κ md wt 0))) 2437 (iI n)) fl (va_up (va_up g 43 a) 44 b) gl hh v tx) P)
          · refine b_yca_pick_38_19_119 (h := ?_) ..
            rw [v4, v2]
            simp (disch := omega) only [z_lit, z_litl, z_neg, z_negl, z_add, z_sub, z_mul, z_addl, z_subl, z_mull, z_cc, z_cl, z_cr, z_cm, z_cml, z_cmr, z_lt, z_le, z_eq, z_ltl, z_lel, z_eql, z_nat, z_i2l, z_l2i, z_div, z_sh, Int.toNat_natCast, z_ts, z_tsl, va_s, va_ne, va_tw]
            refine ⟨fun c5 => ⟨by omega, by omega, fin _ x2⟩, fun c5 => ?_⟩
            refine price _ s1 _ ?_
            refine b_yca_pick_38_19_139 (h := ?_) ..
            rw [v2]
            have ea := ha (psn κ md wt n) (by omega)
            simp (disch := omega) only [z_lit, z_litl, z_neg, z_negl, z_add, z_sub, z_mul, z_addl, z_subl, z_mull, z_cc, z_cl, z_cr, z_cm, z_cml, z_cmr, z_lt, z_le, z_eq, z_ltl, z_lel, z_eql, z_nat, z_i2l, z_l2i, z_div, z_sh, Int.toNat_natCast, z_ts, z_tsl, va_s, va_ne, va_tw, ea, s2]
            repeat (first | refine ⟨fun c9 => by omega, fun _ => ?_⟩ | refine ⟨fun _ => ?_, fun c9 => by omega⟩ | refine ⟨by omega, ?_⟩ | refine ⟨fun c9 => absurd trivial c9, fun _ => ?_⟩ | refine ⟨fun _ => ?_, fun c9 => absurd trivial c9⟩)
            exact fin _ x2
          · intro j hj ih3
            have hne := s3 j hj
            have hpl := prc_le (κ := κ) (md := md) (wt := wt) (a := lyF κ md wt) (at_ := psn κ md wt n) (j := j)
            refine b_yca_pick_38_19_119 (h := ?_) ..
            rw [v4, v2]
            simp (disch := omega) only [z_lit, z_litl, z_neg, z_negl, z_add, z_sub, z_mul, z_addl, z_subl, z_mull, z_cc, z_cl, z_cr, z_cm, z_cml, z_cmr, z_lt, z_le, z_eq, z_ltl, z_lel, z_eql, z_nat, z_i2l, z_l2i, z_div, z_sh, Int.toNat_natCast, z_ts, z_tsl, va_s, va_ne, va_tw]
            refine ⟨fun c5 => by omega, fun c5 => ?_⟩
            refine price _ (by omega) _ ?_
            refine b_yca_pick_38_19_139 (h := ?_) ..
            rw [v2]
            have ea := ha (psn κ md wt n) (by omega)
            simp (disch := omega) only [z_lit, z_litl, z_neg, z_negl, z_add, z_sub, z_mul, z_addl, z_subl, z_mull, z_cc, z_cl, z_cr, z_cm, z_cml, z_cmr, z_lt, z_le, z_eq, z_ltl, z_lel, z_eql, z_nat, z_i2l, z_l2i, z_div, z_sh, Int.toNat_natCast, z_ts, z_tsl, va_s, va_ne, va_tw, ea]
            refine ⟨by omega, fun c6 => by omega, fun c6 => ?_⟩
            exact ih3
        exact go 0 (Nat.zero_le _)
  -- the least from each place
  have one : ∀ r, r ≤ κ 12 → ∀ a : Nat → Int32, (∀ i, κ 12 - r ≤ i → i ≤ κ 12 → a i = iI (ly κ md wt r i)) → WP X (d + 3) 8 (17, [some (.ref 38), some (.ref 19), some (.int (iI (bI md))), some (.int (iI ((κ 12 : Int) - (r : Int) - 1))), none, none], [], Wd f fl (va_up g 43 a) gl hh v tx) P := by
    apply k_up (Q := fun r => ∀ a : Nat → Int32, (∀ i, κ 12 - r ≤ i → i ≤ κ 12 → a i = iI (ly κ md wt r i)) → WP X (d + 3) 8 (17, [some (.ref 38), some (.ref 19), some (.int (iI (bI md))), some (.int (iI ((κ 12 : Int) - (r : Int) - 1))), none, none], [], Wd f fl (va_up g 43 a) gl hh v tx) P)
    · intro a ha
      refine b_yca_pick_38_19_17 (h := ?_) ..
      have e0 := ha 0 (by omega) (by omega)
      simp (disch := omega) only [z_lit, z_litl, z_neg, z_negl, z_add, z_sub, z_mul, z_addl, z_subl, z_mull, z_cc, z_cl, z_cr, z_cm, z_cml, z_cmr, z_lt, z_le, z_eq, z_ltl, z_lel, z_eql, z_nat, z_i2l, z_l2i, z_div, z_sh, Int.toNat_natCast, z_ts, z_tsl, va_s, e0]
      refine ⟨fun _ => ?_, fun c => by omega⟩
      by_cases hL : lyF κ md wt 0 = 1000000
      · refine b_yca_pick_38_19_90 (h := ?_) ..
        have hL' : ly κ md wt (κ 12) 0 = 1000000 := hL
        have v1 : va_up (va_up f 2438 (iI (ly κ md wt (κ 12) 0))) 2437 (iI 0) 2438 = iI 1000000 := by rw [va_ne (by decide), va_s, hL']; rfl
        rw [v1]
        simp (disch := omega) only [z_lit, z_litl, z_neg, z_negl, z_add, z_sub, z_mul, z_addl, z_subl, z_mull, z_cc, z_cl, z_cr, z_cm, z_cml, z_cmr, z_lt, z_le, z_eq, z_ltl, z_lel, z_eql, z_nat, z_i2l, z_l2i, z_div, z_sh, Int.toNat_natCast, z_ts, z_tsl]
        refine ⟨fun _ => ⟨fun _ => ?_, fun c => by omega⟩, fun c => by omega⟩
        have := h0 hL a
        rw [hL']
        exact this
      · have := two (by omega) 13 0 a (g 44) rfl (fun m hm => absurd hm (Nat.not_lt_zero m)) (fun i hi => ha i (by omega) hi) fun i hi => absurd hi (Nat.not_lt_zero i)
        rw [show va_up (va_up g 43 a) 44 (g 44) = va_up g 43 a by
          funext j
          by_cases e : j = 44
          · rw [e, va_s, va_ne (by decide)]
          · rw [va_ne e]] at this
        exact this
    · intro r hr ih a ha
      rw [show (κ 12 : Int) - (r : Int) - 1 = ((κ 12 - (r + 1) : Nat) : Int) by omega]
      refine b_yca_pick_38_19_17 (h := ?_) ..
      simp (disch := omega) only [z_lit, z_litl, z_neg, z_negl, z_add, z_sub, z_mul, z_addl, z_subl, z_mull, z_cc, z_cl, z_cr, z_cm, z_cml, z_cmr, z_lt, z_le, z_eq, z_ltl, z_lel, z_eql, z_nat, z_i2l, z_l2i, z_div, z_sh, Int.toNat_natCast, z_ts, z_tsl]
      refine ⟨fun c => by omega, fun _ => ?_⟩
      have inner : ∀ j, j ≤ κ 55 → WP X (d + 3) 8 (28, [some (.ref 38), some (.ref 19), some (.int (iI (bI md))), some (.int (iI ((κ 12 - (r + 1) : Nat) : Int))), some (.int (iI (mS (prc κ md wt (ly κ md wt r) (κ 12 - (r + 1))) j : Nat))), some (.int (iI j))], [], Wd f fl (va_up g 43 a) gl hh v tx) P := by
        apply k_up (Q := fun j => WP X (d + 3) 8 (28, [some (.ref 38), some (.ref 19), some (.int (iI (bI md))), some (.int (iI ((κ 12 - (r + 1) : Nat) : Int))), some (.int (iI (mS (prc κ md wt (ly κ md wt r) (κ 12 - (r + 1))) j : Nat))), some (.int (iI j))], [], Wd f fl (va_up g 43 a) gl hh v tx) P)
        · refine b_yca_pick_38_19_28 (h := ?_) ..
          simp (disch := omega) only [z_lit, z_litl, z_neg, z_negl, z_add, z_sub, z_mul, z_addl, z_subl, z_mull, z_cc, z_cl, z_cr, z_cm, z_cml, z_cmr, z_lt, z_le, z_eq, z_ltl, z_lel, z_eql, z_nat, z_i2l, z_l2i, z_div, z_sh, Int.toNat_natCast, z_ts, z_tsl, hxS.1, va_s, va_tw]
          refine ⟨fun _ => ⟨by omega, ?_⟩, fun c => by omega⟩
          rw [show ((κ 12 - (r + 1) : Nat) : Int) + -1 = (κ 12 : Int) - ((r + 1 : Nat) : Int) - 1 by omega]
          refine ih _ fun i hi hi2 => ?_
          by_cases e : i = κ 12 - (r + 1)
          · rw [e, upd_s, ly, va_s]
          · rw [upd_ne e, ly, va_ne e]; exact ha i (by omega) hi2
        · intro j hj ih2
          have m1 := mS_le (t := prc κ md wt (ly κ md wt r) (κ 12 - (r + 1))) j
          have m2 := prc_le (κ := κ) (md := md) (wt := wt) (a := ly κ md wt r) (at_ := κ 12 - (r + 1)) (j := j)
          have l1 := hlo j hj
          refine b_yca_pick_38_19_28 (h := ?_) ..
          simp (disch := omega) only [z_lit, z_litl, z_neg, z_negl, z_add, z_sub, z_mul, z_addl, z_subl, z_mull, z_cc, z_cl, z_cr, z_cm, z_cml, z_cmr, z_lt, z_le, z_eq, z_ltl, z_lel, z_eql, z_nat, z_i2l, z_l2i, z_div, z_sh, Int.toNat_natCast, z_ts, z_tsl, hxS.1]
          refine ⟨fun c => by omega, fun _ => ?_⟩
          refine c_price19 (g := va_up g 43 a) (A := ly κ md wt r) (md := md) (wt := wt) (at_ := κ 12 - (r + 1)) hwS hwL (by exact hxS) (by exact hxL) hj (by omega) ?_ (fun h => ⟨ha _ (by omega) h, ly_le _ _⟩) ?_
          · rcases hwt with h | h
            · exact Or.inl h
            · exact Or.inr (h j hj)
          · refine b_yca_pick_38_19_48 (h := ?_) ..
            have e1 : (if iI (prc κ md wt (ly κ md wt r) (κ 12 - (r + 1)) j : Nat) < iI (mS (prc κ md wt (ly κ md wt r) (κ 12 - (r + 1))) j : Nat) then iI (prc κ md wt (ly κ md wt r) (κ 12 - (r + 1)) j : Nat) else iI (mS (prc κ md wt (ly κ md wt r) (κ 12 - (r + 1))) j : Nat)) = iI (mS (prc κ md wt (ly κ md wt r) (κ 12 - (r + 1))) (j + 1) : Nat) := by
              rw [mS]
              split
              · rename_i h
                simp (disch := omega) only [z_lit, z_litl, z_neg, z_negl, z_add, z_sub, z_mul, z_addl, z_subl, z_mull, z_cc, z_cl, z_cr, z_cm, z_cml, z_cmr, z_lt, z_le, z_eq, z_ltl, z_lel, z_eql, z_nat, z_i2l, z_l2i, z_div, z_sh, Int.toNat_natCast, z_ts, z_tsl] at h
                congr 1
                omega
              · rename_i h
                simp (disch := omega) only [z_lit, z_litl, z_neg, z_negl, z_add, z_sub, z_mul, z_addl, z_subl, z_mull, z_cc, z_cl, z_cr, z_cm, z_cml, z_cmr, z_lt, z_le, z_eq, z_ltl, z_lel, z_eql, z_nat, z_i2l, z_l2i, z_div, z_sh, Int.toNat_natCast, z_ts, z_tsl] at h
                congr 1
                omega
            rw [e1, show iI (j : Int) + 1 = iI ((j + 1 : Nat) : Int) by rw [show (1 : Int32) = iI 1 from rfl, z_add]; rfl]
            exact ih2
      exact inner 0 (Nat.zero_le _)
  refine b_yca_pick_38_19_0 (h := ?_) ..
  simp (disch := omega) only [z_lit, z_litl, z_neg, z_negl, z_add, z_sub, z_mul, z_addl, z_subl, z_mull, z_cc, z_cl, z_cr, z_cm, z_cml, z_cmr, z_lt, z_le, z_eq, z_ltl, z_lel, z_eql, z_nat, z_i2l, z_l2i, z_div, z_sh, Int.toNat_natCast, z_ts, z_tsl, hxL.1]
  refine ⟨by omega, ?_⟩
  rw [show (κ 12 : Int) - 1 = (κ 12 : Int) - ((0 : Nat) : Int) - 1 by omega]
  exact one 0 (Nat.zero_le _) _ fun i hi hi2 => by
    rw [show i = κ 12 by omega, upd_s, ly, va_s]
    rfl
