/-! the reference picks a reading -/
theorem c_m_leastWith {X : mm_X} {d : Nat} {f : Nat → Int32} {fl : Nat → Int64} {g : Nat → Nat → Int32} {gl : Nat → Nat → Int64} {hh : Nat → Nat → Option Nat} {v : Nat → Value} {tx : mm_W} {P : Option Value → mm_W → Prop} {κ : Nat → Nat} (hm : ms (g 76) κ) (hwS : wS κ) (hwL : wL κ) {j at_ : Nat} (hj : j < κ 55) (ha : at_ ≤ 12) {md : Bool} {wt A : Nat → Nat} (hwt : md = true ∨ (g 89 j = iI (wt j) ∧ wt j ≤ 99)) (hA : at_ + κ (31 + j) ≤ κ 12 → g 88 (at_ + κ (31 + j)) = iI (A (at_ + κ (31 + j))) ∧ A (at_ + κ (31 + j)) ≤ 1000000) (h : P (some (.int (iI (prc κ md wt A at_ j : Nat)))) (Wd f fl g gl hh v tx)) : WP X (d + 2) 197 (0, [some (.ref 74), some (.int (iI j)), some (.int (iI at_)), some (.int (iI (bI md))), none], [], Wd f fl g gl hh v tx) P := by
  have b55 := hwS.1
  have b12 := hwL.1
  obtain ⟨h1, h2, -⟩ := hwS.2.1 j hj
  have e31 := hm.1 (31 + j) (by omega)
  have d2 := dif_le (κ := κ) (j := j) (at_ := at_) h2
  refine b_m_leastWith_0 (h := ?_) ..
  refine c_m_differsAt hm hwS hwL hj ha ?_
  refine b_m_leastWith_6 (h := ?_) ..
  by_cases c1 : dif κ j at_ = 1000000
  · rw [show prc κ md wt A at_ j = 1000000 from if_pos (Or.inl c1)] at h
    simp (disch := omega) only [z_lit, z_litl, z_neg, z_negl, z_add, z_sub, z_mul, z_addl, z_subl, z_mull, z_cc, z_cl, z_cr, z_cm, z_cml, z_cmr, z_lt, z_le, z_eq, z_ltl, z_lel, z_eql, z_nat, z_i2l, z_l2i, z_div, z_sh, Int.toNat_natCast, z_ts, z_tsl]
    repeat (first | refine ⟨fun c9 => by omega, fun _ => ?_⟩ | refine ⟨fun _ => ?_, fun c9 => by omega⟩ | refine ⟨by omega, ?_⟩ | refine ⟨fun c9 => absurd trivial c9, fun _ => ?_⟩ | refine ⟨fun _ => ?_, fun c9 => absurd trivial c9⟩)
    exact h
  · have d3 := dif_lt (κ := κ) (j := j) (at_ := at_) (by omega)
    obtain ⟨a1, a2⟩ := hA d3
    have hd12 : dif κ j at_ ≤ 4 := by
      rw [dif, if_neg (by omega)]
      exact Nat.le_trans (mis_le _) h2
    cases md with
    | true =>
      rw [prc_dif (by omega) (Or.inl rfl), if_pos rfl] at h
      rw [show bI true = 1 from rfl]
      simp (disch := omega) only [z_lit, z_litl, z_neg, z_negl, z_add, z_sub, z_mul, z_addl, z_subl, z_mull, z_cc, z_cl, z_cr, z_cm, z_cml, z_cmr, z_lt, z_le, z_eq, z_ltl, z_lel, z_eql, z_nat, z_i2l, z_l2i, z_div, z_sh, Int.toNat_natCast, z_ts, z_tsl]
      refine ⟨fun c => by omega, fun _ => ⟨fun _ => ?_, fun c => by omega⟩⟩
      refine b_m_leastWith_27 (h := ?_) ..
      simp (disch := omega) only [z_lit, z_litl, z_neg, z_negl, z_add, z_sub, z_mul, z_addl, z_subl, z_mull, z_cc, z_cl, z_cr, z_cm, z_cml, z_cmr, z_lt, z_le, z_eq, z_ltl, z_lel, z_eql, z_nat, z_i2l, z_l2i, z_div, z_sh, Int.toNat_natCast, z_ts, z_tsl, e31, a1]
      refine ⟨by omega, by omega, fun c => by omega, fun _ => ⟨fun c => ?_, fun c => ?_⟩⟩
      · rw [Nat.min_eq_right (by omega), Nat.add_comm] at h; exact h
      · rw [Nat.min_eq_left (by omega)] at h; exact h
    | false =>
      rw [show bI false = 0 from rfl]
      rcases hwt with hwt | ⟨w1, w2⟩
      · exact absurd hwt (by decide)
      · simp (disch := omega) only [z_lit, z_litl, z_neg, z_negl, z_add, z_sub, z_mul, z_addl, z_subl, z_mull, z_cc, z_cl, z_cr, z_cm, z_cml, z_cmr, z_lt, z_le, z_eq, z_ltl, z_lel, z_eql, z_nat, z_i2l, z_l2i, z_div, z_sh, Int.toNat_natCast, z_ts, z_tsl]
        refine ⟨fun c => by omega, fun _ => ⟨fun c => absurd trivial c, fun _ => ⟨fun c => ?_, fun c => ?_⟩⟩⟩
        · refine b_m_leastWith_27 (h := ?_) ..
          simp (disch := omega) only [z_lit, z_litl, z_neg, z_negl, z_add, z_sub, z_mul, z_addl, z_subl, z_mull, z_cc, z_cl, z_cr, z_cm, z_cml, z_cmr, z_lt, z_le, z_eq, z_ltl, z_lel, z_eql, z_nat, z_i2l, z_l2i, z_div, z_sh, Int.toNat_natCast, z_ts, z_tsl, e31, a1, w1]
          rw [prc_dif (by omega) (Or.inr (by omega)), if_neg (by decide)] at h
          refine ⟨by omega, by omega, fun _ => ⟨by omega, fun c => ?_, fun c => ?_⟩, fun c => absurd trivial c⟩
          · rw [Nat.min_eq_right (by omega), Nat.add_comm] at h; exact h
          · rw [Nat.min_eq_left (by omega)] at h; exact h
        · rw [show prc κ false wt A at_ j = 1000000 from if_pos (Or.inr ⟨rfl, by omega⟩)] at h
          exact h
/-- what is laid: the least from each place -/
def m_lst (κ : Nat → Nat) (md : Bool) (wt : Nat → Nat) (a : Nat → Int32) : Prop := ∀ i, i ≤ κ 12 → a i = iI (lyF κ md wt i)
theorem c_m_laysLeast {X : mm_X} {d : Nat} {f : Nat → Int32} {fl : Nat → Int64} {g : Nat → Nat → Int32} {gl : Nat → Nat → Int64} {hh : Nat → Nat → Option Nat} {v : Nat → Value} {tx : mm_W} {P : Option Value → mm_W → Prop} {κ : Nat → Nat} (hm : ms (g 76) κ) (hwS : wS κ) (hwL : wL κ) {md : Bool} {wt : Nat → Nat} (hwt : md = true ∨ ∀ j, j < κ 55 → g 89 j = iI (wt j) ∧ wt j ≤ 99) (h : ∀ a, m_lst κ md wt a → P none (Wd f fl (va_up g 88 a) gl hh v tx)) : WP X (d + 3) 196 (0, [some (.ref 74), some (.int (iI (bI md))), none, none], [], Wd f fl g gl hh v tx) P := by
  have b55 := hwS.1
  have b12 := hwL.1
  have e12 := hm.1 12 (by decide)
  have e55 := hm.1 55 (by decide)
  have one : ∀ r, r ≤ κ 12 → ∀ a : Nat → Int32, (∀ i, κ 12 - r ≤ i → i ≤ κ 12 → a i = iI (ly κ md wt r i)) → WP X (d + 3) 196 (17, [some (.ref 74), some (.int (iI (bI md))), some (.int (iI ((κ 12 : Int) - (r : Int) - 1))), none], [], Wd f fl (va_up g 88 a) gl hh v tx) P := by
    apply k_up (Q := fun r => ∀ a : Nat → Int32, (∀ i, κ 12 - r ≤ i → i ≤ κ 12 → a i = iI (ly κ md wt r i)) → WP X (d + 3) 196 (17, [some (.ref 74), some (.int (iI (bI md))), some (.int (iI ((κ 12 : Int) - (r : Int) - 1))), none], [], Wd f fl (va_up g 88 a) gl hh v tx) P)
    · intro a ha
      refine b_m_laysLeast_17 (h := ?_) ..
      simp (disch := omega) only [z_lit, z_litl, z_neg, z_negl, z_add, z_sub, z_mul, z_addl, z_subl, z_mull, z_cc, z_cl, z_cr, z_cm, z_cml, z_cmr, z_lt, z_le, z_eq, z_ltl, z_lel, z_eql, z_nat, z_i2l, z_l2i, z_div, z_sh, Int.toNat_natCast, z_ts, z_tsl]
      exact ⟨fun _ => h a fun i hi => ha i (by omega) hi, fun c => by omega⟩
    · intro r hr ih a ha
      rw [show (κ 12 : Int) - (r : Int) - 1 = ((κ 12 - (r + 1) : Nat) : Int) by omega]
      refine b_m_laysLeast_17 (h := ?_) ..
      simp (disch := omega) only [z_lit, z_litl, z_neg, z_negl, z_add, z_sub, z_mul, z_addl, z_subl, z_mull, z_cc, z_cl, z_cr, z_cm, z_cml, z_cmr, z_lt, z_le, z_eq, z_ltl, z_lel, z_eql, z_nat, z_i2l, z_l2i, z_div, z_sh, Int.toNat_natCast, z_ts, z_tsl, va_s, va_tw]
      refine ⟨fun c => by omega, fun _ => ⟨by omega, ?_⟩⟩
      have inner : ∀ j, j ≤ κ 55 → ∀ a : Nat → Int32, a (κ 12 - (r + 1)) = iI (mS (prc κ md wt (ly κ md wt r) (κ 12 - (r + 1))) j : Nat) → (∀ i, κ 12 - r ≤ i → i ≤ κ 12 → a i = iI (ly κ md wt r i)) → WP X (d + 3) 196 (31, [some (.ref 74), some (.int (iI (bI md))), some (.int (iI ((κ 12 - (r + 1) : Nat) : Int))), some (.int (iI j))], [], Wd f fl (va_up g 88 a) gl hh v tx) P := by
        apply k_up (Q := fun j => ∀ a : Nat → Int32, a (κ 12 - (r + 1)) = iI (mS (prc κ md wt (ly κ md wt r) (κ 12 - (r + 1))) j : Nat) → (∀ i, κ 12 - r ≤ i → i ≤ κ 12 → a i = iI (ly κ md wt r i)) → WP X (d + 3) 196 (31, [some (.ref 74), some (.int (iI (bI md))), some (.int (iI ((κ 12 - (r + 1) : Nat) : Int))), some (.int (iI j))], [], Wd f fl (va_up g 88 a) gl hh v tx) P)
        · intro a h1 h2
          refine b_m_laysLeast_31 (h := ?_) ..
          simp (disch := omega) only [z_lit, z_litl, z_neg, z_negl, z_add, z_sub, z_mul, z_addl, z_subl, z_mull, z_cc, z_cl, z_cr, z_cm, z_cml, z_cmr, z_lt, z_le, z_eq, z_ltl, z_lel, z_eql, z_nat, z_i2l, z_l2i, z_div, z_sh, Int.toNat_natCast, z_ts, z_tsl, va_ne, e55]
          refine ⟨fun _ => ?_, fun c => by omega⟩
          rw [show ((κ 12 - (r + 1) : Nat) : Int) + -1 = (κ 12 : Int) - ((r + 1 : Nat) : Int) - 1 by omega]
          refine ih a fun i hi hi2 => ?_
          by_cases e : i = κ 12 - (r + 1)
          · rw [e, ly, va_s]; exact h1
          · rw [ly, va_ne e]; exact h2 i (by omega) hi2
        · intro j hj ih2 a h1 h2
          obtain ⟨l1, l2, -⟩ := hwS.2.1 j hj
          have m1 := mS_le (t := prc κ md wt (ly κ md wt r) (κ 12 - (r + 1))) j
          have m2 := prc_le (κ := κ) (md := md) (wt := wt) (a := ly κ md wt r) (at_ := κ 12 - (r + 1)) (j := j)
          refine b_m_laysLeast_31 (h := ?_) ..
          simp (disch := omega) only [z_lit, z_litl, z_neg, z_negl, z_add, z_sub, z_mul, z_addl, z_subl, z_mull, z_cc, z_cl, z_cr, z_cm, z_cml, z_cmr, z_lt, z_le, z_eq, z_ltl, z_lel, z_eql, z_nat, z_i2l, z_l2i, z_div, z_sh, Int.toNat_natCast, z_ts, z_tsl, va_ne, va_s, e55, h1]
          refine ⟨fun c => by omega, fun _ => ⟨by omega, ?_⟩⟩
          refine c_m_leastWith (g := va_up g 88 a) (A := ly κ md wt r) (md := md) (wt := wt) (at_ := κ 12 - (r + 1)) (by exact hm) hwS hwL hj (by omega) ?_ (fun h => ⟨h2 _ (by omega) h, ly_le _ _⟩) ?_
          · rcases hwt with h | h
            · exact Or.inl h
            · exact Or.inr (h j hj)
          · refine b_m_laysLeast_57 (h := ?_) ..
            simp (disch := omega) only [z_lit, z_litl, z_neg, z_negl, z_add, z_sub, z_mul, z_addl, z_subl, z_mull, z_cc, z_cl, z_cr, z_cm, z_cml, z_cmr, z_lt, z_le, z_eq, z_ltl, z_lel, z_eql, z_nat, z_i2l, z_l2i, z_div, z_sh, Int.toNat_natCast, z_ts, z_tsl, va_s, va_tw]
            refine ⟨fun c => ⟨by omega, ih2 _ ?_ fun i hi hi2 => ?_⟩, fun c => ⟨by omega, ih2 _ ?_ fun i hi hi2 => ?_⟩⟩
            · rw [upd_s, mS]; congr 1; omega
            · rw [upd_ne (by omega)]; exact h2 i hi hi2
            · rw [upd_s, mS]; congr 1; omega
            · rw [upd_ne (by omega)]; exact h2 i hi hi2
      refine inner 0 (Nat.zero_le _) _ ?_ fun i hi hi2 => ?_
      · rw [upd_s]; rfl
      · rw [upd_ne (by omega)]; exact ha i hi hi2
  refine b_m_laysLeast_0 (h := ?_) ..
  simp (disch := omega) only [z_lit, z_litl, z_neg, z_negl, z_add, z_sub, z_mul, z_addl, z_subl, z_mull, z_cc, z_cl, z_cr, z_cm, z_cml, z_cmr, z_lt, z_le, z_eq, z_ltl, z_lel, z_eql, z_nat, z_i2l, z_l2i, z_div, z_sh, Int.toNat_natCast, z_ts, z_tsl, e12]
  refine ⟨by omega, ?_⟩
  rw [show (κ 12 : Int) - 1 = (κ 12 : Int) - ((0 : Nat) : Int) - 1 by omega]
  exact one 0 (Nat.zero_le _) _ fun i hi hi2 => by
    rw [show i = κ 12 by omega, upd_s, ly, va_s]
    rfl
theorem c_m_signFrom {X : mm_X} {d : Nat} {f : Nat → Int32} {fl : Nat → Int64} {g : Nat → Nat → Int32} {gl : Nat → Nat → Int64} {hh : Nat → Nat → Option Nat} {v : Nat → Value} {tx : mm_W} {P : Option Value → mm_W → Prop} {κ : Nat → Nat} (hm : ms (g 76) κ) (hwS : wS κ) (hwL : wL κ) {md : Bool} {wt : Nat → Nat} (hwt : md = true ∨ ∀ j, j < κ 55 → g 89 j = iI (wt j) ∧ wt j ≤ 99) (hl : m_lst κ md wt (g 88)) {at_ : Nat} (ha : at_ < κ 12) (hL : lyF κ md wt at_ < 1000000) (h : P (some (.int (iI (sgn κ md wt at_ : Nat)))) (Wd f fl g gl hh v tx)) : WP X (d + 3) 198 (0, [some (.ref 74), some (.int (iI at_)), some (.int (iI (bI md))), none], [], Wd f fl g gl hh v tx) P := by
  have b55 := hwS.1
  have b12 := hwL.1
  obtain ⟨s1, s2, s3, s4, s5, s6⟩ := sgn_spec (md := md) (wt := wt) hwS ha hL
  have ea := hl at_ (by omega)
  refine b_m_signFrom_0 (h := ?_) ..
  have go : ∀ j, j ≤ sgn κ md wt at_ → WP X (d + 3) 198 (2, [some (.ref 74), some (.int (iI at_)), some (.int (iI (bI md))), some (.int (iI j))], [], Wd f fl g gl hh v tx) P := by
    apply k_up (Q := fun j => WP X (d + 3) 198 (2, [some (.ref 74), some (.int (iI at_)), some (.int (iI (bI md))), some (.int (iI j))], [], Wd f fl g gl hh v tx) P)
    · refine b_m_signFrom_2 (h := ?_) ..
      refine c_m_leastWith (A := lyF κ md wt) (md := md) (wt := wt) hm hwS hwL s1 (by omega) (by rcases hwt with h | h; exact Or.inl h; exact Or.inr (h _ s1)) (fun h => ⟨hl _ h, lyF_le _⟩) ?_
      refine b_m_signFrom_9 (h := ?_) ..
      simp (disch := omega) only [z_lit, z_litl, z_neg, z_negl, z_add, z_sub, z_mul, z_addl, z_subl, z_mull, z_cc, z_cl, z_cr, z_cm, z_cml, z_cmr, z_lt, z_le, z_eq, z_ltl, z_lel, z_eql, z_nat, z_i2l, z_l2i, z_div, z_sh, Int.toNat_natCast, z_ts, z_tsl, ea, s2]
      first | exact ⟨by omega, fun _ => h, fun c => absurd trivial c⟩ | exact ⟨by omega, fun _ => h, fun c => absurd rfl c⟩
    · intro j hj ih
      have hne := s3 j hj
      have hpl := prc_le (κ := κ) (md := md) (wt := wt) (a := lyF κ md wt) (at_ := at_) (j := j)
      refine b_m_signFrom_2 (h := ?_) ..
      refine c_m_leastWith (A := lyF κ md wt) (md := md) (wt := wt) (j := j) hm hwS hwL (by omega) (by omega) (by rcases hwt with h | h; exact Or.inl h; exact Or.inr (h _ (by omega))) (fun h => ⟨hl _ h, lyF_le _⟩) ?_
      refine b_m_signFrom_9 (h := ?_) ..
      simp (disch := omega) only [z_lit, z_litl, z_neg, z_negl, z_add, z_sub, z_mul, z_addl, z_subl, z_mull, z_cc, z_cl, z_cr, z_cm, z_cml, z_cmr, z_lt, z_le, z_eq, z_ltl, z_lel, z_eql, z_nat, z_i2l, z_l2i, z_div, z_sh, Int.toNat_natCast, z_ts, z_tsl, ea]
      refine ⟨by omega, fun c => by omega, fun _ => ?_⟩
      exact ih
  exact go 0 (Nat.zero_le _)
theorem c_m_signAt {X : mm_X} {d : Nat} {f : Nat → Int32} {fl : Nat → Int64} {g : Nat → Nat → Int32} {gl : Nat → Nat → Int64} {hh : Nat → Nat → Option Nat} {v : Nat → Value} {tx : mm_W} {P : Option Value → mm_W → Prop} {κ : Nat → Nat} (hm : ms (g 76) κ) (hwS : wS κ) (hwL : wL κ) {md : Bool} {wt : Nat → Nat} (hwt : md = true ∨ ∀ j, j < κ 55 → g 89 j = iI (wt j) ∧ wt j ≤ 99) (hl : m_lst κ md wt (g 88)) (hL : lyF κ md wt 0 < 1000000) {i : Nat} (hi : i < 2147483648) (h : P (some (.int (if i < pln κ md wt then iI (sgn κ md wt (psn κ md wt i) : Nat) else iI (-1)))) (Wd f fl g gl hh v tx)) : WP X (d + 4) 199 (0, [some (.ref 74), some (.int (iI i)), some (.int (iI (bI md))), none, none], [], Wd f fl g gl hh v tx) P := by
  have b55 := hwS.1
  have b12 := hwL.1
  have e12 := hm.1 12 (by decide)
  refine b_m_signAt_0 (h := ?_) ..
  have stop : i < pln κ md wt ∨ pln κ md wt ≤ i := by omega
  have fin : ∀ n, (n = i ∨ (n ≤ i ∧ pln κ md wt ≤ n)) → WP X (d + 4) 199 (5, [some (.ref 74), some (.int (iI i)), some (.int (iI (bI md))), some (.int (iI (psn κ md wt n))), some (.int (iI n))], [], Wd f fl g gl hh v tx) P := by
    intro n hn
    obtain ⟨q1, q2, q3⟩ := psn_ok (md := md) (wt := wt) hwS hL n
    have last : ¬ (κ 12 ≤ psn κ md wt n) → n = i → WP X (d + 3) 198 (0, [some (.ref 74), some (.int (iI (psn κ md wt n))), some (.int (iI (bI md))), none], [], Wd f fl g gl hh v tx) (fun rv w2 => WP X (d + 4) 199 (56, [some (.ref 74), none, some (.int (iI (bI md))), some (.int (iI (psn κ md wt n))), none], rv.toList ++ [], w2) P) := by
      intro c e
      subst e
      refine c_m_signFrom (md := md) (wt := wt) hm hwS hwL hwt hl (by omega) q2 ?_
      refine b_m_signAt_56 (h := ?_) ..
      rw [if_pos (by
        by_cases c2 : n < pln κ md wt
        · exact c2
        · have := psn_end hwS hwL hL n (by omega); omega)] at h
      exact h
    have none_ : κ 12 ≤ psn κ md wt n → P (some (.int (iI (-1)))) (Wd f fl g gl hh v tx) := by
      intro c
      rw [if_neg (by
        intro c2
        have := pln_lt (κ := κ) (md := md) (wt := wt) (n := n) (by omega)
        omega)] at h
      exact h
    refine b_m_signAt_5 (h := ?_) ..
    simp (disch := omega) only [z_lit, z_litl, z_neg, z_negl, z_add, z_sub, z_mul, z_addl, z_subl, z_mull, z_cc, z_cl, z_cr, z_cm, z_cml, z_cmr, z_lt, z_le, z_eq, z_ltl, z_lel, z_eql, z_nat, z_i2l, z_l2i, z_div, z_sh, Int.toNat_natCast, z_ts, z_tsl, e12]
    refine ⟨fun c => ⟨fun c2 => none_ (by omega), fun c2 => last (by omega) (by omega)⟩, fun c => ⟨fun c2 => ⟨fun c3 => none_ (by omega), fun c3 => by omega⟩, fun c2 => ?_⟩⟩
    rcases hn with e | ⟨e1, e2⟩
    · omega
    · have := psn_end hwS hwL hL n e2; omega
  have go : ∀ r n, n + r = min i (pln κ md wt) → WP X (d + 4) 199 (5, [some (.ref 74), some (.int (iI i)), some (.int (iI (bI md))), some (.int (iI (psn κ md wt n))), some (.int (iI n))], [], Wd f fl g gl hh v tx) P := by
    intro r
    induction r with
    | zero => intro n hn; exact fin n (by omega)
    | succ r ih =>
      intro n hn
      obtain ⟨q1, q2, q3⟩ := psn_ok (md := md) (wt := wt) hwS hL n
      have hlt := pln_lt (κ := κ) (md := md) (wt := wt) (n := n) (by omega)
      obtain ⟨s1, s2, s3, s4, s5, s6⟩ := sgn_spec (md := md) (wt := wt) hwS hlt q2
      have e31 := hm.1 (31 + sgn κ md wt (psn κ md wt n)) (by omega)
      have hple := pln_le (κ := κ) (md := md) (wt := wt)
      refine b_m_signAt_5 (h := ?_) ..
      simp (disch := omega) only [z_lit, z_litl, z_neg, z_negl, z_add, z_sub, z_mul, z_addl, z_subl, z_mull, z_cc, z_cl, z_cr, z_cm, z_cml, z_cmr, z_lt, z_le, z_eq, z_ltl, z_lel, z_eql, z_nat, z_i2l, z_l2i, z_div, z_sh, Int.toNat_natCast, z_ts, z_tsl, e12]
      refine ⟨fun c => by omega, fun _ => ⟨fun c => by omega, fun _ => ?_⟩⟩
      refine c_m_signFrom (md := md) (wt := wt) hm hwS hwL hwt hl hlt q2 ?_
      refine b_m_signAt_32 (h := ?_) ..
      simp (disch := omega) only [z_lit, z_litl, z_neg, z_negl, z_add, z_sub, z_mul, z_addl, z_subl, z_mull, z_cc, z_cl, z_cr, z_cm, z_cml, z_cmr, z_lt, z_le, z_eq, z_ltl, z_lel, z_eql, z_nat, z_i2l, z_l2i, z_div, z_sh, Int.toNat_natCast, z_ts, z_tsl, e31]
      refine ⟨by omega, ?_⟩
      rw [← psn_s hlt]
      exact ih (n + 1) (by omega)
  exact go (min i (pln κ md wt)) 0 (by omega)
theorem o_mended : k_op26 k_Inv := by
  intro a0 X f fl g gl hh v tx hI
  have hI' := hI
  obtain ⟨κ, ⟨wS, wH, wL, wD, wW, wT, wB⟩, hm, ⟨xS, xH, xL, xD, xW, xT⟩, he, ht, ha, hi0, hi1, hd, hr⟩ := hI
  obtain ⟨z, hz, rfl⟩ := z_ex a0
  have hl0 := lyF_le (κ := κ) (md := true) (wt := fun _ => 0) 0
  have hple := pln_le (κ := κ) (md := true) (wt := fun _ => 0)
  refine b_x_mended_0 (h := ?_) ..
  refine c_pick1 (md := true) (wt := fun _ => 0) wS wL xS xL (Or.inl rfl) (fun hL a => ?_) fun hL a b hb => ?_
  · refine b_x_mended_12 (h := ?_) ..
    simp (disch := omega) only [z_lit, z_litl, z_neg, z_negl, z_add, z_sub, z_mul, z_addl, z_subl, z_mull, z_cc, z_cl, z_cr, z_cm, z_cml, z_cmr, z_lt, z_le, z_eq, z_ltl, z_lel, z_eql, z_nat, z_i2l, z_l2i, z_div, z_sh, Int.toNat_natCast, z_ts, z_tsl]
    repeat (first | refine ⟨fun c9 => by omega, fun _ => ?_⟩ | refine ⟨fun _ => ?_, fun c9 => by omega⟩ | refine ⟨by omega, ?_⟩ | refine ⟨fun c9 => absurd trivial c9, fun _ => ?_⟩ | refine ⟨fun _ => ?_, fun c9 => absurd trivial c9⟩)
    refine k_mid (b_m_mended_0 (h := ?_) ..)
    simp (disch := omega) only [z_lit, z_litl, z_neg, z_negl, z_add, z_sub, z_mul, z_addl, z_subl, z_mull, z_cc, z_cl, z_cr, z_cm, z_cml, z_cmr, z_lt, z_le, z_eq, z_ltl, z_lel, z_eql, z_nat, z_i2l, z_l2i, z_div, z_sh, Int.toNat_natCast, z_ts, z_tsl]
    refine ⟨fun c => ?_, fun c => k_fin0 rfl hI'⟩
    refine c_m_laysLeast (md := true) (wt := fun _ => 0) (κ := κ) (by exact hm) wS wL (Or.inl rfl) fun b hb => ?_
    refine b_m_mended_12 (h := ?_) ..
    have e0 := hb 0 (by omega)
    rw [hL] at e0
    simp (disch := omega) only [z_lit, z_litl, z_neg, z_negl, z_add, z_sub, z_mul, z_addl, z_subl, z_mull, z_cc, z_cl, z_cr, z_cm, z_cml, z_cmr, z_lt, z_le, z_eq, z_ltl, z_lel, z_eql, z_nat, z_i2l, z_l2i, z_div, z_sh, Int.toNat_natCast, z_ts, z_tsl, va_s, e0]
    repeat (first | refine ⟨fun c9 => by omega, fun _ => ?_⟩ | refine ⟨fun _ => ?_, fun c9 => by omega⟩ | refine ⟨by omega, ?_⟩ | refine ⟨fun c9 => absurd trivial c9, fun _ => ?_⟩ | refine ⟨fun _ => ?_, fun c9 => absurd trivial c9⟩)
    exact k_fin0 rfl hI'
  · have fin : ∀ e : Int32, (z < -1 → e = iI (-1)) → (z = -1 → e = iI (lyF κ true (fun _ => 0) 0)) → (0 ≤ z → e = if z.toNat < pln κ true (fun _ => 0) then iI (sgn κ true (fun _ => 0) (psn κ true (fun _ => 0) z.toNat) : Nat) else iI (-1)) → WP X 1999 204 (0, [some (.ref 74), some (.int (iI z))], [], Wd (va_up (va_up f 2438 (iI (lyF κ true (fun _ => 0) 0))) 2437 (iI (pln κ true (fun _ => 0)))) fl (va_up (va_up g 43 a) 44 b) gl hh v tx) (k_fn (.int e) k_Inv tx) := by
      intro e q1 q2 q3
      refine b_m_mended_0 (h := ?_) ..
      simp (disch := omega) only [z_lit, z_litl, z_neg, z_negl, z_add, z_sub, z_mul, z_addl, z_subl, z_mull, z_cc, z_cl, z_cr, z_cm, z_cml, z_cmr, z_lt, z_le, z_eq, z_ltl, z_lel, z_eql, z_nat, z_i2l, z_l2i, z_div, z_sh, Int.toNat_natCast, z_ts, z_tsl]
      refine ⟨fun c => ?_, fun c => k_fin0 (q1 (by omega)).symm hI'⟩
      refine c_m_laysLeast (md := true) (wt := fun _ => 0) (κ := κ) (by exact hm) wS wL (Or.inl rfl) fun b2 hb2 => ?_
      refine b_m_mended_12 (h := ?_) ..
      have e0 := hb2 0 (by omega)
      simp (disch := omega) only [z_lit, z_litl, z_neg, z_negl, z_add, z_sub, z_mul, z_addl, z_subl, z_mull, z_cc, z_cl, z_cr, z_cm, z_cml, z_cmr, z_lt, z_le, z_eq, z_ltl, z_lel, z_eql, z_nat, z_i2l, z_l2i, z_div, z_sh, Int.toNat_natCast, z_ts, z_tsl, va_s, e0]
      refine ⟨fun _ => ⟨fun c2 => ?_, fun c2 => k_fin0 (q2 c2).symm hI'⟩, fun c => by omega⟩
      have hzz : iI z = iI ((z.toNat : Nat) : Int) := by congr 1; omega
      rw [hzz]
      refine c_m_signAt (κ := κ) (md := true) (wt := fun _ => 0) (i := z.toNat) (by exact hm) wS wL (Or.inl rfl) ?_ hL (by omega) ?_
      · intro i hi
        show va_up _ 88 b2 88 i = _
        rw [va_s]
        exact hb2 i hi
      · refine b_m_mended_45 (h := ?_) ..
        exact k_fin0 (q3 (by omega)).symm hI'
    refine b_x_mended_12 (h := ?_) ..
    have w1 : va_up (va_up f 2438 (iI (lyF κ true (fun _ => 0) 0))) 2437 (iI (pln κ true (fun _ => 0))) 2437 = iI (pln κ true (fun _ => 0)) := va_s
    have w2 : va_up (va_up f 2438 (iI (lyF κ true (fun _ => 0) 0))) 2437 (iI (pln κ true (fun _ => 0))) 2438 = iI (lyF κ true (fun _ => 0) 0) := by rw [va_ne (by decide), va_s]
    have w3 : va_up (va_up g 43 a) 44 b 44 = b := va_s
    rw [w1, w2, w3]
    simp (disch := omega) only [z_lit, z_litl, z_neg, z_negl, z_add, z_sub, z_mul, z_addl, z_subl, z_mull, z_cc, z_cl, z_cr, z_cm, z_cml, z_cmr, z_lt, z_le, z_eq, z_ltl, z_lel, z_eql, z_nat, z_i2l, z_l2i, z_div, z_sh, Int.toNat_natCast, z_ts, z_tsl]
    refine ⟨fun c => by omega, fun _ => ⟨fun c => ⟨fun c2 => ⟨by omega, ?_⟩, fun c2 => ?_⟩, fun c => ?_⟩⟩
    · refine k_mid (fin _ (fun h => by omega) (fun h => by omega) fun h => ?_)
      rw [if_pos (by omega)]
      exact hb _ (by omega)
    · refine k_mid (fin _ (fun h => rfl) (fun h => by omega) fun h => ?_)
      rw [if_neg (by omega)]
    · exact k_mid (fin _ (fun h => by omega) (fun h => rfl) fun h => by omega)
