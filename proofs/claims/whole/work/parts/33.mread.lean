/-! the reference reads the line: contracts -/
theorem c_m_clothOf {X : mm_X} {d : Nat} {f : Nat → Int32} {fl : Nat → Int64} {g : Nat → Nat → Int32} {gl : Nat → Nat → Int64} {hh : Nat → Nat → Option Nat} {v : Nat → Value} {tx : mm_W} {P : Option Value → mm_W → Prop} {κ : Nat → Nat} (hm : ms (g 76) κ) (hwS : wS κ) {j k : Nat} (hj : j < κ 55) (hk : k < κ (31 + j)) (h : P (some (.int (iI (clo κ j k)))) (Wd f fl g gl hh v tx)) : WP X d 137 (0, [some (.ref 74), some (.int (iI j)), some (.int (iI k)), none, none], [], Wd f fl g gl hh v tx) P := by
  have b55 := hwS.1
  obtain ⟨h1, h2, h3, h4, h5⟩ := hwS.2.1 j hj
  have hb : κ (23 + j) < 10000 := Nat.lt_of_lt_of_le h4 (Nat.pow_le_pow_right (by decide) h2)
  have hfin := h5 (κ (31 + j) - 1 - k) (by omega)
  have e1 := hm.1 (23 + j) (by omega)
  have e2 := hm.1 (31 + j) (by omega)
  have key : ∀ s, s ≤ κ (31 + j) - 1 - k → WP X d 137 (23, [none, none, some (.int (iI k)), some (.int (iI ((κ (23 + j) / 10 ^ s : Nat) : Int))), some (.int (iI ((κ (31 + j) : Int) - 1 - (s : Int))))], [], Wd f fl g gl hh v tx) P := by
    apply k_up (Q := fun s => WP X d 137 (23, [none, none, some (.int (iI k)), some (.int (iI ((κ (23 + j) / 10 ^ s : Nat) : Int))), some (.int (iI ((κ (31 + j) : Int) - 1 - (s : Int))))], [], Wd f fl g gl hh v tx) P)
    · obtain ⟨x, hx⟩ : ∃ x, x = κ (23 + j) / 10 ^ (κ (31 + j) - 1 - k) := ⟨_, rfl⟩
      have hx2 : x ≤ κ (23 + j) := by rw [hx]; exact Nat.div_le_self _ _
      rw [← hx] at hfin ⊢
      refine b_m_clothOf_23 (h := ?_) ..
      simp (disch := omega) only [z_lit, z_litl, z_neg, z_negl, z_add, z_sub, z_mul, z_addl, z_subl, z_mull, z_cc, z_cl, z_cr, z_cm, z_cml, z_cmr, z_lt, z_le, z_eq, z_ltl, z_lel, z_eql, z_nat, z_i2l, z_l2i, z_div, z_sh, Int.toNat_natCast, z_ts, z_tsl]
      refine ⟨fun _ => ?_, fun c => by omega⟩
      rw [show (x : Int) - (x : Int) / 10 * 10 - 1 = ((x % 10 - 1 : Nat) : Int) by omega]
      rw [clo, ← hx] at h
      exact h
    · intro s hs ih
      obtain ⟨x, hx⟩ : ∃ x, x = κ (23 + j) / 10 ^ s := ⟨_, rfl⟩
      have hx2 : x ≤ κ (23 + j) := by rw [hx]; exact Nat.div_le_self _ _
      rw [← hx]
      rw [Nat.pow_succ, ← Nat.div_div_eq_div_mul, ← hx] at ih
      refine b_m_clothOf_23 (h := ?_) ..
      simp (disch := omega) only [z_lit, z_litl, z_neg, z_negl, z_add, z_sub, z_mul, z_addl, z_subl, z_mull, z_cc, z_cl, z_cr, z_cm, z_cml, z_cmr, z_lt, z_le, z_eq, z_ltl, z_lel, z_eql, z_nat, z_i2l, z_l2i, z_div, z_sh, Int.toNat_natCast, z_ts, z_tsl]
      refine ⟨fun c => by omega, fun _ => ?_⟩
      rw [show (x : Int) / 10 = ((x / 10 : Nat) : Int) by omega, show (κ (31 + j) : Int) - 1 - (s : Int) + -1 = (κ (31 + j) : Int) - 1 - ((s + 1 : Nat) : Int) by omega]
      exact ih
  refine b_m_clothOf_0 (h := ?_) ..
  simp (disch := omega) only [z_lit, z_litl, z_neg, z_negl, z_add, z_sub, z_mul, z_addl, z_subl, z_mull, z_cc, z_cl, z_cr, z_cm, z_cml, z_cmr, z_lt, z_le, z_eq, z_ltl, z_lel, z_eql, z_nat, z_i2l, z_l2i, z_div, z_sh, Int.toNat_natCast, z_ts, z_tsl, e1, e2]
  refine ⟨by omega, by omega, ?_⟩
  have := key 0 (Nat.zero_le _)
  rw [Nat.pow_zero, Nat.div_one, show (κ (31 + j) : Int) - 1 - ((0 : Nat) : Int) = (κ (31 + j) : Int) - 1 by omega] at this
  exact this
theorem c_m_differsAt {X : mm_X} {d : Nat} {f : Nat → Int32} {fl : Nat → Int64} {g : Nat → Nat → Int32} {gl : Nat → Nat → Int64} {hh : Nat → Nat → Option Nat} {v : Nat → Value} {tx : mm_W} {P : Option Value → mm_W → Prop} {κ : Nat → Nat} (hm : ms (g 76) κ) (hwS : wS κ) (hwL : wL κ) {j at_ : Nat} (hj : j < κ 55) (ha : at_ ≤ 12) (h : P (some (.int (iI (dif κ j at_ : Nat)))) (Wd f fl g gl hh v tx)) : WP X (d + 1) 194 (0, [some (.ref 74), some (.int (iI j)), some (.int (iI at_)), none, none], [], Wd f fl g gl hh v tx) P := by
  have b55 := hwS.1
  have b12 := hwL.1
  obtain ⟨h1, h2, h3, h4, h5⟩ := hwS.2.1 j hj
  have e1 := hm.1 (31 + j) (by omega)
  have e2 := hm.1 12 (by omega)
  refine b_m_differsAt_0 (h := ?_) ..
  simp (disch := omega) only [z_lit, z_litl, z_neg, z_negl, z_add, z_sub, z_mul, z_addl, z_subl, z_mull, z_cc, z_cl, z_cr, z_cm, z_cml, z_cmr, z_lt, z_le, z_eq, z_ltl, z_lel, z_eql, z_nat, z_i2l, z_l2i, z_div, z_sh, Int.toNat_natCast, z_ts, z_tsl, e1, e2]
  refine ⟨by omega, fun c => ?_, fun c => ?_⟩
  · have key : ∀ k, k ≤ κ (31 + j) → WP X (d + 1) 194 (26, [some (.ref 74), some (.int (iI j)), some (.int (iI at_)), some (.int (iI (mis (fun k => κ (at_ + k)) (clo κ j) k : Nat))), some (.int (iI k))], [], Wd f fl g gl hh v tx) P := by
      apply k_up (Q := fun k => WP X (d + 1) 194 (26, [some (.ref 74), some (.int (iI j)), some (.int (iI at_)), some (.int (iI (mis (fun k => κ (at_ + k)) (clo κ j) k : Nat))), some (.int (iI k))], [], Wd f fl g gl hh v tx) P)
      · refine b_m_differsAt_26 (h := ?_) ..
        simp (disch := omega) only [z_lit, z_litl, z_neg, z_negl, z_add, z_sub, z_mul, z_addl, z_subl, z_mull, z_cc, z_cl, z_cr, z_cm, z_cml, z_cmr, z_lt, z_le, z_eq, z_ltl, z_lel, z_eql, z_nat, z_i2l, z_l2i, z_div, z_sh, Int.toNat_natCast, z_ts, z_tsl, e1]
        refine ⟨by omega, fun _ => ?_, fun c => by omega⟩
        rw [dif, if_neg (by omega)] at h
        exact h
      · intro k hk ih
        have hmis := mis_le (a := fun k => κ (at_ + k)) (b := clo κ j) k
        have e3 := hm.1 (at_ + k) (by omega)
        have hl := hwL.2 (at_ + k) (by omega)
        have hc := clo_le hwS hj hk
        refine b_m_differsAt_26 (h := ?_) ..
        simp (disch := omega) only [z_lit, z_litl, z_neg, z_negl, z_add, z_sub, z_mul, z_addl, z_subl, z_mull, z_cc, z_cl, z_cr, z_cm, z_cml, z_cmr, z_lt, z_le, z_eq, z_ltl, z_lel, z_eql, z_nat, z_i2l, z_l2i, z_div, z_sh, Int.toNat_natCast, z_ts, z_tsl, e1, Nat.zero_add, e3]
        refine ⟨by omega, fun c => by omega, fun _ => ⟨by omega, ?_⟩⟩
        refine c_m_clothOf hm hwS hj hk ?_
        refine b_m_differsAt_59 (h := ?_) ..
        rw [mis] at ih
        simp (disch := omega) only [z_lit, z_litl, z_neg, z_negl, z_add, z_sub, z_mul, z_addl, z_subl, z_mull, z_cc, z_cl, z_cr, z_cm, z_cml, z_cmr, z_lt, z_le, z_eq, z_ltl, z_lel, z_eql, z_nat, z_i2l, z_l2i, z_div, z_sh, Int.toNat_natCast, z_ts, z_tsl]
        refine ⟨fun c => ?_, fun c => ?_⟩
        · rw [if_neg (by omega)] at ih
          exact ih
        · rw [if_pos (by omega)] at ih
          exact ih
    exact key 0 (Nat.zero_le _)
  · rw [dif, if_pos (by omega)] at h
    exact h
theorem sS_zero {t : Nat → Int32} : ∀ {n : Nat}, (∀ i, i < n → t i = 0) → sS t n = 0
  | 0, _ => rfl
  | n + 1, h => by rw [sS, sS_zero (n := n) fun i hi => h i (by omega), h n (by omega)]; rfl
theorem c_m_readings {X : mm_X} {d : Nat} {f : Nat → Int32} {fl : Nat → Int64} {g : Nat → Nat → Int32} {gl : Nat → Nat → Int64} {hh : Nat → Nat → Option Nat} {v : Nat → Value} {tx : mm_W} {P : Option Value → mm_W → Prop} {κ : Nat → Nat} (hm : ms (g 76) κ) (hwS : wS κ) (hwL : wL κ) (h : ∀ a : Nat → Int32, (∀ i, i ≤ κ 12 → a i = wy κ (κ 12) i) → P (some (.int (wy κ (κ 12) 0))) (Wd f fl (va_up g 87 a) gl hh v tx)) : WP X (d + 2) 195 (0, [some (.ref 74), none, none], [], Wd f fl g gl hh v tx) P := by
  have b55 := hwS.1
  have b12 := hwL.1
  have e12 := hm.1 12 (by omega)
  have e55 := hm.1 55 (by omega)
  have one : ∀ r, r ≤ κ 12 → ∀ a : Nat → Int32, (∀ i, κ 12 - r ≤ i → i ≤ κ 12 → a i = wy κ r i) → WP X (d + 2) 195 (17, [some (.ref 74), some (.int (iI ((κ 12 : Int) - (r : Int) - 1))), none], [], Wd f fl (va_up g 87 a) gl hh v tx) P := by
    apply k_up (Q := fun r => ∀ a : Nat → Int32, (∀ i, κ 12 - r ≤ i → i ≤ κ 12 → a i = wy κ r i) → WP X (d + 2) 195 (17, [some (.ref 74), some (.int (iI ((κ 12 : Int) - (r : Int) - 1))), none], [], Wd f fl (va_up g 87 a) gl hh v tx) P)
    · intro a ha
      refine b_m_readings_17 (h := ?_) ..
      simp (disch := omega) only [z_lit, z_litl, z_neg, z_negl, z_add, z_sub, z_mul, z_addl, z_subl, z_mull, z_cc, z_cl, z_cr, z_cm, z_cml, z_cmr, z_lt, z_le, z_eq, z_ltl, z_lel, z_eql, z_nat, z_i2l, z_l2i, z_div, z_sh, Int.toNat_natCast, z_ts, z_tsl, va_s]
      refine ⟨fun _ => ?_, fun c => by omega⟩
      rw [ha 0 (by omega) (by omega)]
      exact h a fun i hi => ha i (by omega) hi
    · intro r hr ih a ha
      rw [show (κ 12 : Int) - (r : Int) - 1 = ((κ 12 - (r + 1) : Nat) : Int) by omega]
      refine b_m_readings_17 (h := ?_) ..
      simp (disch := omega) only [z_lit, z_litl, z_neg, z_negl, z_add, z_sub, z_mul, z_addl, z_subl, z_mull, z_cc, z_cl, z_cr, z_cm, z_cml, z_cmr, z_lt, z_le, z_eq, z_ltl, z_lel, z_eql, z_nat, z_i2l, z_l2i, z_div, z_sh, Int.toNat_natCast, z_ts, z_tsl, va_s, va_tw]
      refine ⟨fun c => by omega, fun _ => ⟨by omega, ?_⟩⟩
      have inner : ∀ j, j ≤ κ 55 → ∀ a : Nat → Int32, a (κ 12 - (r + 1)) = sS (fun j => if dif κ j (κ 12 - (r + 1)) = 0 then wy κ r (κ 12 - (r + 1) + κ (31 + j)) else 0) j → (∀ i, κ 12 - r ≤ i → i ≤ κ 12 → a i = wy κ r i) → WP X (d + 2) 195 (30, [some (.ref 74), some (.int (iI ((κ 12 - (r + 1) : Nat) : Int))), some (.int (iI j))], [], Wd f fl (va_up g 87 a) gl hh v tx) P := by
        apply k_up (Q := fun j => ∀ a : Nat → Int32, a (κ 12 - (r + 1)) = sS (fun j => if dif κ j (κ 12 - (r + 1)) = 0 then wy κ r (κ 12 - (r + 1) + κ (31 + j)) else 0) j → (∀ i, κ 12 - r ≤ i → i ≤ κ 12 → a i = wy κ r i) → WP X (d + 2) 195 (30, [some (.ref 74), some (.int (iI ((κ 12 - (r + 1) : Nat) : Int))), some (.int (iI j))], [], Wd f fl (va_up g 87 a) gl hh v tx) P)
        · intro a h1 h2
          refine b_m_readings_30 (h := ?_) ..
          simp (disch := omega) only [z_lit, z_litl, z_neg, z_negl, z_add, z_sub, z_mul, z_addl, z_subl, z_mull, z_cc, z_cl, z_cr, z_cm, z_cml, z_cmr, z_lt, z_le, z_eq, z_ltl, z_lel, z_eql, z_nat, z_i2l, z_l2i, z_div, z_sh, Int.toNat_natCast, z_ts, z_tsl, va_ne, e55]
          refine ⟨fun _ => ?_, fun c => by omega⟩
          rw [show ((κ 12 - (r + 1) : Nat) : Int) + -1 = (κ 12 : Int) - ((r + 1 : Nat) : Int) - 1 by omega]
          refine ih a fun i hi hi2 => ?_
          by_cases e : i = κ 12 - (r + 1)
          · rw [e, wy, upd_s]; exact h1
          · rw [wy, upd_ne e]; exact h2 i (by omega) hi2
        · intro j hj ih2 a h1 h2
          obtain ⟨l1, l2, -⟩ := hwS.2.1 j hj
          have d2 := dif_le (κ := κ) (j := j) (at_ := κ 12 - (r + 1)) l2
          have e31 := hm.1 (31 + j) (by omega)
          refine b_m_readings_30 (h := ?_) ..
          simp (disch := omega) only [z_lit, z_litl, z_neg, z_negl, z_add, z_sub, z_mul, z_addl, z_subl, z_mull, z_cc, z_cl, z_cr, z_cm, z_cml, z_cmr, z_lt, z_le, z_eq, z_ltl, z_lel, z_eql, z_nat, z_i2l, z_l2i, z_div, z_sh, Int.toNat_natCast, z_ts, z_tsl, va_ne, va_s, e55]
          refine ⟨fun c => by omega, fun _ => ⟨by omega, ?_⟩⟩
          refine c_m_differsAt (g := va_up g 87 a) (at_ := κ 12 - (r + 1)) hm hwS hwL hj (by omega) ?_
          refine b_m_readings_51 (h := ?_) ..
          simp (disch := omega) only [z_lit, z_litl, z_neg, z_negl, z_add, z_sub, z_mul, z_addl, z_subl, z_mull, z_cc, z_cl, z_cr, z_cm, z_cml, z_cmr, z_lt, z_le, z_eq, z_ltl, z_lel, z_eql, z_nat, z_i2l, z_l2i, z_div, z_sh, Int.toNat_natCast, z_ts, z_tsl, va_ne, va_s, va_tw, e31]
          refine ⟨fun c => ⟨by omega, ?_⟩, fun c => ⟨by omega, ?_⟩⟩
          · refine ih2 _ ?_ fun i hi hi2 => ?_
            · rw [upd_s, h1, sS, if_neg (by omega)]
              rfl
            · rw [upd_ne (by omega)]; exact h2 i hi hi2
          · have d3 := dif_lt (κ := κ) (j := j) (at_ := κ 12 - (r + 1)) (by omega)
            refine ⟨by omega, by omega, ?_⟩
            refine ih2 _ ?_ fun i hi hi2 => ?_
            · rw [upd_s, h1, sS, if_pos (by omega), h2 _ (by omega) d3]
            · rw [upd_ne (by omega)]; exact h2 i hi hi2
      refine inner 0 (Nat.zero_le _) _ ?_ fun i hi hi2 => ?_
      · rw [upd_s]; rfl
      · rw [upd_ne (by omega)]; exact ha i hi hi2
  refine b_m_readings_0 (h := ?_) ..
  simp (disch := omega) only [z_lit, z_litl, z_neg, z_negl, z_add, z_sub, z_mul, z_addl, z_subl, z_mull, z_cc, z_cl, z_cr, z_cm, z_cml, z_cmr, z_lt, z_le, z_eq, z_ltl, z_lel, z_eql, z_nat, z_i2l, z_l2i, z_div, z_sh, Int.toNat_natCast, z_ts, z_tsl, e12]
  refine ⟨by omega, ?_⟩
  rw [show (κ 12 : Int) - 1 = (κ 12 : Int) - ((0 : Nat) : Int) - 1 by omega]
  exact one 0 (Nat.zero_le _) _ fun i hi hi2 => by
    rw [show i = κ 12 by omega, upd_s, wy, upd_s]
    rfl
theorem dif_end {κ : Nat → Nat} {j : Nat} (h : 1 ≤ κ (31 + j)) : dif κ j (κ 12) = 1000000 := if_pos (by omega)
theorem c_m_fits {X : mm_X} {d : Nat} {f : Nat → Int32} {fl : Nat → Int64} {g : Nat → Nat → Int32} {gl : Nat → Nat → Int64} {hh : Nat → Nat → Option Nat} {v : Nat → Value} {tx : mm_W} {P : Option Value → mm_W → Prop} {κ : Nat → Nat} (hm : ms (g 76) κ) (hwS : wS κ) (hwL : wL κ) (hwD : wD κ) (h : ∀ a b : Nat → Int32, P (some (.int (fy κ (κ 57) 0))) (Wd f fl (va_up (va_up g 87 a) 95 b) gl hh v tx)) : WP X (d + 3) 230 (0, [some (.ref 74), none, none, none, none, none], [], Wd f fl g gl hh v tx) P := by
  have b55 := hwS.1
  have b12 := hwL.1
  have b57 := hwD.1
  have e12 := hm.1 12 (by omega)
  have e55 := hm.1 55 (by omega)
  have e57 := hm.1 57 (by omega)
  refine b_m_fits_0 (h := ?_) ..
  refine c_m_readings hm hwS hwL fun a ha => ?_
  rw [e57]
  refine b_m_fits_12 (h := ?_) ..
  -- the orders from the last on
  have two : ∀ q, q ≤ κ 57 → ∀ b : Nat → Int32, (∀ i, i ≤ κ 12 → b (7 * i + (κ 57 - q)) = fy κ q i) → WP X (d + 3) 230 (50, [some (.ref 74), none, some (.int (iI ((κ 57 : Int) - (q : Int) - 1))), none, none, none], [], Wd f fl (va_up (va_up g 87 a) 95 b) gl hh v tx) P := by
    apply k_up (Q := fun q => ∀ b : Nat → Int32, (∀ i, i ≤ κ 12 → b (7 * i + (κ 57 - q)) = fy κ q i) → WP X (d + 3) 230 (50, [some (.ref 74), none, some (.int (iI ((κ 57 : Int) - (q : Int) - 1))), none, none, none], [], Wd f fl (va_up (va_up g 87 a) 95 b) gl hh v tx) P)
    · intro b hb
      refine b_m_fits_50 (h := ?_) ..
      simp (disch := omega) only [z_lit, z_litl, z_neg, z_negl, z_add, z_sub, z_mul, z_addl, z_subl, z_mull, z_cc, z_cl, z_cr, z_cm, z_cml, z_cmr, z_lt, z_le, z_eq, z_ltl, z_lel, z_eql, z_nat, z_i2l, z_l2i, z_div, z_sh, Int.toNat_natCast, z_ts, z_tsl, va_s]
      refine ⟨fun _ => ?_, fun c => by omega⟩
      have := hb 0 (by omega)
      rw [show 7 * 0 + (κ 57 - κ 57) = 0 by omega] at this
      rw [this]
      exact h a b
    · intro q hq ih b hb
      rw [show (κ 57 : Int) - (q : Int) - 1 = ((κ 57 - (q + 1) : Nat) : Int) by omega]
      refine b_m_fits_50 (h := ?_) ..
      simp (disch := omega) only [z_lit, z_litl, z_neg, z_negl, z_add, z_sub, z_mul, z_addl, z_subl, z_mull, z_cc, z_cl, z_cr, z_cm, z_cml, z_cmr, z_lt, z_le, z_eq, z_ltl, z_lel, z_eql, z_nat, z_i2l, z_l2i, z_div, z_sh, Int.toNat_natCast, z_ts, z_tsl, va_s]
      refine ⟨fun c => by omega, fun _ => ?_⟩
      have inner : ∀ i, i ≤ κ 12 + 1 → ∀ b : Nat → Int32, (∀ x, x < i → b (7 * x + (κ 57 - (q + 1))) = fy κ (q + 1) x) → (∀ x, x ≤ κ 12 → b (7 * x + (κ 57 - q)) = fy κ q x) → WP X (d + 3) 230 (56, [some (.ref 74), none, some (.int (iI ((κ 57 - (q + 1) : Nat) : Int))), some (.int (iI i)), none, none], [], Wd f fl (va_up (va_up g 87 a) 95 b) gl hh v tx) P := by
        apply k_up (Q := fun i => ∀ b : Nat → Int32, (∀ x, x < i → b (7 * x + (κ 57 - (q + 1))) = fy κ (q + 1) x) → (∀ x, x ≤ κ 12 → b (7 * x + (κ 57 - q)) = fy κ q x) → WP X (d + 3) 230 (56, [some (.ref 74), none, some (.int (iI ((κ 57 - (q + 1) : Nat) : Int))), some (.int (iI i)), none, none], [], Wd f fl (va_up (va_up g 87 a) 95 b) gl hh v tx) P)
        · intro b h1 h2
          refine b_m_fits_56 (h := ?_) ..
          simp (disch := omega) only [z_lit, z_litl, z_neg, z_negl, z_add, z_sub, z_mul, z_addl, z_subl, z_mull, z_cc, z_cl, z_cr, z_cm, z_cml, z_cmr, z_lt, z_le, z_eq, z_ltl, z_lel, z_eql, z_nat, z_i2l, z_l2i, z_div, z_sh, Int.toNat_natCast, z_ts, z_tsl, va_ne, e12]
          refine ⟨fun _ => ?_, fun c => by omega⟩
          rw [show ((κ 57 - (q + 1) : Nat) : Int) + -1 = (κ 57 : Int) - ((q + 1 : Nat) : Int) - 1 by omega]
          exact ih b fun i hi => h1 i (by omega)
        · intro i hi ih2 b h1 h2
          refine b_m_fits_56 (h := ?_) ..
          simp (disch := omega) only [z_lit, z_litl, z_neg, z_negl, z_add, z_sub, z_mul, z_addl, z_subl, z_mull, z_cc, z_cl, z_cr, z_cm, z_cml, z_cmr, z_lt, z_le, z_eq, z_ltl, z_lel, z_eql, z_nat, z_i2l, z_l2i, z_div, z_sh, Int.toNat_natCast, z_ts, z_tsl, va_ne, e12]
          refine ⟨fun c => by omega, fun _ => ?_⟩
          have hi12 : i ≤ κ 12 := by omega
          have sums : ∀ j, j ≤ κ 55 → WP X (d + 3) 230 (70, [some (.ref 74), none, some (.int (iI ((κ 57 - (q + 1) : Nat) : Int))), some (.int (iI i)), some (.int (sS (fun j => if κ (39 + j) = κ (47 + (κ 57 - (q + 1))) ∧ dif κ j i = 0 then fy κ q (i + κ (31 + j)) else 0) j)), some (.int (iI j))], [], Wd f fl (va_up (va_up g 87 a) 95 b) gl hh v tx) P := by
            apply k_up (Q := fun j => WP X (d + 3) 230 (70, [some (.ref 74), none, some (.int (iI ((κ 57 - (q + 1) : Nat) : Int))), some (.int (iI i)), some (.int (sS (fun j => if κ (39 + j) = κ (47 + (κ 57 - (q + 1))) ∧ dif κ j i = 0 then fy κ q (i + κ (31 + j)) else 0) j)), some (.int (iI j))], [], Wd f fl (va_up (va_up g 87 a) 95 b) gl hh v tx) P)
            · refine b_m_fits_70 (h := ?_) ..
              simp (disch := omega) only [z_lit, z_litl, z_neg, z_negl, z_add, z_sub, z_mul, z_addl, z_subl, z_mull, z_cc, z_cl, z_cr, z_cm, z_cml, z_cmr, z_lt, z_le, z_eq, z_ltl, z_lel, z_eql, z_nat, z_i2l, z_l2i, z_div, z_sh, Int.toNat_natCast, z_ts, z_tsl, va_ne, va_s, va_tw, e55]
              refine ⟨fun _ => ⟨by omega, ?_⟩, fun c => by omega⟩
              refine ih2 _ (fun x hx => ?_) fun x hx => ?_
              · by_cases e : x = i
                · rw [e, upd_s, fy_s]
                  by_cases e2 : i < κ 12
                  · rw [if_pos e2]
                    rfl
                  · rw [if_neg e2]
                    apply sS_zero
                    intro j hj
                    have := dif_end (κ := κ) (j := j) (hwS.2.1 j hj).1
                    refine (if_neg ?_).trans rfl
                    rintro ⟨-, h0⟩
                    rw [show i = κ 12 by omega, this] at h0
                    omega
                · rw [upd_ne (by omega)]; exact h1 x (by omega)
              · rw [upd_ne (by omega)]; exact h2 x hx
            · intro j hj ih3
              obtain ⟨l1, l2, l3, -⟩ := hwS.2.1 j hj
              have d2 := dif_le (κ := κ) (j := j) (at_ := i) l2
              have e31 := hm.1 (31 + j) (by omega)
              have e39 := hm.1 (39 + j) (by omega)
              have e47 := hm.1 (47 + (κ 57 - (q + 1))) (by omega)
              have w47 := hwD.2 (κ 57 - (q + 1)) (by omega)
              refine b_m_fits_70 (h := ?_) ..
              simp (disch := omega) only [z_lit, z_litl, z_neg, z_negl, z_add, z_sub, z_mul, z_addl, z_subl, z_mull, z_cc, z_cl, z_cr, z_cm, z_cml, z_cmr, z_lt, z_le, z_eq, z_ltl, z_lel, z_eql, z_nat, z_i2l, z_l2i, z_div, z_sh, Int.toNat_natCast, z_ts, z_tsl, va_ne, va_s, e55, e39, e47]
              refine ⟨fun c => by omega, fun _ => ⟨by omega, by omega, fun c => ?_, fun c => ?_⟩⟩
              · rw [sS, if_neg fun hc => c (by omega)] at ih3
                exact ih3
              · refine c_m_differsAt (g := va_up (va_up g 87 a) 95 b) (at_ := i) hm hwS hwL hj (by omega) ?_
                refine b_m_fits_110 (h := ?_) ..
                simp (disch := omega) only [z_lit, z_litl, z_neg, z_negl, z_add, z_sub, z_mul, z_addl, z_subl, z_mull, z_cc, z_cl, z_cr, z_cm, z_cml, z_cmr, z_lt, z_le, z_eq, z_ltl, z_lel, z_eql, z_nat, z_i2l, z_l2i, z_div, z_sh, Int.toNat_natCast, z_ts, z_tsl, va_ne, va_s, e31]
                refine ⟨fun c2 => ?_, fun c2 => ⟨by omega, ?_⟩⟩
                · rw [sS, if_neg fun hc => c2 (by omega)] at ih3
                  exact ih3
                · have d3 := dif_lt (κ := κ) (j := j) (at_ := i) (by omega)
                  refine ⟨by omega, ?_⟩
                  rw [sS, if_pos ⟨by omega, by omega⟩, ← h2 _ d3] at ih3
                  rw [show 7 * (i + κ (31 + j)) + (κ 57 - (q + 1)) + 1 = 7 * (i + κ (31 + j)) + (κ 57 - q) by omega]
                  exact ih3
          exact sums 0 (Nat.zero_le _)
      exact inner 0 (Nat.zero_le _) b (fun x hx => absurd hx (Nat.not_lt_zero x)) fun x hx => hb x hx
  have one : ∀ i, i ≤ κ 12 + 1 → ∀ b : Nat → Int32, (∀ x, x < i → b (7 * x + κ 57) = wy κ (κ 12) x) → WP X (d + 3) 230 (15, [some (.ref 74), some (.int (iI (κ 57))), some (.int (iI i)), none, none, none], [], Wd f fl (va_up (va_up g 87 a) 95 b) gl hh v tx) P := by
    apply k_up (Q := fun i => ∀ b : Nat → Int32, (∀ x, x < i → b (7 * x + κ 57) = wy κ (κ 12) x) → WP X (d + 3) 230 (15, [some (.ref 74), some (.int (iI (κ 57))), some (.int (iI i)), none, none, none], [], Wd f fl (va_up (va_up g 87 a) 95 b) gl hh v tx) P)
    · intro b hb
      refine b_m_fits_15 (h := ?_) ..
      simp (disch := omega) only [z_lit, z_litl, z_neg, z_negl, z_add, z_sub, z_mul, z_addl, z_subl, z_mull, z_cc, z_cl, z_cr, z_cm, z_cml, z_cmr, z_lt, z_le, z_eq, z_ltl, z_lel, z_eql, z_nat, z_i2l, z_l2i, z_div, z_sh, Int.toNat_natCast, z_ts, z_tsl, va_ne, e12]
      refine ⟨fun _ => ?_, fun c => by omega⟩
      rw [show (κ 57 : Int) - 1 = (κ 57 : Int) - ((0 : Nat) : Int) - 1 by omega]
      exact two 0 (Nat.zero_le _) b fun i hi => hb i (by omega)
    · intro i hi ih b hb
      refine b_m_fits_15 (h := ?_) ..
      simp (disch := omega) only [z_lit, z_litl, z_neg, z_negl, z_add, z_sub, z_mul, z_addl, z_subl, z_mull, z_cc, z_cl, z_cr, z_cm, z_cml, z_cmr, z_lt, z_le, z_eq, z_ltl, z_lel, z_eql, z_nat, z_i2l, z_l2i, z_div, z_sh, Int.toNat_natCast, z_ts, z_tsl, va_ne, va_s, va_tw, e12]
      refine ⟨fun c => by omega, fun _ => ⟨by omega, by omega, ?_⟩⟩
      refine ih _ fun x hx => ?_
      by_cases e : x = i
      · rw [e, upd_s]; exact ha i (by omega)
      · rw [upd_ne (by omega)]; exact hb x (by omega)
  have := one 0 (Nat.zero_le _) (g 95) fun x hx => absurd hx (Nat.not_lt_zero x)
  rw [show va_up (va_up g 87 a) 95 (g 95) = va_up g 87 a by
    funext k
    by_cases e : k = 95
    · rw [e, va_s, va_ne (by omega)]
    · rw [va_ne e]] at this
  exact this
theorem o_readings : k_op21 k_Inv := by
  intro X f fl g gl hh v tx hI
  have hI' := hI
  obtain ⟨κ, ⟨wS, wH, wL, wD, wW, wT, wB⟩, hm, ⟨xS, xH, xL, xD, xW, xT⟩, hr⟩ := hI'
  refine b_x_readings_0 (h := ?_) ..
  refine c_fitting wS wL wD xS xL xD (D := 0) (Or.inl rfl) fun a => ?_
  refine b_x_readings_12 (h := ?_) ..
  refine k_mid ?_
  refine c_m_readings (κ := κ) hm wS wL fun b _ => ?_
  exact k_fin0 rfl hI
theorem o_fits : k_op32 k_Inv := by
  intro X f fl g gl hh v tx hI
  have hI' := hI
  obtain ⟨κ, ⟨wS, wH, wL, wD, wW, wT, wB⟩, hm, ⟨xS, xH, xL, xD, xW, xT⟩, hr⟩ := hI'
  refine b_x_fits_0 (h := ?_) ..
  rw [xD.1]
  refine c_fitting wS wL wD xS xL xD (D := κ 57) (Or.inr rfl) fun a => ?_
  refine b_x_fits_18 (h := ?_) ..
  refine k_mid ?_
  refine c_m_fits (κ := κ) hm wS wL wD fun a2 b => ?_
  exact k_fin0 rfl hI
