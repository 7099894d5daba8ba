/-! operation at -/
theorem cod_dig {c : Nat → Nat} {n q : Nat} (hn : n ≤ 12) (hc : ∀ i, i < n → c i ≤ 3) (hq : q < n) {z : Int} (hz : z = (n : Int) - 1 - (q : Int)) : (iI (codF c n) >>> ((2 : Int32) * iI z &&& (31 : Int32))) &&& (3 : Int32) = iI (c q) := by
  obtain ⟨b, hb⟩ : ∃ b : Nat, n = q + 1 + b := ⟨n - (q + 1), by omega⟩
  have h1 := codF_lt (c := c) (n := n) hc
  have h2 : (4 : Nat) ^ n ≤ 4 ^ 12 := Nat.pow_le_pow_right (by decide) hn
  have h3 : codF c n / 4 ^ b = codF c (q + 1) := by
    have := codF_div (c := c) (q + 1) b fun i hi => hc i (by omega)
    rw [hb]
    exact this
  have hlt := codF_lt (c := c) (n := q + 1) fun i hi => hc i (by omega)
  have hlt2 : (4 : Nat) ^ (q + 1) ≤ 4 ^ 12 := Nat.pow_le_pow_right (by decide) (by omega)
  have hk3 := hc q hq
  have e0 : (2 : Int32) * iI z &&& (31 : Int32) = iI ((2 : Int) * (b : Int)) := by
    rw [show (2 : Int32) = iI 2 from rfl, show (31 : Int32) = iI 31 from rfl, z_mul, show (2 : Int) * z = 2 * (b : Int) by omega, z_sh (by omega)]
  have h4 : iI (codF c n) >>> iI ((2 : Int) * (b : Int)) = iI (codF c (q + 1)) := by
    rw [z_shr (by omega) (by omega), show ((2 : Int) * (b : Int)).toNat = 2 * b by omega, pow2i, ← h3, Int.natCast_ediv]
  rw [e0, h4, cod_and3 (by omega), show codF c (q + 1) % 4 = c q by rw [codF]; omega]
theorem o_at : k_op1 k_Inv := by
  intro a0 a1 X f fl g gl hh v tx hI
  have hI' := hI
  obtain ⟨κ, ⟨wS, wH, wL, wD, wW, wT, wB⟩, hm, ⟨xS, xH, xL, xD, xW, xT⟩, he, ht, ha, hi0, hi1, hd, hr⟩ := hI
  obtain ⟨z, hz, rfl⟩ := z_ex a0
  obtain ⟨y, hy, rfl⟩ := z_ex a1
  have b55 := wS.1
  have e55 := hm.1 55 (by decide)
  by_cases hin : 0 ≤ z ∧ z < κ 55
  · obtain ⟨j, rfl⟩ : ∃ j : Nat, z = j := ⟨z.toNat, by omega⟩
    have hj : j < κ 55 := by omega
    obtain ⟨h1, h2, h3, h4, h5⟩ := wS.2.1 j hj
    obtain ⟨x1, x2, x3⟩ := xS.2 j hj
    have e31 := hm.1 (31 + j) (by omega)
    have e39 := hm.1 (39 + j) (by omega)
    by_cases hy0 : y < 0 ∨ 5 < y
    · refine b_x_at_0 (h := ?_) ..
      simp (disch := omega) only [z_lit, z_litl, z_neg, z_negl, z_add, z_sub, z_mul, z_addl, z_subl, z_mull, z_cc, z_cl, z_cr, z_cm, z_cml, z_cmr, z_lt, z_le, z_eq, z_ltl, z_lel, z_eql, z_nat, z_i2l, z_l2i, z_div, z_sh, Int.toNat_natCast, z_ts, z_tsl, xS.1]
      refine ⟨fun c => by omega, fun _ => ⟨fun c => by omega, fun _ => ⟨fun c => ?_, fun c1 => ⟨fun c2 => by omega, fun c2 => ?_⟩⟩⟩⟩
      all_goals refine k_mid (b_m_at_0 (h := ?_) ..)
      all_goals simp (disch := omega) only [z_lit, z_litl, z_neg, z_negl, z_add, z_sub, z_mul, z_addl, z_subl, z_mull, z_cc, z_cl, z_cr, z_cm, z_cml, z_cmr, z_lt, z_le, z_eq, z_ltl, z_lel, z_eql, z_nat, z_i2l, z_l2i, z_div, z_sh, Int.toNat_natCast, z_ts, z_tsl, e55]
      all_goals repeat (first | refine ⟨fun c9 => by omega, fun _ => ?_⟩ | refine ⟨fun _ => ?_, fun c9 => by omega⟩ | refine ⟨by omega, ?_⟩ | refine ⟨fun c9 => absurd trivial c9, fun _ => ?_⟩ | refine ⟨fun _ => ?_, fun c9 => absurd trivial c9⟩)
      all_goals exact k_fin0 rfl hI'
    · by_cases hy1 : y < 2
      · refine b_x_at_0 (h := ?_) ..
        simp (disch := omega) only [z_lit, z_litl, z_neg, z_negl, z_add, z_sub, z_mul, z_addl, z_subl, z_mull, z_cc, z_cl, z_cr, z_cm, z_cml, z_cmr, z_lt, z_le, z_eq, z_ltl, z_lel, z_eql, z_nat, z_i2l, z_l2i, z_div, z_sh, Int.toNat_natCast, z_ts, z_tsl, xS.1, x2, x3]
        refine ⟨fun c => by omega, fun _ => ⟨fun c => by omega, fun _ => ⟨fun c => by omega, fun c1 => ⟨fun c2 => ⟨by omega, fun c3 => ⟨fun c4 => by omega, fun c4 => ⟨by omega, ?_⟩⟩, fun c3 => ?_⟩, fun c2 => by omega⟩⟩⟩⟩
        all_goals refine k_mid (b_m_at_0 (h := ?_) ..)
        all_goals simp (disch := omega) only [z_lit, z_litl, z_neg, z_negl, z_add, z_sub, z_mul, z_addl, z_subl, z_mull, z_cc, z_cl, z_cr, z_cm, z_cml, z_cmr, z_lt, z_le, z_eq, z_ltl, z_lel, z_eql, z_nat, z_i2l, z_l2i, z_div, z_sh, Int.toNat_natCast, z_ts, z_tsl, e55, e31, e39]
        all_goals repeat (first | refine ⟨fun c9 => by omega, fun _ => ?_⟩ | refine ⟨fun _ => ?_, fun c9 => by omega⟩ | refine ⟨by omega, ?_⟩ | refine ⟨fun c9 => absurd trivial c9, fun _ => ?_⟩ | refine ⟨fun _ => ?_, fun c9 => absurd trivial c9⟩)
        all_goals exact k_fin0 rfl hI'
      · obtain ⟨q, rfl⟩ : ∃ q : Nat, y = q + 2 := ⟨(y - 2).toNat, by omega⟩
        have ey : iI ((q : Int) + 2) - (2 : Int32) = iI (q : Int) := by
          rw [show (2 : Int32) = iI 2 from rfl, z_sub]
          congr 1
          omega
        have el : iI (κ (31 + j)) - (1 : Int32) - iI (q : Int) = iI ((κ (31 + j) : Int) - 1 - (q : Int)) := by rw [show (1 : Int32) = iI 1 from rfl, z_sub, z_sub]
        refine b_x_at_0 (h := ?_) ..
        rw [xS.1, show (iI (j : Int)).toNatClampNeg = j by rw [z_nat (by omega)]; omega, x1, x2, x3, ey, el]
        refine ⟨fun c => by simp (disch := omega) only [z_lit, z_litl, z_neg, z_negl, z_add, z_sub, z_mul, z_addl, z_subl, z_mull, z_cc, z_cl, z_cr, z_cm, z_cml, z_cmr, z_lt, z_le, z_eq, z_ltl, z_lel, z_eql, z_nat, z_i2l, z_l2i, z_div, z_sh, Int.toNat_natCast, z_ts, z_tsl] at c; omega, fun _ => ⟨fun c => by simp (disch := omega) only [z_lit, z_litl, z_neg, z_negl, z_add, z_sub, z_mul, z_addl, z_subl, z_mull, z_cc, z_cl, z_cr, z_cm, z_cml, z_cmr, z_lt, z_le, z_eq, z_ltl, z_lel, z_eql, z_nat, z_i2l, z_l2i, z_div, z_sh, Int.toNat_natCast, z_ts, z_tsl] at c; omega, fun _ => ⟨fun c => by simp (disch := omega) only [z_lit, z_litl, z_neg, z_negl, z_add, z_sub, z_mul, z_addl, z_subl, z_mull, z_cc, z_cl, z_cr, z_cm, z_cml, z_cmr, z_lt, z_le, z_eq, z_ltl, z_lel, z_eql, z_nat, z_i2l, z_l2i, z_div, z_sh, Int.toNat_natCast, z_ts, z_tsl] at c; omega, fun _ => ⟨fun _ => ⟨by simp (disch := omega) only [z_lit, z_litl, z_neg, z_negl, z_add, z_sub, z_mul, z_addl, z_subl, z_mull, z_cc, z_cl, z_cr, z_cm, z_cml, z_cmr, z_lt, z_le, z_eq, z_ltl, z_lel, z_eql, z_nat, z_i2l, z_l2i, z_div, z_sh, Int.toNat_natCast, z_ts, z_tsl]; omega, fun _ => ⟨fun _ => ⟨fun c => ⟨by simp (disch := omega) only [z_lit, z_litl, z_neg, z_negl, z_add, z_sub, z_mul, z_addl, z_subl, z_mull, z_cc, z_cl, z_cr, z_cm, z_cml, z_cmr, z_lt, z_le, z_eq, z_ltl, z_lel, z_eql, z_nat, z_i2l, z_l2i, z_div, z_sh, Int.toNat_natCast, z_ts, z_tsl]; omega, ?_⟩, fun c => ?_⟩, fun c => by simp (disch := omega) only [z_lit, z_litl, z_neg, z_negl, z_add, z_sub, z_mul, z_addl, z_subl, z_mull, z_cc, z_cl, z_cr, z_cm, z_cml, z_cmr, z_lt, z_le, z_eq, z_ltl, z_lel, z_eql, z_nat, z_i2l, z_l2i, z_div, z_sh, Int.toNat_natCast, z_ts, z_tsl] at c; omega⟩, fun c => by simp (disch := omega) only [z_lit, z_litl, z_neg, z_negl, z_add, z_sub, z_mul, z_addl, z_subl, z_mull, z_cc, z_cl, z_cr, z_cm, z_cml, z_cmr, z_lt, z_le, z_eq, z_ltl, z_lel, z_eql, z_nat, z_i2l, z_l2i, z_div, z_sh, Int.toNat_natCast, z_ts, z_tsl] at c; omega⟩, fun c => by simp (disch := omega) only [z_lit, z_litl, z_neg, z_negl, z_add, z_sub, z_mul, z_addl, z_subl, z_mull, z_cc, z_cl, z_cr, z_cm, z_cml, z_cmr, z_lt, z_le, z_eq, z_ltl, z_lel, z_eql, z_nat, z_i2l, z_l2i, z_div, z_sh, Int.toNat_natCast, z_ts, z_tsl] at c; omega⟩⟩⟩⟩
        · simp (disch := omega) only [z_lit, z_litl, z_neg, z_negl, z_add, z_sub, z_mul, z_addl, z_subl, z_mull, z_cc, z_cl, z_cr, z_cm, z_cml, z_cmr, z_lt, z_le, z_eq, z_ltl, z_lel, z_eql, z_nat, z_i2l, z_l2i, z_div, z_sh, Int.toNat_natCast, z_ts, z_tsl] at c
          have hk : q < κ (31 + j) := by omega
          rw [cod_dig (by omega) (fun i hi => clo_le wS hj hi) hk rfl]
          refine k_mid (b_m_at_0 (h := ?_) ..)
          have fin : WP X 1998 137 (0, [some (.ref 74), some (.int (iI j)), some (.int (iI q)), none, none], [], Wd f fl g gl hh v tx) (fun rv w2 => WP X 1999 138 (91, [some (.ref 74), some (.int (iI j)), some (.int (iI ((q : Int) + 2)))], rv.toList ++ [], w2) (k_fn (.int (iI (clo κ j q : Nat))) k_Inv tx)) := by
            refine c_m_clothOf hm wS hj hk ?_
            refine b_m_at_91 (h := ?_) ..
            exact k_fin0 rfl hI'
          rw [ey]
          have hq : q = 0 ∨ q = 1 ∨ q = 2 ∨ q = 3 := by omega
          simp (disch := omega) only [z_lit, z_litl, z_neg, z_negl, z_add, z_sub, z_mul, z_addl, z_subl, z_mull, z_cc, z_cl, z_cr, z_cm, z_cml, z_cmr, z_lt, z_le, z_eq, z_ltl, z_lel, z_eql, z_nat, z_i2l, z_l2i, z_div, z_sh, Int.toNat_natCast, z_ts, z_tsl, e55, e31, e39]
          rcases hq with rfl | rfl | rfl | rfl
          all_goals repeat (first | refine ⟨fun c9 => by omega, fun _ => ?_⟩ | refine ⟨fun _ => ?_, fun c9 => by omega⟩ | refine ⟨by omega, ?_⟩ | refine ⟨fun c9 => absurd trivial c9, fun _ => ?_⟩ | refine ⟨fun _ => ?_, fun c9 => absurd trivial c9⟩)
          all_goals exact fin
        · simp (disch := omega) only [z_lit, z_litl, z_neg, z_negl, z_add, z_sub, z_mul, z_addl, z_subl, z_mull, z_cc, z_cl, z_cr, z_cm, z_cml, z_cmr, z_lt, z_le, z_eq, z_ltl, z_lel, z_eql, z_nat, z_i2l, z_l2i, z_div, z_sh, Int.toNat_natCast, z_ts, z_tsl] at c
          refine k_mid (b_m_at_0 (h := ?_) ..)
          rw [ey]
          have hq : q = 0 ∨ q = 1 ∨ q = 2 ∨ q = 3 := by omega
          simp (disch := omega) only [z_lit, z_litl, z_neg, z_negl, z_add, z_sub, z_mul, z_addl, z_subl, z_mull, z_cc, z_cl, z_cr, z_cm, z_cml, z_cmr, z_lt, z_le, z_eq, z_ltl, z_lel, z_eql, z_nat, z_i2l, z_l2i, z_div, z_sh, Int.toNat_natCast, z_ts, z_tsl, e55, e31, e39]
          rcases hq with rfl | rfl | rfl | rfl
          all_goals repeat (first | exact k_fin0 rfl hI' | refine ⟨fun c9 => by omega, fun _ => ?_⟩ | refine ⟨fun _ => ?_, fun c9 => by omega⟩ | refine ⟨by omega, ?_⟩ | refine ⟨fun c9 => absurd trivial c9, fun _ => ?_⟩ | refine ⟨fun _ => ?_, fun c9 => absurd trivial c9⟩)
  · refine b_x_at_0 (h := ?_) ..
    simp (disch := omega) only [z_lit, z_litl, z_neg, z_negl, z_add, z_sub, z_mul, z_addl, z_subl, z_mull, z_cc, z_cl, z_cr, z_cm, z_cml, z_cmr, z_lt, z_le, z_eq, z_ltl, z_lel, z_eql, z_nat, z_i2l, z_l2i, z_div, z_sh, Int.toNat_natCast, z_ts, z_tsl, xS.1]
    refine ⟨fun c => ?_, fun _ => ⟨fun c => ?_, fun _ => by omega⟩⟩
    all_goals refine k_mid (b_m_at_0 (h := ?_) ..)
    all_goals simp (disch := omega) only [z_lit, z_litl, z_neg, z_negl, z_add, z_sub, z_mul, z_addl, z_subl, z_mull, z_cc, z_cl, z_cr, z_cm, z_cml, z_cmr, z_lt, z_le, z_eq, z_ltl, z_lel, z_eql, z_nat, z_i2l, z_l2i, z_div, z_sh, Int.toNat_natCast, z_ts, z_tsl, e55]
    all_goals repeat (first | refine ⟨fun c9 => by omega, fun _ => ?_⟩ | refine ⟨fun _ => ?_, fun c9 => by omega⟩ | refine ⟨by omega, ?_⟩ | refine ⟨fun c9 => absurd trivial c9, fun _ => ?_⟩ | refine ⟨fun _ => ?_, fun c9 => absurd trivial c9⟩)
    all_goals exact k_fin0 rfl hI'
/-! how many rows of signs there are -/
def sL (t : Nat → Int64) : Nat → Int64
  | 0 => 0
  | n + 1 => sL t n + t n
theorem sL_cg {t t' : Nat → Int64} : ∀ {n : Nat}, (∀ i, i < n → t' i = t i) → sL t' n = sL t n
  | 0, _ => rfl
  | n + 1, h => by rw [sL, sL, sL_cg (n := n) fun i hi => h i (by omega), h n (by omega)]
def ry (κ : Nat → Nat) : Nat → Nat → Int64
  | 0 => fun _ => 1
  | m + 1 => va_up (ry κ m) (m + 1) (sL (fun j => if κ (31 + j) ≤ m + 1 then ry κ m (m + 1 - κ (31 + j)) else 0) (κ 55))
theorem vL_s {f : Nat → Int64} {k : Nat} {x : Int64} : vp_updL f k x k = x := if_pos rfl
theorem vL_ne {f : Nat → Int64} {k j : Nat} {x : Int64} (h : j ≠ k) : vp_updL f k x j = f j := if_neg h
theorem c_x_rows {X : mm_X} {d : Nat} {f : Nat → Int32} {fl : Nat → Int64} {g : Nat → Nat → Int32} {gl : Nat → Nat → Int64} {hh : Nat → Nat → Option Nat} {v : Nat → Value} {tx : mm_W} {P : Option Value → mm_W → Prop} {κ : Nat → Nat} (hwS : wS κ) (hxS : xS (f 64) (g 2) (g 3) (g 4) κ) {n : Nat} (hn : n ≤ 20) (h : ∀ a, P (some (.long (ry κ n n))) (Wd f fl g (va_up gl 54 a) hh v tx)) : WP X d 87 (0, [some (.ref 0), some (.int (iI n)), none, none, none], [], Wd f fl g gl hh v tx) P := by
  have b55 := hwS.1
  refine b_x_rows_0 (h := ?_) ..
  simp (disch := omega) only [z_lit, z_litl, z_neg, z_negl, z_add, z_sub, z_mul, z_addl, z_subl, z_mull, z_cc, z_cl, z_cr, z_cm, z_cml, z_cmr, z_lt, z_le, z_eq, z_ltl, z_lel, z_eql, z_nat, z_i2l, z_l2i, z_div, z_sh, Int.toNat_natCast, z_ts, z_tsl]
  repeat (first | refine ⟨fun c9 => by omega, fun _ => ?_⟩ | refine ⟨fun _ => ?_, fun c9 => by omega⟩ | refine ⟨by omega, ?_⟩ | refine ⟨fun c9 => absurd trivial c9, fun _ => ?_⟩ | refine ⟨fun _ => ?_, fun c9 => absurd trivial c9⟩)
  have key : ∀ m, m ≤ n → ∀ a : Nat → Int64, (∀ i, i ≤ m → a i = ry κ m i) → WP X d 87 (23, [some (.ref 0), some (.int (iI n)), some (.int (iI ((m + 1 : Nat) : Int))), none, none], [], Wd f fl g (va_up gl 54 a) hh v tx) P := by
    apply k_up (Q := fun m => ∀ a : Nat → Int64, (∀ i, i ≤ m → a i = ry κ m i) → WP X d 87 (23, [some (.ref 0), some (.int (iI n)), some (.int (iI ((m + 1 : Nat) : Int))), none, none], [], Wd f fl g (va_up gl 54 a) hh v tx) P)
    · intro a ha
      refine b_x_rows_23 (h := ?_) ..
      simp (disch := omega) only [z_lit, z_litl, z_neg, z_negl, z_add, z_sub, z_mul, z_addl, z_subl, z_mull, z_cc, z_cl, z_cr, z_cm, z_cml, z_cmr, z_lt, z_le, z_eq, z_ltl, z_lel, z_eql, z_nat, z_i2l, z_l2i, z_div, z_sh, Int.toNat_natCast, z_ts, z_tsl, va_s]
      refine ⟨fun _ => ⟨by omega, ?_⟩, fun c => by omega⟩
      rw [ha n (by omega)]
      exact h a
    · intro m hm ih a ha
      refine b_x_rows_23 (h := ?_) ..
      simp (disch := omega) only [z_lit, z_litl, z_neg, z_negl, z_add, z_sub, z_mul, z_addl, z_subl, z_mull, z_cc, z_cl, z_cr, z_cm, z_cml, z_cmr, z_lt, z_le, z_eq, z_ltl, z_lel, z_eql, z_nat, z_i2l, z_l2i, z_div, z_sh, Int.toNat_natCast, z_ts, z_tsl, va_s, va_tw]
      refine ⟨fun c => by omega, fun _ => ⟨by omega, ?_⟩⟩
      have inner : ∀ j, j ≤ κ 55 → ∀ a : Nat → Int64, a (m + 1) = sL (fun j => if κ (31 + j) ≤ m + 1 then ry κ m (m + 1 - κ (31 + j)) else 0) j → (∀ i, i ≤ m → a i = ry κ m i) → WP X d 87 (37, [some (.ref 0), some (.int (iI n)), some (.int (iI ((m + 1 : Nat) : Int))), some (.int (iI j)), none], [], Wd f fl g (va_up gl 54 a) hh v tx) P := by
        apply k_up (Q := fun j => ∀ a : Nat → Int64, a (m + 1) = sL (fun j => if κ (31 + j) ≤ m + 1 then ry κ m (m + 1 - κ (31 + j)) else 0) j → (∀ i, i ≤ m → a i = ry κ m i) → WP X d 87 (37, [some (.ref 0), some (.int (iI n)), some (.int (iI ((m + 1 : Nat) : Int))), some (.int (iI j)), none], [], Wd f fl g (va_up gl 54 a) hh v tx) P)
        · intro a h1 h2
          refine b_x_rows_37 (h := ?_) ..
          simp (disch := omega) only [z_lit, z_litl, z_neg, z_negl, z_add, z_sub, z_mul, z_addl, z_subl, z_mull, z_cc, z_cl, z_cr, z_cm, z_cml, z_cmr, z_lt, z_le, z_eq, z_ltl, z_lel, z_eql, z_nat, z_i2l, z_l2i, z_div, z_sh, Int.toNat_natCast, z_ts, z_tsl, hxS.1]
          refine ⟨fun _ => ?_, fun c => by omega⟩
          refine ih a fun i hi => ?_
          by_cases e : i = m + 1
          · rw [e, ry, va_s, h1]
          · rw [ry, va_ne e]; exact h2 i (by omega)
        · intro j hj ih2 a h1 h2
          obtain ⟨l1, l2, -⟩ := hwS.2.1 j hj
          obtain ⟨-, x2, -⟩ := hxS.2 j hj
          refine b_x_rows_37 (h := ?_) ..
          simp (disch := omega) only [z_lit, z_litl, z_neg, z_negl, z_add, z_sub, z_mul, z_addl, z_subl, z_mull, z_cc, z_cl, z_cr, z_cm, z_cml, z_cmr, z_lt, z_le, z_eq, z_ltl, z_lel, z_eql, z_nat, z_i2l, z_l2i, z_div, z_sh, Int.toNat_natCast, z_ts, z_tsl, hxS.1, x2, va_s, va_tw]
          refine ⟨fun c => by omega, fun _ => ⟨by omega, by omega, fun c => ⟨by omega, by omega, ?_⟩, fun c => ⟨by omega, ?_⟩⟩⟩
          · refine ih2 _ ?_ fun i hi => ?_
            · rw [vL_s, h1, sL, if_pos (by omega), h2 _ (by omega)]
            · rw [vL_ne (by omega)]; exact h2 i hi
          · refine ih2 _ ?_ fun i hi => ?_
            · rw [vL_s, h1, sL, if_neg (by omega)]; rfl
            · rw [vL_ne (by omega)]; exact h2 i hi
      refine inner 0 (Nat.zero_le _) _ ?_ fun i hi => ?_
      · rw [vL_s]; rfl
      · rw [vL_ne (by omega)]; exact ha i hi
  exact key 0 (by omega) _ fun i hi => by
    rw [show i = 0 by omega, vL_s]
    rfl
theorem c_m_rows {X : mm_X} {d : Nat} {f : Nat → Int32} {fl : Nat → Int64} {g : Nat → Nat → Int32} {gl : Nat → Nat → Int64} {hh : Nat → Nat → Option Nat} {v : Nat → Value} {tx : mm_W} {P : Option Value → mm_W → Prop} {κ : Nat → Nat} (hm : ms (g 76) κ) (hwS : wS κ) {n : Nat} (hn : n ≤ 20) (h : ∀ a, P (some (.long (ry κ n n))) (Wd f fl g (va_up gl 94 a) hh v tx)) : WP X (d + 1) 227 (0, [some (.ref 74), some (.int (iI n)), none, none], [], Wd f fl g gl hh v tx) P := by
  have b55 := hwS.1
  have e55 := hm.1 55 (by decide)
  refine b_m_rows_0 (h := ?_) ..
  simp (disch := omega) only [z_lit, z_litl, z_neg, z_negl, z_add, z_sub, z_mul, z_addl, z_subl, z_mull, z_cc, z_cl, z_cr, z_cm, z_cml, z_cmr, z_lt, z_le, z_eq, z_ltl, z_lel, z_eql, z_nat, z_i2l, z_l2i, z_div, z_sh, Int.toNat_natCast, z_ts, z_tsl]
  repeat (first | refine ⟨fun c9 => by omega, fun _ => ?_⟩ | refine ⟨fun _ => ?_, fun c9 => by omega⟩ | refine ⟨by omega, ?_⟩ | refine ⟨fun c9 => absurd trivial c9, fun _ => ?_⟩ | refine ⟨fun _ => ?_, fun c9 => absurd trivial c9⟩)
  have key : ∀ m, m ≤ n → ∀ a : Nat → Int64, (∀ i, i ≤ m → a i = ry κ m i) → WP X (d + 1) 227 (23, [some (.ref 74), some (.int (iI n)), some (.int (iI ((m + 1 : Nat) : Int))), none], [], Wd f fl g (va_up gl 94 a) hh v tx) P := by
    apply k_up (Q := fun m => ∀ a : Nat → Int64, (∀ i, i ≤ m → a i = ry κ m i) → WP X (d + 1) 227 (23, [some (.ref 74), some (.int (iI n)), some (.int (iI ((m + 1 : Nat) : Int))), none], [], Wd f fl g (va_up gl 94 a) hh v tx) P)
    · intro a ha
      refine b_m_rows_23 (h := ?_) ..
      simp (disch := omega) only [z_lit, z_litl, z_neg, z_negl, z_add, z_sub, z_mul, z_addl, z_subl, z_mull, z_cc, z_cl, z_cr, z_cm, z_cml, z_cmr, z_lt, z_le, z_eq, z_ltl, z_lel, z_eql, z_nat, z_i2l, z_l2i, z_div, z_sh, Int.toNat_natCast, z_ts, z_tsl, va_s]
      refine ⟨fun _ => ⟨by omega, ?_⟩, fun c => by omega⟩
      rw [ha n (by omega)]
      exact h a
    · intro m hmn ih a ha
      refine b_m_rows_23 (h := ?_) ..
      simp (disch := omega) only [z_lit, z_litl, z_neg, z_negl, z_add, z_sub, z_mul, z_addl, z_subl, z_mull, z_cc, z_cl, z_cr, z_cm, z_cml, z_cmr, z_lt, z_le, z_eq, z_ltl, z_lel, z_eql, z_nat, z_i2l, z_l2i, z_div, z_sh, Int.toNat_natCast, z_ts, z_tsl, va_s, va_tw]
      refine ⟨fun c => by omega, fun _ => ⟨by omega, ?_⟩⟩
      have inner : ∀ j, j ≤ κ 55 → ∀ a : Nat → Int64, a (m + 1) = sL (fun j => if κ (31 + j) ≤ m + 1 then ry κ m (m + 1 - κ (31 + j)) else 0) j → (∀ i, i ≤ m → a i = ry κ m i) → WP X (d + 1) 227 (37, [some (.ref 74), some (.int (iI n)), some (.int (iI ((m + 1 : Nat) : Int))), some (.int (iI j))], [], Wd f fl g (va_up gl 94 a) hh v tx) P := by
        apply k_up (Q := fun j => ∀ a : Nat → Int64, a (m + 1) = sL (fun j => if κ (31 + j) ≤ m + 1 then ry κ m (m + 1 - κ (31 + j)) else 0) j → (∀ i, i ≤ m → a i = ry κ m i) → WP X (d + 1) 227 (37, [some (.ref 74), some (.int (iI n)), some (.int (iI ((m + 1 : Nat) : Int))), some (.int (iI j))], [], Wd f fl g (va_up gl 94 a) hh v tx) P)
        · intro a h1 h2
          refine b_m_rows_37 (h := ?_) ..
          simp (disch := omega) only [z_lit, z_litl, z_neg, z_negl, z_add, z_sub, z_mul, z_addl, z_subl, z_mull, z_cc, z_cl, z_cr, z_cm, z_cml, z_cmr, z_lt, z_le, z_eq, z_ltl, z_lel, z_eql, z_nat, z_i2l, z_l2i, z_div, z_sh, Int.toNat_natCast, z_ts, z_tsl, e55]
          refine ⟨fun _ => ?_, fun c => by omega⟩
          refine ih a fun i hi => ?_
          by_cases e : i = m + 1
          · rw [e, ry, va_s, h1]
          · rw [ry, va_ne e]; exact h2 i (by omega)
        · intro j hj ih2 a h1 h2
          obtain ⟨l1, l2, -⟩ := hwS.2.1 j hj
          have e31 := hm.1 (31 + j) (by omega)
          refine b_m_rows_37 (h := ?_) ..
          simp (disch := omega) only [z_lit, z_litl, z_neg, z_negl, z_add, z_sub, z_mul, z_addl, z_subl, z_mull, z_cc, z_cl, z_cr, z_cm, z_cml, z_cmr, z_lt, z_le, z_eq, z_ltl, z_lel, z_eql, z_nat, z_i2l, z_l2i, z_div, z_sh, Int.toNat_natCast, z_ts, z_tsl, e55, e31, va_s, va_tw]
          refine ⟨fun c => by omega, fun _ => ⟨by omega, by omega, fun c => ⟨by omega, ?_⟩, fun c => ⟨by omega, by omega, by omega, ?_⟩⟩⟩
          · refine ih2 _ ?_ fun i hi => ?_
            · rw [vL_s, h1, sL, if_neg (by omega)]; rfl
            · rw [vL_ne (by omega)]; exact h2 i hi
          · refine ih2 _ ?_ fun i hi => ?_
            · rw [vL_s, h1, sL, if_pos (by omega), h2 _ (by omega)]
            · rw [vL_ne (by omega)]; exact h2 i hi
      refine inner 0 (Nat.zero_le _) _ ?_ fun i hi => ?_
      · rw [vL_s]; rfl
      · rw [vL_ne (by omega)]; exact ha i hi
  exact key 0 (by omega) _ fun i hi => by
    rw [show i = 0 by omega, vL_s]
    rfl
theorem o_rows : k_op29 k_Inv := by
  intro a0 X f fl g gl hh v tx hI
  have hI' := hI
  obtain ⟨κ, ⟨wS, wH, wL, wD, wW, wT, wB⟩, hm, ⟨xS, xH, xL, xD, xW, xT⟩, he, ht, ha, hi0, hi1, hd, hr⟩ := hI
  obtain ⟨z, hz, rfl⟩ := z_ex a0
  by_cases hin : 0 ≤ z ∧ z ≤ 20
  · obtain ⟨n, rfl⟩ : ∃ j : Nat, z = j := ⟨z.toNat, by omega⟩
    refine c_x_rows wS xS (by omega) fun a => ?_
    refine k_midl ?_
    refine c_m_rows (κ := κ) (by exact hm) wS (by omega) fun b => ?_
    exact k_finl0 rfl hI'
  · refine b_x_rows_0 (h := ?_) ..
    simp (disch := omega) only [z_lit, z_litl, z_neg, z_negl, z_add, z_sub, z_mul, z_addl, z_subl, z_mull, z_cc, z_cl, z_cr, z_cm, z_cml, z_cmr, z_lt, z_le, z_eq, z_ltl, z_lel, z_eql, z_nat, z_i2l, z_l2i, z_div, z_sh, Int.toNat_natCast, z_ts, z_tsl]
    refine ⟨fun c => ?_, fun _ => ⟨fun c => by omega, fun c => ?_⟩⟩
    all_goals refine k_midl (b_m_rows_0 (h := ?_) ..)
    all_goals simp (disch := omega) only [z_lit, z_litl, z_neg, z_negl, z_add, z_sub, z_mul, z_addl, z_subl, z_mull, z_cc, z_cl, z_cr, z_cm, z_cml, z_cmr, z_lt, z_le, z_eq, z_ltl, z_lel, z_eql, z_nat, z_i2l, z_l2i, z_div, z_sh, Int.toNat_natCast, z_ts, z_tsl]
    all_goals repeat (first | refine ⟨fun c9 => by omega, fun _ => ?_⟩ | refine ⟨fun _ => ?_, fun c9 => by omega⟩ | refine ⟨by omega, ?_⟩ | refine ⟨fun c9 => absurd trivial c9, fun _ => ?_⟩ | refine ⟨fun _ => ?_, fun c9 => absurd trivial c9⟩)
    all_goals exact k_finl0 rfl hI'
