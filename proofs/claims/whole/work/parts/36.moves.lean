/-! to hang, to take, a day: contracts of both; the operations -/
abbrev w_L (κ : Nat → Nat) : Prop := wL κ
theorem cod_shl {C z : Nat} (hC : C < 4 ^ 11) (hz : z ≤ 3) : (iI C <<< ((2 : Int32) &&& (31 : Int32))) ||| iI z = iI ((4 * C + z : Nat) : Int) := by
  rw [show (2 : Int32) = iI 2 from rfl, show (31 : Int32) = iI 31 from rfl, z_sh (by omega), z_shl (by omega)]
  rw [show (C : Int) * 2 ^ (2 : Int).toNat = ((4 * C : Nat) : Int) by rw [show (2 : Int).toNat = 2 from rfl]; omega, z_or (by omega) (by omega)]
  congr 2
  rw [Int.toNat_natCast, Int.toNat_natCast]
  have : 4 * C ||| z = 4 * C + z := by
    have h := Nat.two_pow_add_eq_or_of_lt (i := 2) (b := z) (by omega) C
    rw [show (2 : Nat) ^ 2 = 4 from rfl] at h
    exact h.symm
  exact this
theorem cod_and3 {C : Nat} (hC : C < 2147483648) : iI C &&& (3 : Int32) = iI ((C % 4 : Nat) : Int) := by
  rw [show (3 : Int32) = iI 3 from rfl, z_and (by omega) (by omega)]
  congr 2
  rw [Int.toNat_natCast]
  show C &&& 3 = C % 4
  rw [show (3 : Nat) = 2 ^ 2 - 1 from rfl, Nat.and_two_pow_sub_one_eq_mod]
theorem cod_shr {C : Nat} (hC : C < 2147483648) : iI C >>> ((2 : Int32) &&& (31 : Int32)) = iI ((C / 4 : Nat) : Int) := by
  rw [show (2 : Int32) = iI 2 from rfl, show (31 : Int32) = iI 31 from rfl, z_sh (by omega), z_shr (by omega) (by omega)]
  congr 1
theorem codF_12 {κ : Nat → Nat} (h : wL κ) : codF κ (κ 12) < 4 ^ 12 := by
  have hc := codF_lt (c := κ) (n := κ 12) fun i hi => h.2 i (by have := h.1; omega)
  have hc2 : (4 : Nat) ^ κ 12 ≤ 4 ^ 12 := Nat.pow_le_pow_right (by decide) h.1
  omega
theorem codF_11 {κ : Nat → Nat} (h : wL κ) (h2 : κ 12 < 12) : codF κ (κ 12) < 4 ^ 11 := by
  have hc := codF_lt (c := κ) (n := κ 12) fun i hi => h.2 i (by omega)
  have hc2 : (4 : Nat) ^ κ 12 ≤ 4 ^ 11 := Nat.pow_le_pow_right (by decide) (by omega)
  omega
theorem c_x_hangs {X : mm_X} {d : Nat} {f : Nat → Int32} {fl : Nat → Int64} {g : Nat → Nat → Int32} {gl : Nat → Nat → Int64} {hh : Nat → Nat → Option Nat} {v : Nat → Value} {tx : mm_W} {P : Option Value → mm_W → Prop} {κ : Nat → Nat} (hwL : wL κ) (hxL : xL (f 70) (f 71) κ) {a : Nat} (ha : a ≤ 16) (hf : f 78 = iI a) {z : Int} (hz : -9223372036854775808 ≤ z ∧ z < 9223372036854775808)
    (h1 : (z < 0 ∨ 3 < z) → P (some (.int (iI (-1)))) (Wd f fl g gl hh v tx)) (h2 : 0 ≤ z → z ≤ 3 → κ 12 = 12 → P (some (.int (iI (-3)))) (Wd f fl g gl hh v tx))
    (h3 : 0 ≤ z → z ≤ 3 → κ 12 < 12 → ∀ ac', pushC a 0 (g 9) ac' → P (some (.int (iI ((κ 12 + 1 : Nat) : Int)))) (Wd (va_up (va_up (va_up f 71 (iI ((4 * codF κ (κ 12) + z.toNat : Nat) : Int))) 70 (iI ((κ 12 + 1 : Nat) : Int))) 78 (iI ((a - aS a + 1 : Nat) : Int))) fl (va_up g 9 ac') gl hh v tx)) : WP X (d + 1) 105 (0, [some (.ref 0), some (.long (lI z)), none], [], Wd f fl g gl hh v tx) P := by
  have b12 := hwL.1
  have hcod := codF_12 hwL
  refine b_x_hangs_0 (h := ?_) ..
  rw [hxL.1, hxL.2, show (0 : Int64) = lI 0 from rfl, show (3 : Int64) = lI 3 from rfl, z_cmp_lt hz (by omega), z_cmp_le hz (by omega), z_l2i]
  refine ⟨fun c => h1 (by omega), fun c => ⟨fun c2 => ⟨fun c3 => ?_, fun c3 => ?_⟩, fun c2 => h1 (by omega)⟩⟩
  · simp (disch := omega) only [z_lit, z_litl, z_neg, z_negl, z_add, z_sub, z_mul, z_addl, z_subl, z_mull, z_cc, z_cl, z_cr, z_cm, z_cml, z_cmr, z_lt, z_le, z_eq, z_ltl, z_lel, z_eql, z_nat, z_i2l, z_l2i, z_div, z_sh, Int.toNat_natCast, z_ts, z_tsl] at c3
    obtain ⟨y, rfl⟩ : ∃ y : Nat, z = y := ⟨z.toNat, by omega⟩
    rw [cod_shl (codF_11 hwL (by omega)) (by omega)]
    refine c_remember (f := va_up (va_up f 71 (iI ((4 * codF κ (κ 12) + y : Nat) : Int))) 70 (iI (κ 12) + 1)) (a := a) (c := 0) ha ?_ fun ac' hp => ?_
    · rw [va_ne (by decide), va_ne (by decide)]; exact hf
    · refine b_x_hangs_48 (h := ?_) ..
      have := h3 (by omega) (by omega) (by omega) ac' hp
      rw [Int.toNat_natCast] at this
      rw [show iI (κ 12) + 1 = iI ((κ 12 + 1 : Nat) : Int) by rw [show (1 : Int32) = iI 1 from rfl, z_add]; rfl]
      exact this
  · simp (disch := omega) only [z_lit, z_litl, z_neg, z_negl, z_add, z_sub, z_mul, z_addl, z_subl, z_mull, z_cc, z_cl, z_cr, z_cm, z_cml, z_cmr, z_lt, z_le, z_eq, z_ltl, z_lel, z_eql, z_nat, z_i2l, z_l2i, z_div, z_sh, Int.toNat_natCast, z_ts, z_tsl] at c3
    exact h2 (by omega) (by omega) (by omega)
theorem c_m_hangsKept {X : mm_X} {d : Nat} {f : Nat → Int32} {fl : Nat → Int64} {g : Nat → Nat → Int32} {gl : Nat → Nat → Int64} {hh : Nat → Nat → Option Nat} {v : Nat → Value} {tx : mm_W} {P : Option Value → mm_W → Prop} {κ : Nat → Nat} (hm : ms (g 76) κ) (hwL : wL κ) {a : Nat} (ha : a ≤ 16) (hf : f 4777 = iI a) {z : Int} (hz : -2147483648 ≤ z ∧ z < 2147483648)
    (h1 : (z < 0 ∨ 3 < z) → P (some (.int (iI (-1)))) (Wd f fl g gl hh v tx)) (h2 : 0 ≤ z → z ≤ 3 → κ 12 = 12 → P (some (.int (iI (-3)))) (Wd f fl g gl hh v tx))
    (h3 : 0 ≤ z → z ≤ 3 → κ 12 < 12 → ∀ le', pushM a 0 (g 76) (g 97) le' → P (some (.int (iI ((κ 12 + 1 : Nat) : Int)))) (Wd (va_up f 4777 (iI ((a - aS a + 1 : Nat) : Int))) fl (va_up (va_up g 97 le') 76 (upd (upd (g 76) (κ 12) (iI z)) 12 (iI ((κ 12 + 1 : Nat) : Int)))) gl hh v tx)) : WP X (d + 2) 236 (0, [some (.ref 74), some (.int (iI z))], [], Wd f fl g gl hh v tx) P := by
  have b12 := hwL.1
  have e12 := hm.1 12 (by decide)
  refine b_m_hangsKept_0 (h := ?_) ..
  simp (disch := omega) only [z_lit, z_litl, z_neg, z_negl, z_add, z_sub, z_mul, z_addl, z_subl, z_mull, z_cc, z_cl, z_cr, z_cm, z_cml, z_cmr, z_lt, z_le, z_eq, z_ltl, z_lel, z_eql, z_nat, z_i2l, z_l2i, z_div, z_sh, Int.toNat_natCast, z_ts, z_tsl, e12]
  refine ⟨fun c => ⟨fun c2 => ?_, fun c2 => h2 (by omega) (by omega) (by omega)⟩, fun c => h1 (by omega)⟩
  refine c_m_keeps (a := a) (w := 0) ha hf fun le' hp => ?_
  refine b_m_hangsKept_28 (h := ?_) ..
  simp (disch := omega) only [z_lit, z_litl, z_neg, z_negl, z_add, z_sub, z_mul, z_addl, z_subl, z_mull, z_cc, z_cl, z_cr, z_cm, z_cml, z_cmr, z_lt, z_le, z_eq, z_ltl, z_lel, z_eql, z_nat, z_i2l, z_l2i, z_div, z_sh, Int.toNat_natCast, z_ts, z_tsl, va_ne, va_s, va_tw, e12, Nat.zero_add, upd_ne, upd_s, Int.zero_add]
  exact ⟨by omega, h3 (by omega) (by omega) (by omega) le' hp⟩
theorem c_x_takes {X : mm_X} {d : Nat} {f : Nat → Int32} {fl : Nat → Int64} {g : Nat → Nat → Int32} {gl : Nat → Nat → Int64} {hh : Nat → Nat → Option Nat} {v : Nat → Value} {tx : mm_W} {P : Option Value → mm_W → Prop} {κ : Nat → Nat} (hwL : wL κ) (hxL : xL (f 70) (f 71) κ) {a : Nat} (ha : a ≤ 16) (hf : f 78 = iI a)
    (h1 : κ 12 = 0 → P (some (.int (iI (-3)))) (Wd f fl g gl hh v tx))
    (h2 : ∀ n, κ 12 = n + 1 → ∀ ac', pushC a (1 + 4 * κ n) (g 9) ac' → P (some (.int (iI (κ n)))) (Wd (va_up (va_up (va_up f 71 (iI (codF κ n))) 70 (iI n)) 78 (iI ((a - aS a + 1 : Nat) : Int))) fl (va_up g 9 ac') gl hh v tx)) : WP X (d + 1) 106 (0, [some (.ref 0), none], [], Wd f fl g gl hh v tx) P := by
  have b12 := hwL.1
  have hcod := codF_12 hwL
  refine b_x_takes_0 (h := ?_) ..
  rw [hxL.1, hxL.2]
  refine ⟨fun c => ?_, fun c => ?_⟩
  · simp (disch := omega) only [z_lit, z_litl, z_neg, z_negl, z_add, z_sub, z_mul, z_addl, z_subl, z_mull, z_cc, z_cl, z_cr, z_cm, z_cml, z_cmr, z_lt, z_le, z_eq, z_ltl, z_lel, z_eql, z_nat, z_i2l, z_l2i, z_div, z_sh, Int.toNat_natCast, z_ts, z_tsl] at c
    obtain ⟨n, hn⟩ : ∃ n, κ 12 = n + 1 := ⟨κ 12 - 1, by omega⟩
    have hk := hwL.2 n (by omega)
    have e : codF κ (κ 12) = 4 * codF κ n + κ n := by rw [hn, codF]
    have e4 : codF κ (κ 12) % 4 = κ n := by omega
    have ed : codF κ (κ 12) / 4 = codF κ n := by omega
    rw [cod_and3 (by omega), e4, cod_shr (by omega), ed]
    have ec : (1 : Int32) ||| (iI (κ n) <<< ((2 : Int32) &&& (31 : Int32))) = iI ((1 + 4 * κ n : Nat) : Int) := by
      have : ∀ q : Nat, q ≤ 3 → (1 : Int32) ||| (Int32.ofInt (q : Int) <<< ((2 : Int32) &&& (31 : Int32))) = Int32.ofInt ((1 + 4 * q : Nat) : Int) := by decide
      exact this _ hk
    rw [ec]
    refine c_remember (f := va_up (va_up f 71 (iI (codF κ n))) 70 (iI (κ 12) - 1)) (a := a) (c := 1 + 4 * κ n) ha ?_ fun ac' hp => ?_
    · rw [va_ne (by decide), va_ne (by decide)]; exact hf
    · refine b_x_takes_42 (h := ?_) ..
      have := h2 n hn ac' hp
      rw [show iI (κ 12) - 1 = iI n by rw [show (1 : Int32) = iI 1 from rfl, z_sub]; congr 1; omega]
      exact this
  · simp (disch := omega) only [z_lit, z_litl, z_neg, z_negl, z_add, z_sub, z_mul, z_addl, z_subl, z_mull, z_cc, z_cl, z_cr, z_cm, z_cml, z_cmr, z_lt, z_le, z_eq, z_ltl, z_lel, z_eql, z_nat, z_i2l, z_l2i, z_div, z_sh, Int.toNat_natCast, z_ts, z_tsl] at c
    exact h1 (by omega)
theorem c_m_takesKept {X : mm_X} {d : Nat} {f : Nat → Int32} {fl : Nat → Int64} {g : Nat → Nat → Int32} {gl : Nat → Nat → Int64} {hh : Nat → Nat → Option Nat} {v : Nat → Value} {tx : mm_W} {P : Option Value → mm_W → Prop} {κ : Nat → Nat} (hm : ms (g 76) κ) (hwL : wL κ) {a : Nat} (ha : a ≤ 16) (hf : f 4777 = iI a)
    (h1 : κ 12 = 0 → P (some (.int (iI (-3)))) (Wd f fl g gl hh v tx))
    (h2 : ∀ n, κ 12 = n + 1 → ∀ le', pushM a 1 (g 76) (g 97) le' → P (some (.int (iI (κ n)))) (Wd (va_up f 4777 (iI ((a - aS a + 1 : Nat) : Int))) fl (va_up (va_up g 97 le') 76 (upd (g 76) 12 (iI n))) gl hh v tx)) : WP X (d + 2) 237 (0, [some (.ref 74)], [], Wd f fl g gl hh v tx) P := by
  have b12 := hwL.1
  have e12 := hm.1 12 (by decide)
  refine b_m_takesKept_0 (h := ?_) ..
  simp (disch := omega) only [z_lit, z_litl, z_neg, z_negl, z_add, z_sub, z_mul, z_addl, z_subl, z_mull, z_cc, z_cl, z_cr, z_cm, z_cml, z_cmr, z_lt, z_le, z_eq, z_ltl, z_lel, z_eql, z_nat, z_i2l, z_l2i, z_div, z_sh, Int.toNat_natCast, z_ts, z_tsl, e12]
  refine ⟨fun c => ?_, fun c => h1 (by omega)⟩
  obtain ⟨n, hn⟩ : ∃ n, κ 12 = n + 1 := ⟨κ 12 - 1, by omega⟩
  have en := hm.1 n (by omega)
  refine c_m_keeps (a := a) (w := 1) ha hf fun le' hp => ?_
  refine b_m_takesKept_15 (h := ?_) ..
  have e2 : iI (κ 12) - iI 1 = iI n := by rw [z_sub]; congr 1; omega
  have e3 : ((κ 12 : Int) - 1) = (n : Int) := by omega
  simp (disch := omega) only [z_lit, z_litl, z_neg, z_negl, z_add, z_sub, z_mul, z_addl, z_subl, z_mull, z_cc, z_cl, z_cr, z_cm, z_cml, z_cmr, z_lt, z_le, z_eq, z_ltl, z_lel, z_eql, z_nat, z_i2l, z_l2i, z_div, z_sh, Int.toNat_natCast, z_ts, z_tsl, va_ne, va_s, va_tw, e12, e3, Nat.zero_add, upd_s, Int.zero_add, upd_ne, en]
  exact ⟨by omega, h2 n hn le' hp⟩
theorem c_x_passes {X : mm_X} {d : Nat} {f : Nat → Int32} {fl : Nat → Int64} {g : Nat → Nat → Int32} {gl : Nat → Nat → Int64} {hh : Nat → Nat → Option Nat} {v : Nat → Value} {tx : mm_W} {P : Option Value → mm_W → Prop} {κ : Nat → Nat} (hwT : wT κ) (hxT : xT (g 8) κ) {a : Nat} (ha : a ≤ 16) (hf : f 78 = iI a)
    (h1 : κ 22 = 999 → P (some (.int (iI (-3)))) (Wd f fl g gl hh v tx))
    (h2 : κ 22 < 999 → ∀ ac', pushC a 3 (g 9) ac' → P (some (.int (iI ((κ 22 + 1 : Nat) : Int)))) (Wd (va_up f 78 (iI ((a - aS a + 1 : Nat) : Int))) fl (va_up (va_up g 8 (upd (g 8) 0 (iI ((κ 22 + 1 : Nat) : Int)))) 9 ac') gl hh v tx)) : WP X (d + 1) 108 (0, [some (.ref 0)], [], Wd f fl g gl hh v tx) P := by
  have b := hwT.1
  refine b_x_passes_0 (h := ?_) ..
  simp (disch := omega) only [z_lit, z_litl, z_neg, z_negl, z_add, z_sub, z_mul, z_addl, z_subl, z_mull, z_cc, z_cl, z_cr, z_cm, z_cml, z_cmr, z_lt, z_le, z_eq, z_ltl, z_lel, z_eql, z_nat, z_i2l, z_l2i, z_div, z_sh, Int.toNat_natCast, z_ts, z_tsl, hxT.1]
  refine ⟨fun c => ?_, fun c => h1 (by omega)⟩
  refine c_remember (g := va_up g 8 (upd (g 8) 0 (iI ((κ 22 + 1 : Nat) : Int)))) (a := a) (c := 3) ha hf fun ac' hp => ?_
  refine b_x_passes_39 (h := ?_) ..
  exact h2 (by omega) ac' hp
theorem c_m_passesKept {X : mm_X} {d : Nat} {f : Nat → Int32} {fl : Nat → Int64} {g : Nat → Nat → Int32} {gl : Nat → Nat → Int64} {hh : Nat → Nat → Option Nat} {v : Nat → Value} {tx : mm_W} {P : Option Value → mm_W → Prop} {κ : Nat → Nat} (hm : ms (g 76) κ) (hwT : wT κ) {a : Nat} (ha : a ≤ 16) (hf : f 4777 = iI a)
    (h1 : κ 22 = 999 → P (some (.int (iI (-3)))) (Wd f fl g gl hh v tx))
    (h2 : κ 22 < 999 → ∀ le', pushM a 3 (g 76) (g 97) le' → P (some (.int (iI ((κ 22 + 1 : Nat) : Int)))) (Wd (va_up f 4777 (iI ((a - aS a + 1 : Nat) : Int))) fl (va_up (va_up g 97 le') 76 (upd (g 76) 22 (iI ((κ 22 + 1 : Nat) : Int)))) gl hh v tx)) : WP X (d + 2) 239 (0, [some (.ref 74)], [], Wd f fl g gl hh v tx) P := by
  have b := hwT.1
  have e22 := hm.1 22 (by decide)
  refine b_m_passesKept_0 (h := ?_) ..
  simp (disch := omega) only [z_lit, z_litl, z_neg, z_negl, z_add, z_sub, z_mul, z_addl, z_subl, z_mull, z_cc, z_cl, z_cr, z_cm, z_cml, z_cmr, z_lt, z_le, z_eq, z_ltl, z_lel, z_eql, z_nat, z_i2l, z_l2i, z_div, z_sh, Int.toNat_natCast, z_ts, z_tsl, e22]
  refine ⟨fun c => ?_, fun c => h1 (by omega)⟩
  refine c_m_keeps (a := a) (w := 3) ha hf fun le' hp => ?_
  refine b_m_passesKept_21 (h := ?_) ..
  simp (disch := omega) only [z_lit, z_litl, z_neg, z_negl, z_add, z_sub, z_mul, z_addl, z_subl, z_mull, z_cc, z_cl, z_cr, z_cm, z_cml, z_cmr, z_lt, z_le, z_eq, z_ltl, z_lel, z_eql, z_nat, z_i2l, z_l2i, z_div, z_sh, Int.toNat_natCast, z_ts, z_tsl, va_ne, va_s, va_tw, e22, upd_s]
  exact h2 (by omega) le' hp
theorem o_hang : k_op16 k_Inv := by
  intro a0 X f fl g gl hh v tx hI
  have hI' := hI
  obtain ⟨κ, ⟨wS, wH, wL, wD, wW, wT, wB⟩, hm, ⟨xS, xH, xL, xD, xW, xT⟩, he, ht, ha, hi0, hi1, hd, hr⟩ := hI
  obtain ⟨z, hz, rfl⟩ := z_ex a0
  have b12 := wL.1
  obtain ⟨a, ha16, hxa, hma⟩ := i_acts_n ha
  refine b_x_hang_0 (h := ?_) ..
  rw [z_i2l hz]
  refine c_x_hangs wL xL ha16 hxa (by omega) (fun c => ?_) (fun c c2 c3 => ?_) fun c c2 c3 ac' hp => ?_
  · refine b_x_hang_7 (h := ?_) ..
    simp (disch := omega) only [z_lit, z_litl, z_neg, z_negl, z_add, z_sub, z_mul, z_addl, z_subl, z_mull, z_cc, z_cl, z_cr, z_cm, z_cml, z_cmr, z_lt, z_le, z_eq, z_ltl, z_lel, z_eql, z_nat, z_i2l, z_l2i, z_div, z_sh, Int.toNat_natCast, z_ts, z_tsl]
    repeat (first | refine ⟨fun c9 => by omega, fun _ => ?_⟩ | refine ⟨fun _ => ?_, fun c9 => by omega⟩ | refine ⟨by omega, ?_⟩)
    refine k_mid (b_m_hang_0 (h := ?_) ..)
    refine c_m_hangsKept (κ := κ) (a := a) (by exact hm) wL ha16 (by exact hma) hz (fun _ => ?_) (fun _ _ _ => by omega) fun _ _ _ => by omega
    refine b_m_hang_6 (h := ?_) ..
    simp (disch := omega) only [z_lit, z_litl, z_neg, z_negl, z_add, z_sub, z_mul, z_addl, z_subl, z_mull, z_cc, z_cl, z_cr, z_cm, z_cml, z_cmr, z_lt, z_le, z_eq, z_ltl, z_lel, z_eql, z_nat, z_i2l, z_l2i, z_div, z_sh, Int.toNat_natCast, z_ts, z_tsl]
    repeat (first | refine ⟨fun c9 => by omega, fun _ => ?_⟩ | refine ⟨fun _ => ?_, fun c9 => by omega⟩ | refine ⟨by omega, ?_⟩)
    exact k_fin0 rfl (hI'.rf (iI (-1)) 1 (by decide))
  · refine b_x_hang_7 (h := ?_) ..
    simp (disch := omega) only [z_lit, z_litl, z_neg, z_negl, z_add, z_sub, z_mul, z_addl, z_subl, z_mull, z_cc, z_cl, z_cr, z_cm, z_cml, z_cmr, z_lt, z_le, z_eq, z_ltl, z_lel, z_eql, z_nat, z_i2l, z_l2i, z_div, z_sh, Int.toNat_natCast, z_ts, z_tsl]
    repeat (first | refine ⟨fun c9 => by omega, fun _ => ?_⟩ | refine ⟨fun _ => ?_, fun c9 => by omega⟩ | refine ⟨by omega, ?_⟩)
    refine k_mid (b_m_hang_0 (h := ?_) ..)
    refine c_m_hangsKept (κ := κ) (a := a) (by exact hm) wL ha16 (by exact hma) hz (fun _ => by omega) (fun _ _ _ => ?_) fun _ _ _ => by omega
    refine b_m_hang_6 (h := ?_) ..
    simp (disch := omega) only [z_lit, z_litl, z_neg, z_negl, z_add, z_sub, z_mul, z_addl, z_subl, z_mull, z_cc, z_cl, z_cr, z_cm, z_cml, z_cmr, z_lt, z_le, z_eq, z_ltl, z_lel, z_eql, z_nat, z_i2l, z_l2i, z_div, z_sh, Int.toNat_natCast, z_ts, z_tsl]
    repeat (first | refine ⟨fun c9 => by omega, fun _ => ?_⟩ | refine ⟨fun _ => ?_, fun c9 => by omega⟩ | refine ⟨by omega, ?_⟩)
    exact k_fin0 rfl (hI'.rf (iI (-3)) 3 (by decide))
  · refine b_x_hang_7 (h := ?_) ..
    simp (disch := omega) only [z_lit, z_litl, z_neg, z_negl, z_add, z_sub, z_mul, z_addl, z_subl, z_mull, z_cc, z_cl, z_cr, z_cm, z_cml, z_cmr, z_lt, z_le, z_eq, z_ltl, z_lel, z_eql, z_nat, z_i2l, z_l2i, z_div, z_sh, Int.toNat_natCast, z_ts, z_tsl]
    repeat (first | refine ⟨fun c9 => by omega, fun _ => ?_⟩ | refine ⟨fun _ => ?_, fun c9 => by omega⟩ | refine ⟨by omega, ?_⟩)
    refine k_mid (b_m_hang_0 (h := ?_) ..)
    refine c_m_hangsKept (κ := κ) (a := a) (by exact hm) wL ha16 (by exact hma) hz (fun _ => by omega) (fun _ _ _ => by omega) fun _ _ _ le' hq => ?_
    refine b_m_hang_6 (h := ?_) ..
    simp (disch := omega) only [z_lit, z_litl, z_neg, z_negl, z_add, z_sub, z_mul, z_addl, z_subl, z_mull, z_cc, z_cl, z_cr, z_cm, z_cml, z_cmr, z_lt, z_le, z_eq, z_ltl, z_lel, z_eql, z_nat, z_i2l, z_l2i, z_div, z_sh, Int.toNat_natCast, z_ts, z_tsl]
    repeat (first | refine ⟨fun c9 => by omega, fun _ => ?_⟩ | refine ⟨fun _ => ?_, fun c9 => by omega⟩ | refine ⟨by omega, ?_⟩)
    obtain ⟨y, rfl⟩ : ∃ y : Nat, z = y := ⟨z.toNat, by omega⟩
    rw [Int.toNat_natCast]
    have en : ∀ i, ¬ i = 12 → ¬ i = κ 12 → va_up (va_up κ (κ 12) y) 12 (κ 12 + 1) i = κ i := fun i h1 h2 => (va_ne h1).trans (va_ne h2)
    have e1 : va_up (va_up κ (κ 12) y) 12 (κ 12 + 1) (κ 12) = y := (va_ne (by omega)).trans va_s
    have hL' : w_L (va_up (va_up κ (κ 12) y) 12 (κ 12 + 1)) := by
      refine ⟨by rw [va_s]; omega, fun i hi => ?_⟩
      by_cases e : i = κ 12
      · rw [e, e1]; omega
      · rw [en i (by omega) e]; exact wL.2 i hi
    refine k_fin0 rfl ⟨va_up (va_up κ (κ 12) y) 12 (κ 12 + 1), ⟨wS.cg fun i hi => en i (by omega) (by omega), wH.cg fun i hi => en i (by omega) (by omega), hL', wD.cg fun i hi => en i (by omega) (by omega), wW.cg fun i hi => en i (by omega) (by omega), wT.cg fun i hi => en i (by omega) (by omega), (wB.up (by omega)).up (by omega)⟩, (hm.up y (by omega)).up _ (by decide),
      ⟨xS.cg wS.1 fun i hi => en i (by omega) (by omega), xH.cg wH.1 fun i hi => en i (by omega) (by omega), ⟨?_, ?_⟩, xD.cg wD.1 fun i hi => en i (by omega) (by omega), xW.cg fun i hi => en i (by omega) (by omega), xT.cg fun i hi => en i (by omega) (by omega)⟩, ⟨he.1, he.2.1, he.2.2.1, rfl, he.2.2.2.2⟩, ht, ?_, hi0, hi1, hd, hr⟩
    · rw [va_s]; rfl
    · rw [va_s, codF, e1, codF_cg (c := κ) fun i hi => en i (by omega) (by omega)]; rfl
    · refine ha.push (c := 0) hxa ha16 (by omega) hp hq (fun i hi => hm.1 i (by omega)) wH wL wT.1 (en 56 (by omega) (by omega)) hL'.1 (Or.inl ⟨rfl, va_s, fun i hi => en i (by omega) (by omega), fun p hp => ?_, en 22 (by omega) (by omega)⟩)
      have := wH.1
      rw [spot, spot, en _ (by omega) (by omega), en _ (by omega) (by omega), en _ (by omega) (by omega)]
theorem o_take : k_op17 k_Inv := by
  intro X f fl g gl hh v tx hI
  have hI' := hI
  obtain ⟨κ, ⟨wS, wH, wL, wD, wW, wT, wB⟩, hm, ⟨xS, xH, xL, xD, xW, xT⟩, he, ht, ha, hi0, hi1, hd, hr⟩ := hI
  have b12 := wL.1
  obtain ⟨a, ha16, hxa, hma⟩ := i_acts_n ha
  refine b_x_take_0 (h := ?_) ..
  refine c_x_takes wL xL ha16 hxa (fun c => ?_) fun n hn ac' hp => ?_
  · refine b_x_take_5 (h := ?_) ..
    simp (disch := omega) only [z_lit, z_litl, z_neg, z_negl, z_add, z_sub, z_mul, z_addl, z_subl, z_mull, z_cc, z_cl, z_cr, z_cm, z_cml, z_cmr, z_lt, z_le, z_eq, z_ltl, z_lel, z_eql, z_nat, z_i2l, z_l2i, z_div, z_sh, Int.toNat_natCast, z_ts, z_tsl]
    repeat (first | refine ⟨fun c9 => by omega, fun _ => ?_⟩ | refine ⟨fun _ => ?_, fun c9 => by omega⟩ | refine ⟨by omega, ?_⟩)
    refine k_mid (b_m_take_0 (h := ?_) ..)
    refine c_m_takesKept (κ := κ) (a := a) (by exact hm) wL ha16 (by exact hma) (fun _ => ?_) fun n hn => by omega
    refine b_m_take_5 (h := ?_) ..
    simp (disch := omega) only [z_lit, z_litl, z_neg, z_negl, z_add, z_sub, z_mul, z_addl, z_subl, z_mull, z_cc, z_cl, z_cr, z_cm, z_cml, z_cmr, z_lt, z_le, z_eq, z_ltl, z_lel, z_eql, z_nat, z_i2l, z_l2i, z_div, z_sh, Int.toNat_natCast, z_ts, z_tsl]
    repeat (first | refine ⟨fun c9 => by omega, fun _ => ?_⟩ | refine ⟨fun _ => ?_, fun c9 => by omega⟩ | refine ⟨by omega, ?_⟩)
    exact k_fin0 rfl (hI'.rf (iI (-3)) 3 (by decide))
  · have hk := wL.2 n (by omega)
    refine b_x_take_5 (h := ?_) ..
    simp (disch := omega) only [z_lit, z_litl, z_neg, z_negl, z_add, z_sub, z_mul, z_addl, z_subl, z_mull, z_cc, z_cl, z_cr, z_cm, z_cml, z_cmr, z_lt, z_le, z_eq, z_ltl, z_lel, z_eql, z_nat, z_i2l, z_l2i, z_div, z_sh, Int.toNat_natCast, z_ts, z_tsl]
    repeat (first | refine ⟨fun c9 => by omega, fun _ => ?_⟩ | refine ⟨fun _ => ?_, fun c9 => by omega⟩ | refine ⟨by omega, ?_⟩)
    refine k_mid (b_m_take_0 (h := ?_) ..)
    refine c_m_takesKept (κ := κ) (a := a) (by exact hm) wL ha16 (by exact hma) (fun _ => by omega) fun n2 hn2 le' hq => ?_
    have e2 : n2 = n := by omega
    subst e2
    refine b_m_take_5 (h := ?_) ..
    simp (disch := omega) only [z_lit, z_litl, z_neg, z_negl, z_add, z_sub, z_mul, z_addl, z_subl, z_mull, z_cc, z_cl, z_cr, z_cm, z_cml, z_cmr, z_lt, z_le, z_eq, z_ltl, z_lel, z_eql, z_nat, z_i2l, z_l2i, z_div, z_sh, Int.toNat_natCast, z_ts, z_tsl]
    repeat (first | refine ⟨fun c9 => by omega, fun _ => ?_⟩ | refine ⟨fun _ => ?_, fun c9 => by omega⟩ | refine ⟨by omega, ?_⟩)
    have en : ∀ i, ¬ i = 12 → va_up κ 12 n2 i = κ i := fun i h1 => va_ne h1
    have hL' : w_L (va_up κ 12 n2) := by
      refine ⟨by rw [va_s]; omega, fun i hi => ?_⟩
      rw [en i (by omega)]; exact wL.2 i hi
    refine k_fin0 rfl ⟨va_up κ 12 n2, ⟨wS.cg fun i hi => en i (by omega), wH.cg fun i hi => en i (by omega), hL', wD.cg fun i hi => en i (by omega), wW.cg fun i hi => en i (by omega), wT.cg fun i hi => en i (by omega), wB.up (by omega)⟩, hm.up _ (by decide),
      ⟨xS.cg wS.1 fun i hi => en i (by omega), xH.cg wH.1 fun i hi => en i (by omega), ⟨?_, ?_⟩, xD.cg wD.1 fun i hi => en i (by omega), xW.cg fun i hi => en i (by omega), xT.cg fun i hi => en i (by omega)⟩, ⟨he.1, he.2.1, he.2.2.1, rfl, he.2.2.2.2⟩, ht, ?_, hi0, hi1, hd, hr⟩
    · rw [va_s]; rfl
    · rw [va_s, codF_cg (c := κ) fun i hi => en i (by omega)]; rfl
    · have q1 : pushM a ((1 + 4 * κ n2) % 4) (g 76) (g 97) le' := by
        rw [show (1 + 4 * κ n2) % 4 = 1 by omega]; exact hq
      refine ha.push (c := 1 + 4 * κ n2) hxa ha16 (by omega) hp q1 (fun i hi => hm.1 i (by omega)) wH wL wT.1 (en 56 (by omega)) hL'.1 (Or.inr (Or.inl ⟨by omega, by rw [va_s]; exact hn, fun i hi => ?_, ?_, fun p hp => ?_, en 22 (by omega)⟩))
      · rw [va_s] at hi; exact en i (by omega)
      · rw [va_s]; omega
      · have := wH.1
        rw [spot, spot, en _ (by omega), en _ (by omega), en _ (by omega)]
theorem o_pass : k_op19 k_Inv := by
  intro X f fl g gl hh v tx hI
  have hI' := hI
  obtain ⟨κ, ⟨wS, wH, wL, wD, wW, wT, wB⟩, hm, ⟨xS, xH, xL, xD, xW, xT⟩, he, ht, ha, hi0, hi1, hd, hr⟩ := hI
  have b22 := wT.1
  obtain ⟨a, ha16, hxa, hma⟩ := i_acts_n ha
  refine b_x_pass_0 (h := ?_) ..
  refine c_x_passes wT xT ha16 hxa (fun c => ?_) fun c ac' hp => ?_
  · refine b_x_pass_5 (h := ?_) ..
    simp (disch := omega) only [z_lit, z_litl, z_neg, z_negl, z_add, z_sub, z_mul, z_addl, z_subl, z_mull, z_cc, z_cl, z_cr, z_cm, z_cml, z_cmr, z_lt, z_le, z_eq, z_ltl, z_lel, z_eql, z_nat, z_i2l, z_l2i, z_div, z_sh, Int.toNat_natCast, z_ts, z_tsl]
    repeat (first | refine ⟨fun c9 => by omega, fun _ => ?_⟩ | refine ⟨fun _ => ?_, fun c9 => by omega⟩ | refine ⟨by omega, ?_⟩)
    refine k_mid (b_m_pass_0 (h := ?_) ..)
    refine c_m_passesKept (κ := κ) (a := a) (by exact hm) wT ha16 (by exact hma) (fun _ => ?_) fun hn => by omega
    refine b_m_pass_5 (h := ?_) ..
    simp (disch := omega) only [z_lit, z_litl, z_neg, z_negl, z_add, z_sub, z_mul, z_addl, z_subl, z_mull, z_cc, z_cl, z_cr, z_cm, z_cml, z_cmr, z_lt, z_le, z_eq, z_ltl, z_lel, z_eql, z_nat, z_i2l, z_l2i, z_div, z_sh, Int.toNat_natCast, z_ts, z_tsl]
    repeat (first | refine ⟨fun c9 => by omega, fun _ => ?_⟩ | refine ⟨fun _ => ?_, fun c9 => by omega⟩ | refine ⟨by omega, ?_⟩)
    exact k_fin0 rfl (hI'.rf (iI (-3)) 3 (by decide))
  · refine b_x_pass_5 (h := ?_) ..
    simp (disch := omega) only [z_lit, z_litl, z_neg, z_negl, z_add, z_sub, z_mul, z_addl, z_subl, z_mull, z_cc, z_cl, z_cr, z_cm, z_cml, z_cmr, z_lt, z_le, z_eq, z_ltl, z_lel, z_eql, z_nat, z_i2l, z_l2i, z_div, z_sh, Int.toNat_natCast, z_ts, z_tsl]
    repeat (first | refine ⟨fun c9 => by omega, fun _ => ?_⟩ | refine ⟨fun _ => ?_, fun c9 => by omega⟩ | refine ⟨by omega, ?_⟩)
    refine k_mid (b_m_pass_0 (h := ?_) ..)
    refine c_m_passesKept (κ := κ) (a := a) (by exact hm) wT ha16 (by exact hma) (fun _ => by omega) fun _ le' hq => ?_
    refine b_m_pass_5 (h := ?_) ..
    simp (disch := omega) only [z_lit, z_litl, z_neg, z_negl, z_add, z_sub, z_mul, z_addl, z_subl, z_mull, z_cc, z_cl, z_cr, z_cm, z_cml, z_cmr, z_lt, z_le, z_eq, z_ltl, z_lel, z_eql, z_nat, z_i2l, z_l2i, z_div, z_sh, Int.toNat_natCast, z_ts, z_tsl]
    repeat (first | refine ⟨fun c9 => by omega, fun _ => ?_⟩ | refine ⟨fun _ => ?_, fun c9 => by omega⟩ | refine ⟨by omega, ?_⟩)
    have en : ∀ i, ¬ i = 22 → va_up κ 22 (κ 22 + 1) i = κ i := fun i h1 => va_ne h1
    refine k_fin0 rfl ⟨va_up κ 22 (κ 22 + 1), ⟨wS.cg fun i hi => en i (by omega), wH.cg fun i hi => en i (by omega), wL.cg fun i hi => en i (by omega), wD.cg fun i hi => en i (by omega), wW.cg fun i hi => en i (by omega), ⟨by rw [va_s]; omega, by rw [en _ (by decide)]; exact wT.2.1, by rw [en _ (by decide)]; exact wT.2.2⟩, wB.up (by omega)⟩, hm.up _ (by decide),
      ⟨xS.cg wS.1 fun i hi => en i (by omega), xH.cg wH.1 fun i hi => en i (by omega), xL.cg wL.1 fun i hi => en i (by omega), xD.cg wD.1 fun i hi => en i (by omega), xW.cg fun i hi => en i (by omega), ⟨?_, ?_, ?_⟩⟩, ⟨he.1, he.2.1, he.2.2.1, rfl, he.2.2.2.2⟩, ht, ?_, hi0, hi1, hd, hr⟩
    · rw [va_s]; rfl
    · rw [en _ (by decide)]; exact xT.2.1
    · rw [en _ (by decide)]; exact xT.2.2
    · refine ha.push (c := 3) hxa ha16 (by omega) hp hq (fun i hi => hm.1 i (by omega)) wH wL wT.1 (en 56 (by omega)) (by rw [en 12 (by omega)]; exact wL.1) (Or.inr (Or.inr (Or.inr ⟨rfl, en 12 (by omega), fun i hi => en i (by have := wL.1; omega), fun p hp => ?_, va_s⟩)))
      have := wH.1
      rw [spot, spot, en _ (by omega), en _ (by omega), en _ (by omega)]
