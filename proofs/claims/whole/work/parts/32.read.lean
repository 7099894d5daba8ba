/-! the class reads the line: contracts -/
def bcF (p0 : Int32) : Int32 := ((((((((p0 - ((((p0).toUInt32 >>> ((1 : Int32).toUInt32 &&& Int32.toUInt32 31)).toInt32) &&& (1431655765 : Int32))) &&& (858993459 : Int32)) + (((((p0 - ((((p0).toUInt32 >>> ((1 : Int32).toUInt32 &&& Int32.toUInt32 31)).toInt32) &&& (1431655765 : Int32)))).toUInt32 >>> ((2 : Int32).toUInt32 &&& Int32.toUInt32 31)).toInt32) &&& (858993459 : Int32))) + ((((((p0 - ((((p0).toUInt32 >>> ((1 : Int32).toUInt32 &&& Int32.toUInt32 31)).toInt32) &&& (1431655765 : Int32))) &&& (858993459 : Int32)) + (((((p0 - ((((p0).toUInt32 >>> ((1 : Int32).toUInt32 &&& Int32.toUInt32 31)).toInt32) &&& (1431655765 : Int32)))).toUInt32 >>> ((2 : Int32).toUInt32 &&& Int32.toUInt32 31)).toInt32) &&& (858993459 : Int32)))).toUInt32 >>> ((4 : Int32).toUInt32 &&& Int32.toUInt32 31)).toInt32)) &&& (252645135 : Int32)) + ((((((((p0 - ((((p0).toUInt32 >>> ((1 : Int32).toUInt32 &&& Int32.toUInt32 31)).toInt32) &&& (1431655765 : Int32))) &&& (858993459 : Int32)) + (((((p0 - ((((p0).toUInt32 >>> ((1 : Int32).toUInt32 &&& Int32.toUInt32 31)).toInt32) &&& (1431655765 : Int32)))).toUInt32 >>> ((2 : Int32).toUInt32 &&& Int32.toUInt32 31)).toInt32) &&& (858993459 : Int32))) + ((((((p0 - ((((p0).toUInt32 >>> ((1 : Int32).toUInt32 &&& Int32.toUInt32 31)).toInt32) &&& (1431655765 : Int32))) &&& (858993459 : Int32)) + (((((p0 - ((((p0).toUInt32 >>> ((1 : Int32).toUInt32 &&& Int32.toUInt32 31)).toInt32) &&& (1431655765 : Int32)))).toUInt32 >>> ((2 : Int32).toUInt32 &&& Int32.toUInt32 31)).toInt32) &&& (858993459 : Int32)))).toUInt32 >>> ((4 : Int32).toUInt32 &&& Int32.toUInt32 31)).toInt32)) &&& (252645135 : Int32))).toUInt32 >>> ((8 : Int32).toUInt32 &&& Int32.toUInt32 31)).toInt32)) + (((((((((p0 - ((((p0).toUInt32 >>> ((1 : Int32).toUInt32 &&& Int32.toUInt32 31)).toInt32) &&& (1431655765 : Int32))) &&& (858993459 : Int32)) + (((((p0 - ((((p0).toUInt32 >>> ((1 : Int32).toUInt32 &&& Int32.toUInt32 31)).toInt32) &&& (1431655765 : Int32)))).toUInt32 >>> ((2 : Int32).toUInt32 &&& Int32.toUInt32 31)).toInt32) &&& (858993459 : Int32))) + ((((((p0 - ((((p0).toUInt32 >>> ((1 : Int32).toUInt32 &&& Int32.toUInt32 31)).toInt32) &&& (1431655765 : Int32))) &&& (858993459 : Int32)) + (((((p0 - ((((p0).toUInt32 >>> ((1 : Int32).toUInt32 &&& Int32.toUInt32 31)).toInt32) &&& (1431655765 : Int32)))).toUInt32 >>> ((2 : Int32).toUInt32 &&& Int32.toUInt32 31)).toInt32) &&& (858993459 : Int32)))).toUInt32 >>> ((4 : Int32).toUInt32 &&& Int32.toUInt32 31)).toInt32)) &&& (252645135 : Int32)) + ((((((((p0 - ((((p0).toUInt32 >>> ((1 : Int32).toUInt32 &&& Int32.toUInt32 31)).toInt32) &&& (1431655765 : Int32))) &&& (858993459 : Int32)) + (((((p0 - ((((p0).toUInt32 >>> ((1 : Int32).toUInt32 &&& Int32.toUInt32 31)).toInt32) &&& (1431655765 : Int32)))).toUInt32 >>> ((2 : Int32).toUInt32 &&& Int32.toUInt32 31)).toInt32) &&& (858993459 : Int32))) + ((((((p0 - ((((p0).toUInt32 >>> ((1 : Int32).toUInt32 &&& Int32.toUInt32 31)).toInt32) &&& (1431655765 : Int32))) &&& (858993459 : Int32)) + (((((p0 - ((((p0).toUInt32 >>> ((1 : Int32).toUInt32 &&& Int32.toUInt32 31)).toInt32) &&& (1431655765 : Int32)))).toUInt32 >>> ((2 : Int32).toUInt32 &&& Int32.toUInt32 31)).toInt32) &&& (858993459 : Int32)))).toUInt32 >>> ((4 : Int32).toUInt32 &&& Int32.toUInt32 31)).toInt32)) &&& (252645135 : Int32))).toUInt32 >>> ((8 : Int32).toUInt32 &&& Int32.toUInt32 31)).toInt32))).toUInt32 >>> ((16 : Int32).toUInt32 &&& Int32.toUInt32 31)).toInt32)) &&& (63 : Int32))
theorem bcF_eq : ∀ n : Nat, n < 256 → bcF (Int32.ofInt (n : Int)) = Int32.ofInt ((pop8 n : Nat) : Int) := by decide +kernel
theorem c_bit {X : mm_X} {d : Nat} {f : Nat → Int32} {fl : Nat → Int64} {g : Nat → Nat → Int32} {gl : Nat → Nat → Int64} {hh : Nat → Nat → Option Nat} {v : Nat → Value} {tx : mm_W} {P : Option Value → mm_W → Prop} {n : Nat} (hn : n < 256) (h : P (some (.int (iI (pop8 n : Nat)))) (Wd f fl g gl hh v tx)) : WP X d 256 (0, [some (.int (iI n))], [], Wd f fl g gl hh v tx) P := by
  refine b_j_bitCount_0 X d f fl g gl hh v tx _ P ?_
  show P (some (.int (bcF (iI n)))) (Wd f fl g gl hh v tx)
  rw [show bcF (iI n) = iI (pop8 n : Nat) from bcF_eq n hn]
  exact h
theorem pow2i (n : Nat) : (2 : Int) ^ (2 * n) = ((4 ^ n : Nat) : Int) := by
  rw [show (4 : Nat) ^ n = 2 ^ (2 * n) by rw [Nat.pow_mul]]
  exact (Int.natCast_pow 2 (2 * n)).symm
theorem oth_expr {C R b l : Nat} (hC : C < 2147483648) (hb : b ≤ 12) (hl : l ≤ 4) (hR : R < 4 ^ l) : ((iI C >>> ((2 : Int32) * iI b &&& (31 : Int32))) &&& (((1 : Int32) <<< ((2 : Int32) * iI l &&& (31 : Int32))) - (1 : Int32))) ^^^ iI R = iI (((C / 4 ^ b % 4 ^ l) ^^^ R : Nat) : Int) := by
  have h4 : (4 : Nat) ^ l ≤ 4 ^ 4 := Nat.pow_le_pow_right (by decide) hl
  have h0 : 0 < (4 : Nat) ^ l := Nat.pow_pos (by decide)
  have e1 : iI C >>> ((2 : Int32) * iI b &&& (31 : Int32)) = iI ((C / 4 ^ b : Nat) : Int) := by
    rw [show (2 : Int32) = iI 2 from rfl, show (31 : Int32) = iI 31 from rfl, z_mul, z_sh (by omega), z_shr (by omega) (by omega)]
    congr 1
    rw [show ((2 : Int) * (b : Int)).toNat = 2 * b by omega, Int.natCast_ediv, pow2i]
  have e2 : ((1 : Int32) <<< ((2 : Int32) * iI l &&& (31 : Int32))) - (1 : Int32) = iI ((4 ^ l - 1 : Nat) : Int) := by
    rw [show (2 : Int32) = iI 2 from rfl, show (31 : Int32) = iI 31 from rfl, show (1 : Int32) = iI 1 from rfl, z_mul, z_sh (by omega), z_shl (by omega), z_sub]
    congr 1
    rw [show ((2 : Int) * (l : Int)).toNat = 2 * l by omega, pow2i]
    omega
  have hc2 : C / 4 ^ b < 2147483648 := Nat.lt_of_le_of_lt (Nat.div_le_self _ _) hC
  obtain ⟨x, hx⟩ : ∃ x, x = C / 4 ^ b := ⟨_, rfl⟩
  obtain ⟨y, hy⟩ : ∃ y, y = 4 ^ l - 1 := ⟨_, rfl⟩
  obtain ⟨z, hz⟩ : ∃ z, z = x % 4 ^ l := ⟨_, rfl⟩
  have hm : z < 4 ^ l := by rw [hz]; exact Nat.mod_lt _ h0
  have exy : x &&& y = z := by rw [hz, hy, show (4 : Nat) ^ l = 2 ^ (2 * l) by rw [Nat.pow_mul], Nat.and_two_pow_sub_one_eq_mod]
  have hy2 : y < 256 := by omega
  have hz2 : z < 256 := by omega
  have hr2 : R < 256 := by omega
  rw [← hx] at e1 hc2
  rw [← hy] at e2
  rw [← hx, ← hz, e1, e2, z_and (by omega) (by omega), Int.toNat_natCast, Int.toNat_natCast, exy, z_xor (by omega) (by omega), Int.toNat_natCast, Int.toNat_natCast]
theorem oth_or {p : Nat} (hp : p < 256) : (iI p ||| (iI p >>> ((1 : Int32) &&& (31 : Int32)))) &&& (85 : Int32) = iI (((p ||| p / 2) &&& 85 : Nat) : Int) := by
  rw [show (1 : Int32) = iI 1 from rfl, show (31 : Int32) = iI 31 from rfl, show (85 : Int32) = iI 85 from rfl, z_sh (by omega), z_shr (by omega) (by omega)]
  rw [show (p : Int) / 2 ^ (1 : Int).toNat = ((p / 2 : Nat) : Int) by rw [Int.natCast_ediv]; rfl, z_or (by omega) (by omega)]
  have h1 : p ||| p / 2 < 2 ^ 8 := Nat.or_lt_two_pow (by omega) (by omega)
  rw [Int.toNat_natCast, Int.toNat_natCast, z_and (by omega) (by omega)]
  rfl
theorem c_others1 {X : mm_X} {d : Nat} {f : Nat → Int32} {fl : Nat → Int64} {g : Nat → Nat → Int32} {gl : Nat → Nat → Int64} {hh : Nat → Nat → Option Nat} {v : Nat → Value} {tx : mm_W} {P : Option Value → mm_W → Prop} {κ : Nat → Nat} (hwS : wS κ) (hwL : wL κ) (hxS : xS (f 64) (g 2) (g 3) (g 4) κ) (hxL : xL (f 70) (f 71) κ) {j at_ : Nat} (hj : j < κ 55) (ha : at_ ≤ 12) (h : P (some (.int (iI (dif κ j at_ : Nat)))) (Wd f fl g gl hh v tx)) : WP X (d + 1) 48 (0, [some (.ref 1), some (.int (iI j)), some (.int (iI at_)), none, none], [], Wd f fl g gl hh v tx) P := by
  have b55 := hwS.1
  obtain ⟨h1, h2, h3, h4, h5⟩ := hwS.2.1 j hj
  obtain ⟨x1, x2, x3⟩ := hxS.2 j hj
  have b12 := hwL.1
  refine b_yst_others_1_0 X d f fl g gl hh v tx _ _ P ?_
  rw [show (iI (j : Int)).toNatClampNeg = j by rw [z_nat (by omega)]; omega]
  rw [x1, x2, hxL.1, hxL.2, z_sub, z_sub]
  refine ⟨by simp (disch := omega) only [z_lit, z_litl, z_neg, z_negl, z_add, z_sub, z_mul, z_addl, z_subl, z_mull, z_cc, z_cl, z_cr, z_cm, z_cml, z_cmr, z_lt, z_le, z_eq, z_ltl, z_lel, z_eql, z_nat, z_i2l, z_l2i, z_div, z_sh, Int.toNat_natCast, z_ts, z_tsl]; omega, fun c => ?_, fun c => ?_⟩
  · simp (disch := omega) only [z_lit, z_litl, z_neg, z_negl, z_add, z_sub, z_mul, z_addl, z_subl, z_mull, z_cc, z_cl, z_cr, z_cm, z_cml, z_cmr, z_lt, z_le, z_eq, z_ltl, z_lel, z_eql, z_nat, z_i2l, z_l2i, z_div, z_sh, Int.toNat_natCast, z_ts, z_tsl] at c
    obtain ⟨b, hb⟩ : ∃ b : Nat, κ 12 = at_ + κ (31 + j) + b := ⟨κ 12 - at_ - κ (31 + j), by omega⟩
    have eb : ((κ 12 : Int) - (at_ : Int) - (κ (31 + j) : Int)) = (b : Int) := by omega
    refine ⟨by simp (disch := omega) only [z_lit, z_litl, z_neg, z_negl, z_add, z_sub, z_mul, z_addl, z_subl, z_mull, z_cc, z_cl, z_cr, z_cm, z_cml, z_cmr, z_lt, z_le, z_eq, z_ltl, z_lel, z_eql, z_nat, z_i2l, z_l2i, z_div, z_sh, Int.toNat_natCast, z_ts, z_tsl]; omega, by simp (disch := omega) only [z_lit, z_litl, z_neg, z_negl, z_add, z_sub, z_mul, z_addl, z_subl, z_mull, z_cc, z_cl, z_cr, z_cm, z_cml, z_cmr, z_lt, z_le, z_eq, z_ltl, z_lel, z_eql, z_nat, z_i2l, z_l2i, z_div, z_sh, Int.toNat_natCast, z_ts, z_tsl]; omega, ?_⟩
    have hl : ∀ i, i < κ 12 → κ i ≤ 3 := fun i hi => hwL.2 i (by omega)
    have hc := codF_lt (c := κ) (n := κ 12) hl
    have hc2 : (4 : Nat) ^ κ 12 ≤ 4 ^ 12 := Nat.pow_le_pow_right (by decide) b12
    have hr := codF_lt (c := clo κ j) (n := κ (31 + j)) fun k hk => clo_le hwS hj hk
    have hr2 : (4 : Nat) ^ κ (31 + j) ≤ 4 ^ 4 := Nat.pow_le_pow_right (by decide) h2
    have ed : codF κ (κ 12) / 4 ^ b % 4 ^ κ (31 + j) = codF (fun k => κ (at_ + k)) (κ (31 + j)) := by
      rw [hb, codF_div (at_ + κ (31 + j)) b fun i hi => hl i (by omega), codF_mod at_ (κ (31 + j)) fun i hi => hl i (by omega)]
    have hx := codF_lt (c := fun k => κ (at_ + k)) (n := κ (31 + j)) fun k hk => hl (at_ + k) (by omega)
    have hx2 : codF (fun k => κ (at_ + k)) (κ (31 + j)) ^^^ codF (clo κ j) (κ (31 + j)) < 2 ^ 8 := Nat.xor_lt_two_pow (by omega) (by omega)
    rw [eb, oth_expr (by omega) (by omega) h2 hr, ed, oth_or (by omega)]
    refine c_bit (Nat.lt_of_le_of_lt Nat.and_le_right (by decide)) ?_
    refine b_yst_others_1_64 X (d + 1) f fl g gl hh v tx _ _ _ _ P ?_
    rw [dif, if_neg (by omega)] at h
    rw [show pop8 ((codF (fun k => κ (at_ + k)) (κ (31 + j)) ^^^ codF (clo κ j) (κ (31 + j)) ||| (codF (fun k => κ (at_ + k)) (κ (31 + j)) ^^^ codF (clo κ j) (κ (31 + j))) / 2) &&& 85) = mis (fun k => κ (at_ + k)) (clo κ j) (κ (31 + j)) from popx_cod h2 (fun k hk => hl (at_ + k) (by omega)) fun k hk => clo_le hwS hj hk]
    exact h
  · simp (disch := omega) only [z_lit, z_litl, z_neg, z_negl, z_add, z_sub, z_mul, z_addl, z_subl, z_mull, z_cc, z_cl, z_cr, z_cm, z_cml, z_cmr, z_lt, z_le, z_eq, z_ltl, z_lel, z_eql, z_nat, z_i2l, z_l2i, z_div, z_sh, Int.toNat_natCast, z_ts, z_tsl] at c
    rw [dif, if_pos (by omega)] at h
    exact h
theorem c_others19 {X : mm_X} {d : Nat} {f : Nat → Int32} {fl : Nat → Int64} {g : Nat → Nat → Int32} {gl : Nat → Nat → Int64} {hh : Nat → Nat → Option Nat} {v : Nat → Value} {tx : mm_W} {P : Option Value → mm_W → Prop} {κ : Nat → Nat} (hwS : wS κ) (hwL : wL κ) (hxS : xS (f 1216) (g 20) (g 21) (g 22) κ) (hxL : xL (f 1222) (f 1223) κ) {j at_ : Nat} (hj : j < κ 55) (ha : at_ ≤ 12) (h : P (some (.int (iI (dif κ j at_ : Nat)))) (Wd f fl g gl hh v tx)) : WP X (d + 1) 48 (0, [some (.ref 19), some (.int (iI j)), some (.int (iI at_)), none, none], [], Wd f fl g gl hh v tx) P := by
  have b55 := hwS.1
  obtain ⟨h1, h2, h3, h4, h5⟩ := hwS.2.1 j hj
  obtain ⟨x1, x2, x3⟩ := hxS.2 j hj
  have b12 := hwL.1
  refine b_yst_others_19_0 X d f fl g gl hh v tx _ _ P ?_
  rw [show (iI (j : Int)).toNatClampNeg = j by rw [z_nat (by omega)]; omega]
  rw [x1, x2, hxL.1, hxL.2, z_sub, z_sub]
  refine ⟨by simp (disch := omega) only [z_lit, z_litl, z_neg, z_negl, z_add, z_sub, z_mul, z_addl, z_subl, z_mull, z_cc, z_cl, z_cr, z_cm, z_cml, z_cmr, z_lt, z_le, z_eq, z_ltl, z_lel, z_eql, z_nat, z_i2l, z_l2i, z_div, z_sh, Int.toNat_natCast, z_ts, z_tsl]; omega, fun c => ?_, fun c => ?_⟩
  · simp (disch := omega) only [z_lit, z_litl, z_neg, z_negl, z_add, z_sub, z_mul, z_addl, z_subl, z_mull, z_cc, z_cl, z_cr, z_cm, z_cml, z_cmr, z_lt, z_le, z_eq, z_ltl, z_lel, z_eql, z_nat, z_i2l, z_l2i, z_div, z_sh, Int.toNat_natCast, z_ts, z_tsl] at c
    obtain ⟨b, hb⟩ : ∃ b : Nat, κ 12 = at_ + κ (31 + j) + b := ⟨κ 12 - at_ - κ (31 + j), by omega⟩
    have eb : ((κ 12 : Int) - (at_ : Int) - (κ (31 + j) : Int)) = (b : Int) := by omega
    refine ⟨by simp (disch := omega) only [z_lit, z_litl, z_neg, z_negl, z_add, z_sub, z_mul, z_addl, z_subl, z_mull, z_cc, z_cl, z_cr, z_cm, z_cml, z_cmr, z_lt, z_le, z_eq, z_ltl, z_lel, z_eql, z_nat, z_i2l, z_l2i, z_div, z_sh, Int.toNat_natCast, z_ts, z_tsl]; omega, by simp (disch := omega) only [z_lit, z_litl, z_neg, z_negl, z_add, z_sub, z_mul, z_addl, z_subl, z_mull, z_cc, z_cl, z_cr, z_cm, z_cml, z_cmr, z_lt, z_le, z_eq, z_ltl, z_lel, z_eql, z_nat, z_i2l, z_l2i, z_div, z_sh, Int.toNat_natCast, z_ts, z_tsl]; omega, ?_⟩
    have hl : ∀ i, i < κ 12 → κ i ≤ 3 := fun i hi => hwL.2 i (by omega)
    have hc := codF_lt (c := κ) (n := κ 12) hl
    have hc2 : (4 : Nat) ^ κ 12 ≤ 4 ^ 12 := Nat.pow_le_pow_right (by decide) b12
    have hr := codF_lt (c := clo κ j) (n := κ (31 + j)) fun k hk => clo_le hwS hj hk
    have hr2 : (4 : Nat) ^ κ (31 + j) ≤ 4 ^ 4 := Nat.pow_le_pow_right (by decide) h2
    have ed : codF κ (κ 12) / 4 ^ b % 4 ^ κ (31 + j) = codF (fun k => κ (at_ + k)) (κ (31 + j)) := by
      rw [hb, codF_div (at_ + κ (31 + j)) b fun i hi => hl i (by omega), codF_mod at_ (κ (31 + j)) fun i hi => hl i (by omega)]
    have hx := codF_lt (c := fun k => κ (at_ + k)) (n := κ (31 + j)) fun k hk => hl (at_ + k) (by omega)
    have hx2 : codF (fun k => κ (at_ + k)) (κ (31 + j)) ^^^ codF (clo κ j) (κ (31 + j)) < 2 ^ 8 := Nat.xor_lt_two_pow (by omega) (by omega)
    rw [eb, oth_expr (by omega) (by omega) h2 hr, ed, oth_or (by omega)]
    refine c_bit (Nat.lt_of_le_of_lt Nat.and_le_right (by decide)) ?_
    refine b_yst_others_19_64 X (d + 1) f fl g gl hh v tx _ _ _ _ P ?_
    rw [dif, if_neg (by omega)] at h
    rw [show pop8 ((codF (fun k => κ (at_ + k)) (κ (31 + j)) ^^^ codF (clo κ j) (κ (31 + j)) ||| (codF (fun k => κ (at_ + k)) (κ (31 + j)) ^^^ codF (clo κ j) (κ (31 + j))) / 2) &&& 85) = mis (fun k => κ (at_ + k)) (clo κ j) (κ (31 + j)) from popx_cod h2 (fun k hk => hl (at_ + k) (by omega)) fun k hk => clo_le hwS hj hk]
    exact h
  · simp (disch := omega) only [z_lit, z_litl, z_neg, z_negl, z_add, z_sub, z_mul, z_addl, z_subl, z_mull, z_cc, z_cl, z_cr, z_cm, z_cml, z_cmr, z_lt, z_le, z_eq, z_ltl, z_lel, z_eql, z_nat, z_i2l, z_l2i, z_div, z_sh, Int.toNat_natCast, z_ts, z_tsl] at c
    rw [dif, if_pos (by omega)] at h
    exact h
/-- the sum over the signs that a place and an order allow -/
def sW (κ : Nat → Nat) (mn : Int) (a : Nat → Int32) (at_ j : Nat) : Int32 := if (mn = -1 ∨ (κ (39 + j) : Int) = mn) ∧ dif κ j at_ = 0 then a (at_ + κ (31 + j)) else 0
theorem dif_lt {κ : Nat → Nat} {j at_ : Nat} (h : dif κ j at_ < 1000000) : at_ + κ (31 + j) ≤ κ 12 := by
  unfold dif at h
  split at h
  · omega
  · omega
theorem dif_le {κ : Nat → Nat} {j at_ : Nat} (h : κ (31 + j) ≤ 4) : dif κ j at_ ≤ 1000000 := by
  unfold dif
  have := mis_le (a := fun k => κ (at_ + k)) (b := clo κ j) (κ (31 + j))
  split <;> omega
theorem c_waysFrom {X : mm_X} {d : Nat} {f : Nat → Int32} {fl : Nat → Int64} {g : Nat → Nat → Int32} {gl : Nat → Nat → Int64} {hh : Nat → Nat → Option Nat} {v : Nat → Value} {tx : mm_W} {P : Option Value → mm_W → Prop} {κ : Nat → Nat} (hwS : wS κ) (hwL : wL κ) (hxS : xS (f 64) (g 2) (g 3) (g 4) κ) (hxL : xL (f 70) (f 71) κ) {at_ : Nat} (ha : at_ ≤ 12) {mn : Int} (hm : mn = -1 ∨ (0 ≤ mn ∧ mn ≤ 5)) (h : P (some (.int (sS (sW κ mn (g 43) at_) (κ 55)))) (Wd f fl g gl hh v tx)) : WP X (d + 2) 13 (0, [some (.ref 38), some (.ref 1), some (.int (iI at_)), some (.int (iI mn)), none, none, none], [], Wd f fl g gl hh v tx) P := by
  have b55 := hwS.1
  have b12 := hwL.1
  refine b_yca_waysFrom_38_1_0 (h := ?_) ..
  have key : ∀ i, i ≤ κ 55 → WP X (d + 2) 13 (6, [some (.ref 38), some (.ref 1), some (.int (iI at_)), some (.int (iI mn)), some (.int (sS (sW κ mn (g 43) at_) i)), some (.int (iI i)), none], [], Wd f fl g gl hh v tx) P := by
    apply k_up (Q := fun i => WP X (d + 2) 13 (6, [some (.ref 38), some (.ref 1), some (.int (iI at_)), some (.int (iI mn)), some (.int (sS (sW κ mn (g 43) at_) i)), some (.int (iI i)), none], [], Wd f fl g gl hh v tx) P)
    · refine b_yca_waysFrom_38_1_6 (h := ?_) ..
      simp (disch := omega) only [z_lit, z_litl, z_neg, z_negl, z_add, z_sub, z_mul, z_addl, z_subl, z_mull, z_cc, z_cl, z_cr, z_cm, z_cml, z_cmr, z_lt, z_le, z_eq, z_ltl, z_lel, z_eql, z_nat, z_i2l, z_l2i, z_div, z_sh, Int.toNat_natCast, z_ts, z_tsl, hxS.1]
      exact ⟨fun _ => h, fun c => absurd (Int.le_refl _) c⟩
    · intro i hi ih
      obtain ⟨h1, h2, h3, h4, h5⟩ := hwS.2.1 i hi
      obtain ⟨x1, x2, x3⟩ := hxS.2 i hi
      have call : (mn = -1 ∨ (κ (39 + i) : Int) = mn) → WP X (d + 1) 48 (0, [some (.ref 1), some (.int (iI i)), some (.int (iI at_)), none, none], [], Wd f fl g gl hh v tx) (fun rv w2 => WP X (d + 2) 13 (50, [some (.ref 38), some (.ref 1), some (.int (iI at_)), some (.int (iI mn)), some (.int (sS (sW κ mn (g 43) at_) i)), some (.int (iI i)), some (.int 1)], rv.toList ++ [], w2) P) := by
        intro hmn
        refine c_others1 hwS hwL hxS hxL hi ha ?_
        refine b_yca_waysFrom_38_1_50 (h := ?_) ..
        have d2 := dif_le (κ := κ) (j := i) (at_ := at_) h2
        simp (disch := omega) only [z_lit, z_litl, z_neg, z_negl, z_add, z_sub, z_mul, z_addl, z_subl, z_mull, z_cc, z_cl, z_cr, z_cm, z_cml, z_cmr, z_lt, z_le, z_eq, z_ltl, z_lel, z_eql, z_nat, z_i2l, z_l2i, z_div, z_sh, Int.toNat_natCast, z_ts, z_tsl, x2]
        refine ⟨fun c => ?_, fun c => ?_⟩
        · have e : sS (sW κ mn (g 43) at_) (i + 1) = sS (sW κ mn (g 43) at_) i := by
            rw [sS, sW, if_neg fun hc => c (by omega)]
            exact Int32.add_zero _
          rw [e] at ih
          exact ih
        · have hc0 : dif κ i at_ = 0 := by omega
          have d3 := dif_lt (κ := κ) (j := i) (at_ := at_) (by omega)
          have e : sS (sW κ mn (g 43) at_) (i + 1) = sS (sW κ mn (g 43) at_) i + g 43 (at_ + κ (31 + i)) := by
            rw [sS, sW, if_pos ⟨hmn, hc0⟩]
          rw [e] at ih
          exact ⟨by omega, by omega, ih⟩
      refine b_yca_waysFrom_38_1_6 (h := ?_) ..
      simp (disch := omega) only [z_lit, z_litl, z_neg, z_negl, z_add, z_sub, z_mul, z_addl, z_subl, z_mull, z_cc, z_cl, z_cr, z_cm, z_cml, z_cmr, z_lt, z_le, z_eq, z_ltl, z_lel, z_eql, z_nat, z_i2l, z_l2i, z_div, z_sh, Int.toNat_natCast, z_ts, z_tsl, hxS.1, x3]
      refine ⟨fun c => by omega, fun _ => ⟨fun c => call (Or.inl c), fun c => ⟨by omega, fun c2 => ?_, fun c2 => call (Or.inr c2)⟩⟩⟩
      have e : sS (sW κ mn (g 43) at_) (i + 1) = sS (sW κ mn (g 43) at_) i := by
        rw [sS, sW, if_neg fun hc => by rcases hc.1 with h | h; exact c h; exact c2 h]
        exact Int32.add_zero _
      rw [e] at ih
      exact ih
  exact key 0 (Nat.zero_le _)
theorem fy_s (κ : Nat → Nat) (q at_ : Nat) : fy κ (q + 1) at_ = if at_ < κ 12 then sS (fun j => if κ (39 + j) = κ (47 + (κ 57 - (q + 1))) ∧ dif κ j at_ = 0 then fy κ q (at_ + κ (31 + j)) else 0) (κ 55) else 0 := rfl
theorem c_fitting {X : mm_X} {d : Nat} {f : Nat → Int32} {fl : Nat → Int64} {g : Nat → Nat → Int32} {gl : Nat → Nat → Int64} {hh : Nat → Nat → Option Nat} {v : Nat → Value} {tx : mm_W} {P : Option Value → mm_W → Prop} {κ : Nat → Nat} (hwS : wS κ) (hwL : wL κ) (hwD : wD κ) (hxS : xS (f 64) (g 2) (g 3) (g 4) κ) (hxL : xL (f 70) (f 71) κ) (hxD : xD (f 72) (g 6) κ) {D : Nat} (hD : D = 0 ∨ D = κ 57) (h : ∀ a, P (some (.int (fy κ D 0))) (Wd f fl (va_up g 43 a) gl hh v tx)) : WP X (d + 3) 12 (0, [some (.ref 38), some (.ref 1), some (.int (iI D)), none, none], [], Wd f fl g gl hh v tx) P := by
  have b55 := hwS.1
  have b12 := hwL.1
  have b57 := hwD.1
  have hl : ∀ j, j < κ 55 → 1 ≤ κ (31 + j) := fun j hj => (hwS.2.1 j hj).1
  -- behind the first loop
  have two : ∀ q, q ≤ D → ∀ a : Nat → Int32, (∀ i, i ≤ κ 12 → a i = fy κ q i) → WP X (d + 3) 12 (44, [some (.ref 38), some (.ref 1), none, some (.int (iI ((D : Int) - (q : Int) - 1))), none], [], Wd f fl (va_up g 43 a) gl hh v tx) P := by
    apply k_up (Q := fun q => ∀ a : Nat → Int32, (∀ i, i ≤ κ 12 → a i = fy κ q i) → WP X (d + 3) 12 (44, [some (.ref 38), some (.ref 1), none, some (.int (iI ((D : Int) - (q : Int) - 1))), none], [], Wd f fl (va_up g 43 a) gl hh v tx) P)
    · intro a ha
      refine b_yca_fitting_38_1_44 (h := ?_) ..
      simp (disch := omega) only [z_lit, z_litl, z_neg, z_negl, z_add, z_sub, z_mul, z_addl, z_subl, z_mull, z_cc, z_cl, z_cr, z_cm, z_cml, z_cmr, z_lt, z_le, z_eq, z_ltl, z_lel, z_eql, z_nat, z_i2l, z_l2i, z_div, z_sh, Int.toNat_natCast, z_ts, z_tsl, va_s]
      refine ⟨fun _ => ?_, fun c => by omega⟩
      rw [ha 0 (by omega)]
      exact h a
    · intro q hq ih a ha
      have hD2 : D = κ 57 := by omega
      refine b_yca_fitting_38_1_44 (h := ?_) ..
      simp (disch := omega) only [z_lit, z_litl, z_neg, z_negl, z_add, z_sub, z_mul, z_addl, z_subl, z_mull, z_cc, z_cl, z_cr, z_cm, z_cml, z_cmr, z_lt, z_le, z_eq, z_ltl, z_lel, z_eql, z_nat, z_i2l, z_l2i, z_div, z_sh, Int.toNat_natCast, z_ts, z_tsl, va_s]
      refine ⟨fun c => by omega, fun _ => ?_⟩
      have inner : ∀ i, i ≤ κ 12 → ∀ a : Nat → Int32, (∀ x, x < i → a x = fy κ (q + 1) x) → (∀ x, i ≤ x → x ≤ κ 12 → a x = fy κ q x) → WP X (d + 3) 12 (51, [some (.ref 38), some (.ref 1), none, some (.int (iI ((D : Int) - (q : Int) - 1))), some (.int (iI i))], [], Wd f fl (va_up g 43 a) gl hh v tx) P := by
        apply k_up (Q := fun i => ∀ a : Nat → Int32, (∀ x, x < i → a x = fy κ (q + 1) x) → (∀ x, i ≤ x → x ≤ κ 12 → a x = fy κ q x) → WP X (d + 3) 12 (51, [some (.ref 38), some (.ref 1), none, some (.int (iI ((D : Int) - (q : Int) - 1))), some (.int (iI i))], [], Wd f fl (va_up g 43 a) gl hh v tx) P)
        · intro a h1 h2
          refine b_yca_fitting_38_1_51 (h := ?_) ..
          simp (disch := omega) only [z_lit, z_litl, z_neg, z_negl, z_add, z_sub, z_mul, z_addl, z_subl, z_mull, z_cc, z_cl, z_cr, z_cm, z_cml, z_cmr, z_lt, z_le, z_eq, z_ltl, z_lel, z_eql, z_nat, z_i2l, z_l2i, z_div, z_sh, Int.toNat_natCast, z_ts, z_tsl, va_s, va_tw, hxL.1]
          refine ⟨fun _ => ⟨by omega, ?_⟩, fun c => by omega⟩
          have := ih (upd a (κ 12) 0) (fun i hi => by
            by_cases e : i = κ 12
            · rw [e, upd_s, fy_s, if_neg (by omega)]
            · rw [upd_ne e, h1 i (by omega)])
          rw [show (D : Int) - (q : Int) - 1 + -1 = (D : Int) - ((q + 1 : Nat) : Int) - 1 by omega]
          exact this
        · intro i hi ih2 a h1 h2
          refine b_yca_fitting_38_1_51 (h := ?_) ..
          have xk := hxD.2 (D - q - 1) (by omega)
          have wk := hwD.2 (D - q - 1) (by omega)
          have ek : ((D : Int) - (q : Int) - 1).toNat = D - q - 1 := by omega
          simp (disch := omega) only [z_lit, z_litl, z_neg, z_negl, z_add, z_sub, z_mul, z_addl, z_subl, z_mull, z_cc, z_cl, z_cr, z_cm, z_cml, z_cmr, z_lt, z_le, z_eq, z_ltl, z_lel, z_eql, z_nat, z_i2l, z_l2i, z_div, z_sh, Int.toNat_natCast, z_ts, z_tsl, va_s, va_ne, hxL.1, ek, xk]
          refine ⟨fun c => by omega, fun _ => ⟨by omega, ?_⟩⟩
          refine c_waysFrom (g := va_up g 43 a) (at_ := i) (mn := (κ (47 + (D - q - 1)) : Int)) hwS hwL hxS hxL (by omega) (Or.inr (by omega)) ?_
          refine b_yca_fitting_38_1_79 (h := ?_) ..
          simp (disch := omega) only [z_lit, z_litl, z_neg, z_negl, z_add, z_sub, z_mul, z_addl, z_subl, z_mull, z_cc, z_cl, z_cr, z_cm, z_cml, z_cmr, z_lt, z_le, z_eq, z_ltl, z_lel, z_eql, z_nat, z_i2l, z_l2i, z_div, z_sh, Int.toNat_natCast, z_ts, z_tsl, va_s, va_tw]
          refine ⟨by omega, ?_⟩
          refine ih2 _ (fun x hx => ?_) (fun x hx hx2 => ?_)
          · by_cases e : x = i
            · rw [e, upd_s, fy_s]
              rw [if_pos hi]
              apply sS_cg
              intro j hj
              have := hl j hj
              rw [sW, show κ 57 - (q + 1) = D - q - 1 by omega]
              by_cases c : κ (39 + j) = κ (47 + (D - q - 1)) ∧ dif κ j i = 0
              · have d3 := dif_lt (κ := κ) (j := j) (at_ := i) (by omega)
                rw [if_pos c, if_pos ⟨Or.inr (by omega), c.2⟩]
                exact h2 _ (by omega) d3
              · rw [if_neg c, if_neg fun hc => c ⟨by omega, hc.2⟩]
            · rw [upd_ne e]; exact h1 x (by omega)
          · rw [upd_ne (by omega)]; exact h2 x (by omega) hx2
      exact inner 0 (Nat.zero_le _) a (fun x hx => absurd hx (Nat.not_lt_zero x)) fun x _ hx => ha x hx
  refine b_yca_fitting_38_1_0 (h := ?_) ..
  simp (disch := omega) only [z_lit, z_litl, z_neg, z_negl, z_add, z_sub, z_mul, z_addl, z_subl, z_mull, z_cc, z_cl, z_cr, z_cm, z_cml, z_cmr, z_lt, z_le, z_eq, z_ltl, z_lel, z_eql, z_nat, z_i2l, z_l2i, z_div, z_sh, Int.toNat_natCast, z_ts, z_tsl, hxL.1]
  refine ⟨by omega, ?_⟩
  have one : ∀ r, r ≤ κ 12 → ∀ a : Nat → Int32, (∀ i, κ 12 - r ≤ i → i ≤ κ 12 → a i = wy κ r i) → WP X (d + 3) 12 (17, [some (.ref 38), some (.ref 1), some (.int (iI D)), some (.int (iI ((κ 12 : Int) - (r : Int) - 1))), none], [], Wd f fl (va_up g 43 a) gl hh v tx) P := by
    apply k_up (Q := fun r => ∀ a : Nat → Int32, (∀ i, κ 12 - r ≤ i → i ≤ κ 12 → a i = wy κ r i) → WP X (d + 3) 12 (17, [some (.ref 38), some (.ref 1), some (.int (iI D)), some (.int (iI ((κ 12 : Int) - (r : Int) - 1))), none], [], Wd f fl (va_up g 43 a) gl hh v tx) P)
    · intro a ha
      refine b_yca_fitting_38_1_17 (h := ?_) ..
      simp (disch := omega) only [z_lit, z_litl, z_neg, z_negl, z_add, z_sub, z_mul, z_addl, z_subl, z_mull, z_cc, z_cl, z_cr, z_cm, z_cml, z_cmr, z_lt, z_le, z_eq, z_ltl, z_lel, z_eql, z_nat, z_i2l, z_l2i, z_div, z_sh, Int.toNat_natCast, z_ts, z_tsl]
      refine ⟨fun _ => ?_, fun c => by omega⟩
      rw [show (D : Int) - 1 = (D : Int) - ((0 : Nat) : Int) - 1 by omega]
      exact two 0 (Nat.zero_le _) a fun i hi => ha i (by omega) hi
    · intro r hr ih a ha
      refine b_yca_fitting_38_1_17 (h := ?_) ..
      simp (disch := omega) only [z_lit, z_litl, z_neg, z_negl, z_add, z_sub, z_mul, z_addl, z_subl, z_mull, z_cc, z_cl, z_cr, z_cm, z_cml, z_cmr, z_lt, z_le, z_eq, z_ltl, z_lel, z_eql, z_nat, z_i2l, z_l2i, z_div, z_sh, Int.toNat_natCast, z_ts, z_tsl]
      refine ⟨fun c => by omega, fun _ => ?_⟩
      rw [show (κ 12 : Int) - (r : Int) - 1 = ((κ 12 - (r + 1) : Nat) : Int) by omega]
      refine c_waysFrom (g := va_up g 43 a) (at_ := κ 12 - (r + 1)) (mn := -1) hwS hwL hxS hxL (by omega) (Or.inl rfl) ?_
      refine b_yca_fitting_38_1_33 (h := ?_) ..
      simp (disch := omega) only [z_lit, z_litl, z_neg, z_negl, z_add, z_sub, z_mul, z_addl, z_subl, z_mull, z_cc, z_cl, z_cr, z_cm, z_cml, z_cmr, z_lt, z_le, z_eq, z_ltl, z_lel, z_eql, z_nat, z_i2l, z_l2i, z_div, z_sh, Int.toNat_natCast, z_ts, z_tsl, va_s, va_tw]
      refine ⟨by omega, ?_⟩
      have := ih (upd a (κ 12 - (r + 1)) (sS (sW κ (-1) a (κ 12 - (r + 1))) (κ 55))) (fun i hi hi2 => by
        by_cases e : i = κ 12 - (r + 1)
        · rw [e, upd_s, wy, upd_s]
          apply sS_cg
          intro j hj
          have := hl j hj
          rw [sW]
          by_cases c : dif κ j (κ 12 - (r + 1)) = 0
          · have d3 := dif_lt (κ := κ) (j := j) (at_ := κ 12 - (r + 1)) (by omega)
            rw [if_pos c, if_pos ⟨Or.inl rfl, c⟩]
            exact ha _ (by omega) d3
          · rw [if_neg c, if_neg fun hc => c hc.2]
        · rw [upd_ne e, wy, upd_ne e]
          exact ha i (by omega) hi2)
      rw [show ((κ 12 - (r + 1) : Nat) : Int) + -1 = (κ 12 : Int) - ((r + 1 : Nat) : Int) - 1 by omega]
      exact this
  rw [show (κ 12 : Int) - 1 = (κ 12 : Int) - ((0 : Nat) : Int) - 1 by omega]
  exact one 0 (Nat.zero_le _) _ fun i hi hi2 => by
    rw [show i = κ 12 by omega, upd_s, wy, upd_s]
    rfl
