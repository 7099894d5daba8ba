/-! operations: more plain ones -/
theorem i_acts_nil {ac le : Nat → Int32} {κ : Nat → Nat} : i_acts 0 0 ac le κ := ⟨0, fun _ => 0, fun _ => κ, by omega, rfl, rfl, fun i _ => rfl, fun k hk => absurd hk (Nat.not_lt_zero _)⟩
theorem o_forget : k_op31 k_Inv := by
  intro X f fl g gl hh v tx hI
  obtain ⟨κ, ⟨wS, wH, wL, wD, wW, wT, wB⟩, hm, ⟨xS, xH, xL, xD, xW, xT⟩, he, ht, ha, hi0, hi1, hd, hr⟩ := hI
  refine b_x_forget_0 (h := ?_) ..
  refine k_mid (b_m_forget_0 (h := ?_) ..)
  have en : ∀ i, ¬ i = 57 → va_up κ 57 0 i = κ i := fun i h => va_ne h
  refine k_fin0 ((hm.1 57 (by decide)).trans xD.1.symm) ⟨va_up κ 57 0, ⟨wS.cg fun i hi => en i (by omega), wH.cg fun i hi => en i (by omega), wL.cg fun i hi => en i (by omega), ⟨?_, fun i hi => ?_⟩, wW.cg fun i hi => en i (by omega), wT.cg fun i hi => en i (by omega), wB.up (by omega)⟩, hm.up 0 (by decide),
    ⟨xS.cg wS.1 fun i hi => en i (by omega), xH.cg wH.1 fun i hi => en i (by omega), xL.cg wL.1 fun i hi => en i (by omega), ⟨rfl, fun i hi => ?_⟩, xW.cg fun i hi => en i (by omega), xT.cg fun i hi => en i (by omega)⟩, he, ht, ha.cg fun i hi => en i (by omega), hi0, hi1, hd, hr⟩
  · rw [va_s]; omega
  · rw [en _ (by omega)]; exact wD.2 i hi
  · rw [va_s] at hi; omega
theorem o_force : k_op15 k_Inv := by
  intro a0 X f fl g gl hh v tx hI
  have hI' := hI
  obtain ⟨κ, ⟨wS, wH, wL, wD, wW, wT, wB⟩, hm, ⟨xS, xH, xL, xD, xW, xT⟩, he, ht, ha, hi0, hi1, hd, hr⟩ := hI
  obtain ⟨z, hz, rfl⟩ := z_ex a0
  have b58 := wW.1
  have e58 := hm.1 58 (by decide)
  refine b_x_force_0 (h := ?_) ..
  simp (disch := omega) only [z_lit, z_litl, z_neg, z_negl, z_add, z_sub, z_mul, z_addl, z_subl, z_mull, z_cc, z_cl, z_cr, z_cm, z_cml, z_cmr, z_lt, z_le, z_eq, z_ltl, z_lel, z_eql, z_nat, z_i2l, z_l2i, z_div, z_sh, Int.toNat_natCast, z_ts, z_tsl, xW.1, xW.2.1]
  refine ⟨fun c => ?_, fun c => ⟨fun c2 => ?_, fun c2 => ?_⟩⟩
  · refine k_mid (b_m_force_0 (h := ?_) ..)
    simp (disch := omega) only [z_lit, z_litl, z_neg, z_negl, z_add, z_sub, z_mul, z_addl, z_subl, z_mull, z_cc, z_cl, z_cr, z_cm, z_cml, z_cmr, z_lt, z_le, z_eq, z_ltl, z_lel, z_eql, z_nat, z_i2l, z_l2i, z_div, z_sh, Int.toNat_natCast, z_ts, z_tsl, va_ne, e58]
    exact ⟨fun c3 => by omega, fun _ => k_fin0 rfl (hI'.rf (iI (-2)) 2 (by decide))⟩
  · refine k_mid (b_m_force_0 (h := ?_) ..)
    simp (disch := omega) only [z_lit, z_litl, z_neg, z_negl, z_add, z_sub, z_mul, z_addl, z_subl, z_mull, z_cc, z_cl, z_cr, z_cm, z_cml, z_cmr, z_lt, z_le, z_eq, z_ltl, z_lel, z_eql, z_nat, z_i2l, z_l2i, z_div, z_sh, Int.toNat_natCast, z_ts, z_tsl, va_ne, e58]
    refine ⟨fun _ => ?_, fun c3 => by omega⟩
    have en : ∀ i, ¬ i = 59 → va_up κ 59 (z + 1).toNat i = κ i := fun i h => va_ne h
    have hzn : z = (((z + 1).toNat : Nat) : Int) - 1 := by omega
    refine k_fin0 hm.2 ⟨va_up κ 59 (z + 1).toNat, ⟨wS.cg fun i hi => en i (by omega), wH.cg fun i hi => en i (by omega), wL.cg fun i hi => en i (by omega), wD.cg fun i hi => en i (by omega), ⟨?_, ?_⟩, wT.cg fun i hi => en i (by omega), wB.up (by omega)⟩, hm.upF _ hzn,
      ⟨xS.cg wS.1 fun i hi => en i (by omega), xH.cg wH.1 fun i hi => en i (by omega), xL.cg wL.1 fun i hi => en i (by omega), xD.cg wD.1 fun i hi => en i (by omega), ⟨?_, ?_, fun t ht => ?_⟩, xT.cg fun i hi => en i (by omega)⟩, ⟨he.1, he.2.1, he.2.2.1, rfl, he.2.2.2.2⟩, ht, ha.cg fun i hi => en i (by omega), hi0, hi1, hd, hr⟩
    · rw [en _ (by decide)]; exact b58
    · rw [en 58 (by decide), va_s]; omega
    · rw [en _ (by decide)]; exact xW.1
    · rw [va_s]
      show iI z = _
      rw [← hzn]
    · rw [en _ (by decide)] at ht
      exact (xW.2.2 t ht).cg (en _ (by omega)) fun k _ => ⟨en _ (by omega), en _ (by omega)⟩
  · refine k_mid (b_m_force_0 (h := ?_) ..)
    simp (disch := omega) only [z_lit, z_litl, z_neg, z_negl, z_add, z_sub, z_mul, z_addl, z_subl, z_mull, z_cc, z_cl, z_cr, z_cm, z_cml, z_cmr, z_lt, z_le, z_eq, z_ltl, z_lel, z_eql, z_nat, z_i2l, z_l2i, z_div, z_sh, Int.toNat_natCast, z_ts, z_tsl, va_ne, e58]
    exact ⟨fun c3 => by omega, fun _ => k_fin0 rfl (hI'.rf (iI (-2)) 2 (by decide))⟩
theorem spot_c {κ : Nat → Nat} {p : Nat} (h : κ (13 + p) ≤ 24 ∧ κ (16 + p) ≤ 3 ∧ κ (19 + p) ≤ 9) : spot κ p / 40 = κ (13 + p) ∧ spot κ p / 10 % 4 = κ (16 + p) ∧ spot κ p % 10 = κ (19 + p) ∧ spot κ p < 1000 := by
  unfold spot
  omega
theorem o_of : k_op3 k_Inv := by
  intro a0 a1 X f fl g gl hh v tx hI
  have hI' := hI
  obtain ⟨κ, ⟨wS, wH, wL, wD, wW, wT, wB⟩, hm, ⟨xS, xH, xL, xD, xW, xT⟩, he, ht, ha, hi0, hi1, hd, hr⟩ := hI
  obtain ⟨z, hz, rfl⟩ := z_ex a0
  obtain ⟨y, hy, rfl⟩ := z_ex a1
  have b56 := wH.1
  have e56 := hm.1 56 (by decide)
  refine b_x_of_0 (h := ?_) ..
  simp (disch := omega) only [z_lit, z_litl, z_neg, z_negl, z_add, z_sub, z_mul, z_addl, z_subl, z_mull, z_cc, z_cl, z_cr, z_cm, z_cml, z_cmr, z_lt, z_le, z_eq, z_ltl, z_lel, z_eql, z_nat, z_i2l, z_l2i, z_div, z_sh, Int.toNat_natCast, z_ts, z_tsl, xH.1]
  refine ⟨fun c => ?_, fun c => ?_⟩
  · obtain ⟨p, rfl⟩ : ∃ p : Nat, z = p := ⟨z.toNat, by omega⟩
    have hp : p < κ 56 := by omega
    have w := wH.2 p (by omega)
    obtain ⟨s1, s2, s3, s4⟩ := spot_c w
    have e1 := hm.1 (13 + p) (by omega)
    have e2 := hm.1 (16 + p) (by omega)
    have e3 := hm.1 (19 + p) (by omega)
    simp (disch := omega) only [z_lit, z_litl, z_neg, z_negl, z_add, z_sub, z_mul, z_addl, z_subl, z_mull, z_cc, z_cl, z_cr, z_cm, z_cml, z_cmr, z_lt, z_le, z_eq, z_ltl, z_lel, z_eql, z_nat, z_i2l, z_l2i, z_div, z_sh, Int.toNat_natCast, z_ts, z_tsl, xH.2 p hp]
    refine ⟨by omega, fun c2 => ?_, fun c2 => ⟨fun c3 => ?_, fun c3 => ⟨fun c4 => ?_, fun c4 => ?_⟩⟩⟩
    all_goals refine k_mid (b_m_of_0 (h := ?_) ..)
    all_goals simp (disch := omega) only [z_lit, z_litl, z_neg, z_negl, z_add, z_sub, z_mul, z_addl, z_subl, z_mull, z_cc, z_cl, z_cr, z_cm, z_cml, z_cmr, z_lt, z_le, z_eq, z_ltl, z_lel, z_eql, z_nat, z_i2l, z_l2i, z_div, z_sh, Int.toNat_natCast, z_ts, z_tsl, e56, e1, e2, e3]
    all_goals repeat (first | refine ⟨fun c9 => by omega, fun _ => ?_⟩ | refine ⟨fun _ => ?_, fun c9 => by omega⟩ | refine ⟨by omega, ?_⟩ | refine ⟨fun c9 => absurd trivial c9, fun _ => ?_⟩ | refine ⟨fun _ => ?_, fun c9 => absurd trivial c9⟩)
    · refine k_fin0 ?_ hI'; rw [← s1]; rfl
    · refine k_fin0 ?_ hI'; rw [← s2]; congr 1; omega
    · refine k_fin0 ?_ hI'; rw [← s3]; congr 1; omega
    · exact k_fin0 rfl hI'
  · refine k_mid (b_m_of_0 (h := ?_) ..)
    simp (disch := omega) only [z_lit, z_litl, z_neg, z_negl, z_add, z_sub, z_mul, z_addl, z_subl, z_mull, z_cc, z_cl, z_cr, z_cm, z_cml, z_cmr, z_lt, z_le, z_eq, z_ltl, z_lel, z_eql, z_nat, z_i2l, z_l2i, z_div, z_sh, Int.toNat_natCast, z_ts, z_tsl, e56]
    exact ⟨fun c3 => by omega, fun _ => k_fin0 rfl hI'⟩
theorem o_line : k_op5 k_Inv := by
  intro a0 X f fl g gl hh v tx hI
  have hI' := hI
  obtain ⟨κ, ⟨wS, wH, wL, wD, wW, wT, wB⟩, hm, ⟨xS, xH, xL, xD, xW, xT⟩, he, ht, ha, hi0, hi1, hd, hr⟩ := hI
  obtain ⟨z, hz, rfl⟩ := z_ex a0
  have b12 := wL.1
  have e12 := hm.1 12 (by decide)
  refine b_x_line_0 (h := ?_) ..
  rw [xL.1, xL.2]
  refine ⟨fun c => ?_, fun c => ?_⟩
  · simp (disch := omega) only [z_lit, z_litl, z_neg, z_negl, z_add, z_sub, z_mul, z_addl, z_subl, z_mull, z_cc, z_cl, z_cr, z_cm, z_cml, z_cmr, z_lt, z_le, z_eq, z_ltl, z_lel, z_eql, z_nat, z_i2l, z_l2i, z_div, z_sh, Int.toNat_natCast, z_ts, z_tsl] at c
    obtain ⟨k, rfl⟩ : ∃ k : Nat, z = k := ⟨z.toNat, by omega⟩
    have hk : k < κ 12 := by omega
    have ek := hm.1 k (by omega)
    refine k_mid (b_m_line_0 (h := ?_) ..)
    simp (disch := omega) only [z_lit, z_litl, z_neg, z_negl, z_add, z_sub, z_mul, z_addl, z_subl, z_mull, z_cc, z_cl, z_cr, z_cm, z_cml, z_cmr, z_lt, z_le, z_eq, z_ltl, z_lel, z_eql, z_nat, z_i2l, z_l2i, z_div, z_sh, Int.toNat_natCast, z_ts, z_tsl, e12, Nat.zero_add, ek]
    refine ⟨fun _ => ⟨by omega, ?_⟩, fun c3 => by omega⟩
    refine k_fin0 ?_ hI'
    obtain ⟨b, hb⟩ : ∃ b : Nat, κ 12 = k + 1 + b := ⟨κ 12 - (k + 1), by omega⟩
    have hl : ∀ i, i < κ 12 → κ i ≤ 3 := fun i hi => wL.2 i (by omega)
    have hc := codF_lt (c := κ) (n := κ 12) hl
    have hc2 : (4 : Nat) ^ κ 12 ≤ 4 ^ 12 := Nat.pow_le_pow_right (by decide) b12
    have h3 : codF κ (κ 12) / 4 ^ b = codF κ (k + 1) := by
      have := codF_div (c := κ) (k + 1) b fun i hi => hl i (by omega)
      rw [hb]
      exact this
    have h4 : iI (codF κ (κ 12)) >>> iI ((2 : Int) * (b : Int)) = iI (codF κ (k + 1)) := by
      rw [z_shr (by omega) (by omega), show ((2 : Int) * (b : Int)).toNat = 2 * b by omega, pow2i, ← h3, Int.natCast_ediv]
    have hlt := codF_lt (c := κ) (n := k + 1) fun i hi => hl i (by omega)
    have hlt2 : (4 : Nat) ^ (k + 1) ≤ 4 ^ 12 := Nat.pow_le_pow_right (by decide) (by omega)
    have hk3 := hl k hk
    rw [show (2 : Int) * ((κ 12 : Int) - 1 - (k : Int)) = 2 * (b : Int) by omega, h4, z_and (by omega) (by omega)]
    congr 2
    rw [Int.toNat_natCast, codF]
    show κ k = (4 * codF κ k + κ k) &&& 3
    rw [show (3 : Nat) = 2 ^ 2 - 1 from rfl, Nat.and_two_pow_sub_one_eq_mod]
    omega
  · simp (disch := omega) only [z_lit, z_litl, z_neg, z_negl, z_add, z_sub, z_mul, z_addl, z_subl, z_mull, z_cc, z_cl, z_cr, z_cm, z_cml, z_cmr, z_lt, z_le, z_eq, z_ltl, z_lel, z_eql, z_nat, z_i2l, z_l2i, z_div, z_sh, Int.toNat_natCast, z_ts, z_tsl] at c
    refine k_mid (b_m_line_0 (h := ?_) ..)
    simp (disch := omega) only [z_lit, z_litl, z_neg, z_negl, z_add, z_sub, z_mul, z_addl, z_subl, z_mull, z_cc, z_cl, z_cr, z_cm, z_cml, z_cmr, z_lt, z_le, z_eq, z_ltl, z_lel, z_eql, z_nat, z_i2l, z_l2i, z_div, z_sh, Int.toNat_natCast, z_ts, z_tsl, e12]
    exact ⟨fun c3 => by omega, fun _ => k_fin0 rfl hI'⟩
theorem o_count : k_op39 k_Inv := by
  intro a0 X f fl g gl hh v tx hI
  have hI' := hI
  obtain ⟨κ, ⟨wS, wH, wL, wD, wW, wT, wB⟩, hm, ⟨xS, xH, xL, xD, xW, xT⟩, he, ht, ha, hi0, hi1, hd, hr⟩ := hI
  obtain ⟨z, hz, rfl⟩ := z_ex a0
  obtain ⟨n6, b6, t1, t2, t3, t4⟩ := ht
  obtain ⟨na, ca, Ra, a1, a2, a3, a4⟩ := ha
  have q := he.2.2.2.2
  refine b_x_count_0 (h := ?_) ..
  simp (disch := omega) only [z_lit, z_litl, z_neg, z_negl, z_add, z_sub, z_mul, z_addl, z_subl, z_mull, z_cc, z_cl, z_cr, z_cm, z_cml, z_cmr, z_lt, z_le, z_eq, z_ltl, z_lel, z_eql, z_nat, z_i2l, z_l2i, z_div, z_sh, Int.toNat_natCast, z_ts, z_tsl]
  refine ⟨fun c => ?_, fun c0 => ⟨fun c => ?_, fun c1 => ⟨fun c => ?_, fun c2 => ⟨fun c => ?_, fun c3 => ⟨fun c => ?_, fun c4 => ⟨fun c => ?_, fun c5 => ⟨fun c => ?_, fun c6 => ⟨fun c => ?_, fun c7 => ⟨fun c => ?_, fun c8 => ⟨fun c => ?_, fun cc9 => ⟨fun c => ?_, fun c10 => ⟨fun c => ?_, fun c11 => ⟨fun c => ?_, fun c12 => ⟨fun c => ?_, fun c13 => ⟨fun c => ?_, fun c14 => ⟨fun c => ?_, fun c15 => ?_⟩⟩⟩⟩⟩⟩⟩⟩⟩⟩⟩⟩⟩⟩⟩⟩
  all_goals refine k_mid (b_m_count_0 (h := ?_) ..)
  all_goals simp (disch := omega) only [z_lit, z_litl, z_neg, z_negl, z_add, z_sub, z_mul, z_addl, z_subl, z_mull, z_cc, z_cl, z_cr, z_cm, z_cml, z_cmr, z_lt, z_le, z_eq, z_ltl, z_lel, z_eql, z_nat, z_i2l, z_l2i, z_div, z_sh, Int.toNat_natCast, z_ts, z_tsl]
  all_goals repeat (first | refine ⟨fun c9 => by omega, fun _ => ?_⟩ | refine ⟨fun _ => ?_, fun c9 => by omega⟩ | refine ⟨by omega, ?_⟩ | refine ⟨fun c9 => absurd trivial c9, fun _ => ?_⟩ | refine ⟨fun _ => ?_, fun c9 => absurd trivial c9⟩)
  · exact k_fin0 ((hm.1 55 (by decide)).trans xS.1.symm) hI'
  · exact k_fin0 ((hm.1 56 (by decide)).trans xH.1.symm) hI'
  · exact k_fin0 ((hm.1 12 (by decide)).trans xL.1.symm) hI'
  · exact k_fin0 ((hm.1 57 (by decide)).trans xD.1.symm) hI'
  · exact k_fin0 ((hm.1 58 (by decide)).trans xW.1.symm) hI'
  · exact k_fin0 (a3.trans a2.symm) hI'
  · exact k_fin0 (t3.trans t2.symm) hI'
  · exact k_fin0 (by rw [show (z - 6).toNat = 1 by omega]; exact (q 1 (by decide)).symm) hI'
  · exact k_fin0 (by rw [show (z - 6).toNat = 2 by omega]; exact (q 2 (by decide)).symm) hI'
  · exact k_fin0 (by rw [show (z - 6).toNat = 3 by omega]; exact (q 3 (by decide)).symm) hI'
  · exact k_fin0 (q 5 (by decide)).symm hI'
  · exact k_fin0 (q 6 (by decide)).symm hI'
  · exact k_fin0 (hm.2.trans xW.2.1.symm) hI'
  · exact k_fin0 ((hm.1 22 (by decide)).trans xT.1.symm) hI'
  · exact k_fin0 ((hm.1 53 (by decide)).trans xT.2.1.symm) hI'
  · exact k_fin0 ((hm.1 54 (by decide)).trans xT.2.2.symm) hI'
  · exact k_fin0 rfl hI'
theorem o_drawn : k_op36 k_Inv := by
  intro a0 a1 X f fl g gl hh v tx hI
  have hI' := hI
  obtain ⟨κ, ⟨wS, wH, wL, wD, wW, wT, wB⟩, hm, ⟨xS, xH, xL, xD, xW, xT⟩, he, ht, ha, hi0, hi1, hd, hr⟩ := hI
  obtain ⟨z, hz, rfl⟩ := z_ex a0
  obtain ⟨y, hy, rfl⟩ := z_ex a1
  refine b_x_drawn_0 (h := ?_) ..
  rcases hd.1 with ⟨d1, d2⟩ | ⟨m, μ, d1, d2, d3, d4⟩
  · simp (disch := omega) only [z_lit, z_litl, z_neg, z_negl, z_add, z_sub, z_mul, z_addl, z_subl, z_mull, z_cc, z_cl, z_cr, z_cm, z_cml, z_cmr, z_lt, z_le, z_eq, z_ltl, z_lel, z_eql, z_nat, z_i2l, z_l2i, z_div, z_sh, Int.toNat_natCast, z_ts, z_tsl, d1]
    refine ⟨fun c => by omega, fun c => ?_⟩
    refine k_mid (b_m_drawn_0 (h := ?_) ..)
    simp (disch := omega) only [z_lit, z_litl, z_neg, z_negl, z_add, z_sub, z_mul, z_addl, z_subl, z_mull, z_cc, z_cl, z_cr, z_cm, z_cml, z_cmr, z_lt, z_le, z_eq, z_ltl, z_lel, z_eql, z_nat, z_i2l, z_l2i, z_div, z_sh, Int.toNat_natCast, z_ts, z_tsl, d2]
    exact ⟨fun c3 => by omega, fun _ => k_fin0 rfl hI'⟩
  · simp (disch := omega) only [z_lit, z_litl, z_neg, z_negl, z_add, z_sub, z_mul, z_addl, z_subl, z_mull, z_cc, z_cl, z_cr, z_cm, z_cml, z_cmr, z_lt, z_le, z_eq, z_ltl, z_lel, z_eql, z_nat, z_i2l, z_l2i, z_div, z_sh, Int.toNat_natCast, z_ts, z_tsl, d2]
    refine ⟨fun c => ?_, fun c => ?_⟩
    · obtain ⟨p, rfl⟩ : ∃ p : Nat, z = p := ⟨z.toNat, by omega⟩
      obtain ⟨w1, w2, w3, g1, g2, g3, g4⟩ := d4 p (by omega)
      obtain ⟨s1, s2, s3, s4⟩ := spot_c ⟨w1, w2, w3⟩
      simp (disch := omega) only [z_lit, z_litl, z_neg, z_negl, z_add, z_sub, z_mul, z_addl, z_subl, z_mull, z_cc, z_cl, z_cr, z_cm, z_cml, z_cmr, z_lt, z_le, z_eq, z_ltl, z_lel, z_eql, z_nat, z_i2l, z_l2i, z_div, z_sh, Int.toNat_natCast, z_ts, z_tsl, g1]
      refine ⟨by omega, fun c2 => ?_, fun c2 => ⟨fun c3 => ?_, fun c3 => ⟨fun c4 => ?_, fun c4 => ?_⟩⟩⟩
      all_goals refine k_mid (b_m_drawn_0 (h := ?_) ..)
      all_goals simp (disch := omega) only [z_lit, z_litl, z_neg, z_negl, z_add, z_sub, z_mul, z_addl, z_subl, z_mull, z_cc, z_cl, z_cr, z_cm, z_cml, z_cmr, z_lt, z_le, z_eq, z_ltl, z_lel, z_eql, z_nat, z_i2l, z_l2i, z_div, z_sh, Int.toNat_natCast, z_ts, z_tsl, d3, g2, g3, g4]
      all_goals repeat (first | refine ⟨fun c9 => by omega, fun _ => ?_⟩ | refine ⟨fun _ => ?_, fun c9 => by omega⟩ | refine ⟨by omega, ?_⟩ | refine ⟨fun c9 => absurd trivial c9, fun _ => ?_⟩ | refine ⟨fun _ => ?_, fun c9 => absurd trivial c9⟩)
      · refine k_fin0 ?_ hI'; rw [← s1]; rfl
      · refine k_fin0 ?_ hI'; rw [← s2]; congr 1; omega
      · refine k_fin0 ?_ hI'; rw [← s3]; congr 1; omega
      · exact k_fin0 rfl hI'
    · refine k_mid (b_m_drawn_0 (h := ?_) ..)
      simp (disch := omega) only [z_lit, z_litl, z_neg, z_negl, z_add, z_sub, z_mul, z_addl, z_subl, z_mull, z_cc, z_cl, z_cr, z_cm, z_cml, z_cmr, z_lt, z_le, z_eq, z_ltl, z_lel, z_eql, z_nat, z_i2l, z_l2i, z_div, z_sh, Int.toNat_natCast, z_ts, z_tsl, d3]
      exact ⟨fun c3 => by omega, fun _ => k_fin0 rfl hI'⟩
