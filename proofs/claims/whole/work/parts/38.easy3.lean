/-! operations: ship, terms, end, rows -/
theorem o_ship : k_op2 k_Inv := by
  intro a0 a1 a2 X f fl g gl hh v tx hI
  have hI' := hI
  obtain ⟨κ, ⟨wS, wH, wL, wD, wW, wT, wB⟩, hm, ⟨xS, xH, xL, xD, xW, xT⟩, he, ht, ha, hi0, hi1, hd, hr⟩ := hI
  obtain ⟨z, hz, rfl⟩ := z_ex a0
  obtain ⟨y, hy, rfl⟩ := z_ex a1
  obtain ⟨x, hx, rfl⟩ := z_ex a2
  have b56 := wH.1
  have e56 := hm.1 56 (by decide)
  refine b_x_ship_0 (h := ?_) ..
  simp (disch := omega) only [z_lit, z_litl, z_neg, z_negl, z_add, z_sub, z_mul, z_addl, z_subl, z_mull, z_cc, z_cl, z_cr, z_cm, z_cml, z_cmr, z_lt, z_le, z_eq, z_ltl, z_lel, z_eql, z_nat, z_i2l, z_l2i, z_div, z_sh, Int.toNat_natCast, z_ts, z_tsl, xH.1]
  refine ⟨fun c => ⟨fun c2 => ⟨fun c3 => ⟨fun c4 => ⟨by omega, ?_⟩, fun c4 => ?_⟩, fun c3 => ?_⟩, fun c2 => ?_⟩, fun c => ?_⟩
  all_goals refine k_mid (b_m_ship_0 (h := ?_) ..)
  · obtain ⟨z, rfl⟩ : ∃ q : Nat, z = q := ⟨z.toNat, by omega⟩
    obtain ⟨y, rfl⟩ : ∃ q : Nat, y = q := ⟨y.toNat, by omega⟩
    obtain ⟨x, rfl⟩ : ∃ q : Nat, x = q := ⟨x.toNat, by omega⟩
    simp (disch := omega) only [z_lit, z_litl, z_neg, z_negl, z_add, z_sub, z_mul, z_addl, z_subl, z_mull, z_cc, z_cl, z_cr, z_cm, z_cml, z_cmr, z_lt, z_le, z_eq, z_ltl, z_lel, z_eql, z_nat, z_i2l, z_l2i, z_div, z_sh, Int.toNat_natCast, z_ts, z_tsl, va_ne, va_s, va_tw, e56, upd_ne]
    repeat (first | refine ⟨fun c9 => by omega, fun _ => ?_⟩ | refine ⟨fun _ => ?_, fun c9 => by omega⟩ | refine ⟨by omega, ?_⟩ | refine ⟨fun c9 => absurd trivial c9, fun _ => ?_⟩ | refine ⟨fun _ => ?_, fun c9 => absurd trivial c9⟩)
    have hk := (((hm.up z (i := 13 + κ 56) (by omega)).up y (i := 16 + κ 56) (by omega)).up x (i := 19 + κ 56) (by omega)).up (κ 56 + 1) (i := 56) (by decide)
    have en : ∀ i, ¬ i = 56 → ¬ i = 13 + κ 56 → ¬ i = 16 + κ 56 → ¬ i = 19 + κ 56 → va_up (va_up (va_up (va_up κ (13 + κ 56) z) (16 + κ 56) y) (19 + κ 56) x) 56 (κ 56 + 1) i = κ i := fun i h1 h2 h3 h4 => by rw [va_ne h1, va_ne h4, va_ne h3, va_ne h2]
    have e1 : va_up (va_up (va_up (va_up κ (13 + κ 56) z) (16 + κ 56) y) (19 + κ 56) x) 56 (κ 56 + 1) (13 + κ 56) = z := by rw [va_ne (by omega), va_ne (by omega), va_ne (by omega), va_s]
    have e2 : va_up (va_up (va_up (va_up κ (13 + κ 56) z) (16 + κ 56) y) (19 + κ 56) x) 56 (κ 56 + 1) (16 + κ 56) = y := by rw [va_ne (by omega), va_ne (by omega), va_s]
    have e3 : va_up (va_up (va_up (va_up κ (13 + κ 56) z) (16 + κ 56) y) (19 + κ 56) x) 56 (κ 56 + 1) (19 + κ 56) = x := by rw [va_ne (by omega), va_s]
    refine k_fin0 (by show iI (κ 56) = iI ((κ 56 + 1 : Nat) - 1 : Int); congr 1; omega) ⟨va_up (va_up (va_up (va_up κ (13 + κ 56) z) (16 + κ 56) y) (19 + κ 56) x) 56 (κ 56 + 1), ⟨wS.cg fun i hi => en i (by omega) (by omega) (by omega) (by omega), ⟨?_, fun p hp => ?_⟩, wL.cg fun i hi => en i (by omega) (by omega) (by omega) (by omega), wD.cg fun i hi => en i (by omega) (by omega) (by omega) (by omega), wW.cg fun i hi => en i (by omega) (by omega) (by omega) (by omega), wT.cg fun i hi => en i (by omega) (by omega) (by omega) (by omega), (((wB.up (by omega)).up (by omega)).up (by omega)).up (by omega)⟩, hk,
      ⟨xS.cg wS.1 fun i hi => en i (by omega) (by omega) (by omega) (by omega), ⟨?_, fun p hp => ?_⟩, xL.cg wL.1 fun i hi => en i (by omega) (by omega) (by omega) (by omega), xD.cg wD.1 fun i hi => en i (by omega) (by omega) (by omega) (by omega), xW.cg fun i hi => en i (by omega) (by omega) (by omega) (by omega), xT.cg fun i hi => en i (by omega) (by omega) (by omega) (by omega)⟩, ⟨he.1, he.2.1, he.2.2.1, rfl, he.2.2.2.2⟩, ht, i_acts_nil, hi0, hi1, hd, hr⟩
    · rw [va_s]; omega
    · by_cases e : p = κ 56
      · rw [e, e1, e2, e3]; omega
      · rw [en _ (by omega) (by omega) (by omega) (by omega), en _ (by omega) (by omega) (by omega) (by omega), en _ (by omega) (by omega) (by omega) (by omega)]; exact wH.2 p hp
    · rw [va_s]; rfl
    · rw [va_s] at hp
      show upd (g 5) (κ 56) (iI (((z * 4 + y) * 10 + x : Nat) : Int)) p = _
      by_cases e : p = κ 56
      · rw [e, upd_s, spot, e1, e2, e3]
      · rw [upd_ne e, spot, en _ (by omega) (by omega) (by omega) (by omega), en _ (by omega) (by omega) (by omega) (by omega), en _ (by omega) (by omega) (by omega) (by omega)]; exact xH.2 p (by omega)
  all_goals simp (disch := omega) only [z_lit, z_litl, z_neg, z_negl, z_add, z_sub, z_mul, z_addl, z_subl, z_mull, z_cc, z_cl, z_cr, z_cm, z_cml, z_cmr, z_lt, z_le, z_eq, z_ltl, z_lel, z_eql, z_nat, z_i2l, z_l2i, z_div, z_sh, Int.toNat_natCast, z_ts, z_tsl, va_ne, va_s, e56]
  all_goals repeat (first | refine ⟨fun c9 => by omega, fun _ => ?_⟩ | refine ⟨fun _ => ?_, fun c9 => by omega⟩ | refine ⟨by omega, ?_⟩ | refine ⟨fun c9 => absurd trivial c9, fun _ => ?_⟩ | refine ⟨fun _ => ?_, fun c9 => absurd trivial c9⟩)
  · exact k_fin0 rfl (hI'.rf (iI (-5)) 5 (by decide))
  · exact k_fin0 rfl (hI'.rf (iI (-1)) 1 (by decide))
  · exact k_fin0 rfl (hI'.rf (iI (-1)) 1 (by decide))
  · exact k_fin0 rfl (hI'.rf (iI (-1)) 1 (by decide))
theorem t_fin {f : Nat → Int32} {fl : Nat → Int64} {g : Nat → Nat → Int32} {gl : Nat → Nat → Int64} {hh : Nat → Nat → Option Nat} {v : Nat → Value} {tx : mm_W} (hI : k_Inv f fl g gl hh v tx) {j s w : Nat} (hs : (j = 0 ∧ s = 22 ∧ w ≤ 999) ∨ (j = 1 ∧ s = 53 ∧ w ≤ 10) ∨ (j = 2 ∧ s = 54 ∧ w ≤ 9)) :
    k_Inv (va_up (va_up (va_up (va_up f 78 (iI 0)) 18 (iI 0)) 4777 (iI 0)) 4736 (iI 0)) fl (va_up (va_up g 8 (upd (g 8) j (iI w))) 76 (upd (g 76) s (iI w))) gl hh v tx := by
  obtain ⟨κ, ⟨wS, wH, wL, wD, wW, wT, wB⟩, hm, ⟨xS, xH, xL, xD, xW, xT⟩, he, ht, ha, hi0, hi1, hd, hr⟩ := hI
  have en : ∀ i, ¬ i = s → va_up κ s w i = κ i := fun i h => va_ne h
  refine ⟨va_up κ s w, ⟨wS.cg fun i hi => en i (by omega), wH.cg fun i hi => en i (by omega), wL.cg fun i hi => en i (by omega), wD.cg fun i hi => en i (by omega), wW.cg fun i hi => en i (by omega), ?_, wB.up (by omega)⟩, hm.up _ (by omega),
    ⟨xS.cg wS.1 fun i hi => en i (by omega), xH.cg wH.1 fun i hi => en i (by omega), xL.cg wL.1 fun i hi => en i (by omega), xD.cg wD.1 fun i hi => en i (by omega), xW.cg fun i hi => en i (by omega), ?_⟩, ⟨he.1, he.2.1, he.2.2.1, rfl, he.2.2.2.2⟩, ht, i_acts_nil, hi0, hi1, hd, hr⟩
  · rcases hs with ⟨h1, h2, h3⟩ | ⟨h1, h2, h3⟩ | ⟨h1, h2, h3⟩ <;> subst h2
    · exact ⟨by rw [va_s]; exact h3, by rw [va_ne (by decide)]; exact wT.2.1, by rw [va_ne (by decide)]; exact wT.2.2⟩
    · exact ⟨by rw [va_ne (by decide)]; exact wT.1, by rw [va_s]; exact h3, by rw [va_ne (by decide)]; exact wT.2.2⟩
    · exact ⟨by rw [va_ne (by decide)]; exact wT.1, by rw [va_ne (by decide)]; exact wT.2.1, by rw [va_s]; exact h3⟩
  · rcases hs with ⟨h1, h2, h3⟩ | ⟨h1, h2, h3⟩ | ⟨h1, h2, h3⟩ <;> subst h2 <;> subst h1
    · exact ⟨by rw [va_s]; rfl, by rw [va_ne (by decide)]; exact xT.2.1, by rw [va_ne (by decide)]; exact xT.2.2⟩
    · exact ⟨by rw [va_ne (by decide)]; exact xT.1, by rw [va_s]; rfl, by rw [va_ne (by decide)]; exact xT.2.2⟩
    · exact ⟨by rw [va_ne (by decide)]; exact xT.1, by rw [va_ne (by decide)]; exact xT.2.1, by rw [va_s]; rfl⟩
theorem o_terms : k_op6 k_Inv := by
  intro a0 a1 X f fl g gl hh v tx hI
  have hI' := hI
  obtain ⟨κ, ⟨wS, wH, wL, wD, wW, wT, wB⟩, hm, ⟨xS, xH, xL, xD, xW, xT⟩, he, ht, ha, hi0, hi1, hd, hr⟩ := hI
  obtain ⟨z, hz, rfl⟩ := z_ex a0
  obtain ⟨y, hy, rfl⟩ := z_ex a1
  have e22 := hm.1 22 (by decide)
  have e53 := hm.1 53 (by decide)
  have e54 := hm.1 54 (by decide)
  by_cases hin : 0 ≤ z ∧ z < 3
  · obtain ⟨j, rfl⟩ : ∃ q : Nat, z = q := ⟨z.toNat, by omega⟩
    obtain ⟨B, hB⟩ : ∃ B : Nat, B = if j = 0 then 999 else if j = 1 then 10 else 9 := ⟨_, rfl⟩
    obtain ⟨s, hs⟩ : ∃ s : Nat, s = if j = 0 then 22 else if j = 1 then 53 else 54 := ⟨_, rfl⟩
    have hj : j = 0 ∨ j = 1 ∨ j = 2 := by omega
    have hBB : B ≤ 999 := by rw [hB]; (repeat' split) <;> omega
    have g8 : g 8 j = iI (κ s) := by
      rcases hj with rfl | rfl | rfl <;> subst hs
      · exact xT.1
      · exact xT.2.1
      · exact xT.2.2
    have go : WP X 1999 64 (36, [some (.ref 0), some (.int (iI j)), some (.int (iI y)), none, none], [.int (iI B)], Wd f fl g gl hh v tx) (fun r1 w1 => ∃ (a : Int64) (f1 : Nat → Int32) (fl1 : Nat → Int64) (g1 : Nat → Nat → Int32) (gl1 : Nat → Nat → Int64) (hh1 : Nat → Nat → Option Nat) (v1 : Nat → Value) (tx1 : mm_W), r1 = some (k_mi a) ∧ w1 = Wd f1 fl1 g1 gl1 hh1 v1 tx1 ∧ WP X 1999 145 (0, [some (.ref 74), some (.int (iI j)), some (.int (iI y)), none], [], w1) (fun r2 w2 => r2 = some (k_mi a) ∧ ∃ (f2 : Nat → Int32) (fl2 : Nat → Int64) (g2 : Nat → Nat → Int32) (gl2 : Nat → Nat → Int64) (hh2 : Nat → Nat → Option Nat) (v2 : Nat → Value) (tx2 : mm_W), w2 = Wd f2 fl2 g2 gl2 hh2 v2 tx2 ∧ k_Inv f2 fl2 g2 gl2 hh2 v2 tx2 ∧ tx2.length ≤ tx.length + 3 ∧ mm_sl tx2 ≤ mm_sl tx + 464)) := by
      refine b_x_terms_36 (h := ?_) ..
      simp (disch := omega) only [z_lit, z_litl, z_neg, z_negl, z_add, z_sub, z_mul, z_addl, z_subl, z_mull, z_cc, z_cl, z_cr, z_cm, z_cml, z_cmr, z_lt, z_le, z_eq, z_ltl, z_lel, z_eql, z_nat, z_i2l, z_l2i, z_div, z_sh, Int.toNat_natCast, z_ts, z_tsl, g8]
      refine ⟨fun c => ?_, fun c => ⟨fun c2 => ⟨by omega, by omega, ?_⟩, fun c2 => ?_⟩⟩
      all_goals refine k_mid (b_m_terms_0 (h := ?_) ..)
      all_goals refine b_m_isTerm_0 (h := ?_) ..
      all_goals simp (disch := omega) only [z_lit, z_litl, z_neg, z_negl, z_add, z_sub, z_mul, z_addl, z_subl, z_mull, z_cc, z_cl, z_cr, z_cm, z_cml, z_cmr, z_lt, z_le, z_eq, z_ltl, z_lel, z_eql, z_nat, z_i2l, z_l2i, z_div, z_sh, Int.toNat_natCast, z_ts, z_tsl]
      · rcases hj with rfl | rfl | rfl
        all_goals repeat (first | refine ⟨fun c9 => by omega, fun _ => ?_⟩ | refine ⟨fun _ => ?_, fun c9 => by omega⟩ | refine ⟨by omega, ?_⟩ | refine ⟨fun c9 => absurd trivial c9, fun _ => ?_⟩ | refine ⟨fun _ => ?_, fun c9 => absurd trivial c9⟩)
        all_goals refine b_m_terms_5 (h := ?_) ..
        all_goals simp (disch := omega) only [z_lit, z_litl, z_neg, z_negl, z_add, z_sub, z_mul, z_addl, z_subl, z_mull, z_cc, z_cl, z_cr, z_cm, z_cml, z_cmr, z_lt, z_le, z_eq, z_ltl, z_lel, z_eql, z_nat, z_i2l, z_l2i, z_div, z_sh, Int.toNat_natCast, z_ts, z_tsl, va_ne]
        all_goals repeat (first | refine ⟨fun c9 => by omega, fun _ => ?_⟩ | refine ⟨fun _ => ?_, fun c9 => by omega⟩ | refine ⟨by omega, ?_⟩ | refine ⟨fun c9 => absurd trivial c9, fun _ => ?_⟩ | refine ⟨fun _ => ?_, fun c9 => absurd trivial c9⟩)
        all_goals exact k_fin0 rfl (hI'.rf (iI (-1)) 1 (by decide))
      · obtain ⟨y, rfl⟩ : ∃ q : Nat, y = q := ⟨y.toNat, by omega⟩
        rcases hj with rfl | rfl | rfl
        · simp at hB hs
          subst hB
          subst hs
          have q := t_fin hI' (j := 0) (s := 22) (w := y) (Or.inl ⟨rfl, rfl, by omega⟩)
          repeat (first | refine ⟨fun c9 => by omega, fun _ => ?_⟩ | refine ⟨fun _ => ?_, fun c9 => by omega⟩ | refine ⟨by omega, ?_⟩ | refine ⟨fun c9 => absurd trivial c9, fun _ => ?_⟩ | refine ⟨fun _ => ?_, fun c9 => absurd trivial c9⟩)
          refine b_m_terms_5 (h := ?_) ..
          simp (disch := omega) only [z_lit, z_litl, z_neg, z_negl, z_add, z_sub, z_mul, z_addl, z_subl, z_mull, z_cc, z_cl, z_cr, z_cm, z_cml, z_cmr, z_lt, z_le, z_eq, z_ltl, z_lel, z_eql, z_nat, z_i2l, z_l2i, z_div, z_sh, Int.toNat_natCast, z_ts, z_tsl, va_ne, e22]
          repeat (first | refine ⟨fun c9 => by omega, fun _ => ?_⟩ | refine ⟨fun _ => ?_, fun c9 => by omega⟩ | refine ⟨by omega, ?_⟩ | refine ⟨fun c9 => absurd trivial c9, fun _ => ?_⟩ | refine ⟨fun _ => ?_, fun c9 => absurd trivial c9⟩)
          exact k_fin0 rfl q
        · simp at hB hs
          subst hB
          subst hs
          have q := t_fin hI' (j := 1) (s := 53) (w := y) (Or.inr (Or.inl ⟨rfl, rfl, by omega⟩))
          repeat (first | refine ⟨fun c9 => by omega, fun _ => ?_⟩ | refine ⟨fun _ => ?_, fun c9 => by omega⟩ | refine ⟨by omega, ?_⟩ | refine ⟨fun c9 => absurd trivial c9, fun _ => ?_⟩ | refine ⟨fun _ => ?_, fun c9 => absurd trivial c9⟩)
          refine b_m_terms_5 (h := ?_) ..
          simp (disch := omega) only [z_lit, z_litl, z_neg, z_negl, z_add, z_sub, z_mul, z_addl, z_subl, z_mull, z_cc, z_cl, z_cr, z_cm, z_cml, z_cmr, z_lt, z_le, z_eq, z_ltl, z_lel, z_eql, z_nat, z_i2l, z_l2i, z_div, z_sh, Int.toNat_natCast, z_ts, z_tsl, va_ne, e53]
          repeat (first | refine ⟨fun c9 => by omega, fun _ => ?_⟩ | refine ⟨fun _ => ?_, fun c9 => by omega⟩ | refine ⟨by omega, ?_⟩ | refine ⟨fun c9 => absurd trivial c9, fun _ => ?_⟩ | refine ⟨fun _ => ?_, fun c9 => absurd trivial c9⟩)
          exact k_fin0 rfl q
        · simp at hB hs
          subst hB
          subst hs
          have q := t_fin hI' (j := 2) (s := 54) (w := y) (Or.inr (Or.inr ⟨rfl, rfl, by omega⟩))
          repeat (first | refine ⟨fun c9 => by omega, fun _ => ?_⟩ | refine ⟨fun _ => ?_, fun c9 => by omega⟩ | refine ⟨by omega, ?_⟩ | refine ⟨fun c9 => absurd trivial c9, fun _ => ?_⟩ | refine ⟨fun _ => ?_, fun c9 => absurd trivial c9⟩)
          refine b_m_terms_5 (h := ?_) ..
          simp (disch := omega) only [z_lit, z_litl, z_neg, z_negl, z_add, z_sub, z_mul, z_addl, z_subl, z_mull, z_cc, z_cl, z_cr, z_cm, z_cml, z_cmr, z_lt, z_le, z_eq, z_ltl, z_lel, z_eql, z_nat, z_i2l, z_l2i, z_div, z_sh, Int.toNat_natCast, z_ts, z_tsl, va_ne, e54]
          repeat (first | refine ⟨fun c9 => by omega, fun _ => ?_⟩ | refine ⟨fun _ => ?_, fun c9 => by omega⟩ | refine ⟨by omega, ?_⟩ | refine ⟨fun c9 => absurd trivial c9, fun _ => ?_⟩ | refine ⟨fun _ => ?_, fun c9 => absurd trivial c9⟩)
          exact k_fin0 rfl q
      · rcases hj with rfl | rfl | rfl <;> simp at hB <;> subst hB
        all_goals repeat (first | refine ⟨fun c9 => by omega, fun _ => ?_⟩ | refine ⟨fun _ => ?_, fun c9 => by omega⟩ | refine ⟨by omega, ?_⟩ | refine ⟨fun c9 => absurd trivial c9, fun _ => ?_⟩ | refine ⟨fun _ => ?_, fun c9 => absurd trivial c9⟩)
        all_goals refine b_m_terms_5 (h := ?_) ..
        all_goals simp (disch := omega) only [z_lit, z_litl, z_neg, z_negl, z_add, z_sub, z_mul, z_addl, z_subl, z_mull, z_cc, z_cl, z_cr, z_cm, z_cml, z_cmr, z_lt, z_le, z_eq, z_ltl, z_lel, z_eql, z_nat, z_i2l, z_l2i, z_div, z_sh, Int.toNat_natCast, z_ts, z_tsl, va_ne]
        all_goals repeat (first | refine ⟨fun c9 => by omega, fun _ => ?_⟩ | refine ⟨fun _ => ?_, fun c9 => by omega⟩ | refine ⟨by omega, ?_⟩ | refine ⟨fun c9 => absurd trivial c9, fun _ => ?_⟩ | refine ⟨fun _ => ?_, fun c9 => absurd trivial c9⟩)
        all_goals exact k_fin0 rfl (hI'.rf (iI (-1)) 1 (by decide))
    refine b_x_terms_0 (h := ?_) ..
    simp (disch := omega) only [z_lit, z_litl, z_neg, z_negl, z_add, z_sub, z_mul, z_addl, z_subl, z_mull, z_cc, z_cl, z_cr, z_cm, z_cml, z_cmr, z_lt, z_le, z_eq, z_ltl, z_lel, z_eql, z_nat, z_i2l, z_l2i, z_div, z_sh, Int.toNat_natCast, z_ts, z_tsl]
    refine ⟨fun _ => ⟨fun c => ⟨fun c2 => ?_, fun c2 => ?_⟩, fun c => ?_⟩, fun c => by omega⟩
    · rw [hB, if_neg (by omega), if_neg (by omega)] at go; exact go
    · rw [hB, if_neg (by omega), if_pos (by omega)] at go; exact go
    · rw [hB, if_pos (by omega)] at go; exact go
  · refine b_x_terms_0 (h := ?_) ..
    simp (disch := omega) only [z_lit, z_litl, z_neg, z_negl, z_add, z_sub, z_mul, z_addl, z_subl, z_mull, z_cc, z_cl, z_cr, z_cm, z_cml, z_cmr, z_lt, z_le, z_eq, z_ltl, z_lel, z_eql, z_nat, z_i2l, z_l2i, z_div, z_sh, Int.toNat_natCast, z_ts, z_tsl]
    repeat (first | refine ⟨fun c9 => by omega, fun _ => ?_⟩ | refine ⟨fun _ => ?_, fun c9 => by omega⟩ | refine ⟨by omega, ?_⟩ | refine ⟨fun c9 => absurd trivial c9, fun _ => ?_⟩ | refine ⟨fun _ => ?_, fun c9 => absurd trivial c9⟩)
    refine k_mid (b_m_terms_0 (h := ?_) ..)
    refine b_m_isTerm_0 (h := ?_) ..
    simp (disch := omega) only [z_lit, z_litl, z_neg, z_negl, z_add, z_sub, z_mul, z_addl, z_subl, z_mull, z_cc, z_cl, z_cr, z_cm, z_cml, z_cmr, z_lt, z_le, z_eq, z_ltl, z_lel, z_eql, z_nat, z_i2l, z_l2i, z_div, z_sh, Int.toNat_natCast, z_ts, z_tsl]
    repeat (first | refine ⟨fun c9 => by omega, fun _ => ?_⟩ | refine ⟨fun _ => ?_, fun c9 => by omega⟩ | refine ⟨by omega, ?_⟩ | refine ⟨fun c9 => absurd trivial c9, fun _ => ?_⟩ | refine ⟨fun _ => ?_, fun c9 => absurd trivial c9⟩)
    refine b_m_terms_5 (h := ?_) ..
    simp (disch := omega) only [z_lit, z_litl, z_neg, z_negl, z_add, z_sub, z_mul, z_addl, z_subl, z_mull, z_cc, z_cl, z_cr, z_cm, z_cml, z_cmr, z_lt, z_le, z_eq, z_ltl, z_lel, z_eql, z_nat, z_i2l, z_l2i, z_div, z_sh, Int.toNat_natCast, z_ts, z_tsl, va_ne]
    repeat (first | refine ⟨fun c9 => by omega, fun _ => ?_⟩ | refine ⟨fun _ => ?_, fun c9 => by omega⟩ | refine ⟨by omega, ?_⟩ | refine ⟨fun c9 => absurd trivial c9, fun _ => ?_⟩ | refine ⟨fun _ => ?_, fun c9 => absurd trivial c9⟩)
    exact k_fin0 rfl (hI'.rf (iI (-1)) 1 (by decide))
theorem o_end : k_op8 k_Inv := by
  refine k_end (fun f fl g gl hh v tx h => ?_) (fun f fl g gl hh v tx x h h1 h2 => ?_)
  · obtain ⟨κ, ⟨wS, wH, wL, wD, wW, wT, wB⟩, hm, ⟨xS, xH, xL, xD, xW, xT⟩, he, ht, ha, hi0, hi1, hd, hr⟩ := h
    obtain ⟨n6, b6, t1, t2, t3, t4⟩ := ht
    exact t2.trans t3.symm
  · obtain ⟨κ, ⟨wS, wH, wL, wD, wW, wT, wB⟩, hm, ⟨xS, xH, xL, xD, xW, xT⟩, he, ht, ha, hi0, hi1, hd, hr⟩ := h
    obtain ⟨n6, b6, t1, t2, t3, t4⟩ := ht
    obtain ⟨z, hz, rfl⟩ := z_ex x
    rw [t2] at h2
    simp (disch := omega) only [z_lit, z_litl, z_neg, z_negl, z_add, z_sub, z_mul, z_addl, z_subl, z_mull, z_cc, z_cl, z_cr, z_cm, z_cml, z_cmr, z_lt, z_le, z_eq, z_ltl, z_lel, z_eql, z_nat, z_i2l, z_l2i, z_div, z_sh, Int.toNat_natCast, z_ts, z_tsl] at h1 h2
    obtain ⟨n, rfl⟩ : ∃ q : Nat, z = q := ⟨z.toNat, by omega⟩
    exact ⟨κ, ⟨wS, wH, wL, wD, wW, wT, wB⟩, hm, ⟨xS, xH, xL, xD, xW, xT⟩, he, ⟨n, b6, by omega, rfl, rfl, fun i hi => t4 i (by omega)⟩, ha, hi0, hi1, hd, hr⟩
