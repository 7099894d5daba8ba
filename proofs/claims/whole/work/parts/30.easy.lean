/-! operations: the plain ones -/
theorem eqs_up {a b : Nat → Int32} (h : ∀ j, j < 7 → a j = b j) {k : Nat} (hk : k < 7) (x : Int32) : ∀ j, j < 7 → upd a k (a k + x) j = upd b k (b k + x) j := by
  intro j hj
  by_cases e : j = k
  · subst e; rw [upd_s, upd_s, h j hj]
  · rw [upd_ne e, upd_ne e, h j hj]
theorem k_Inv.rf {f : Nat → Int32} {fl : Nat → Int64} {g : Nat → Nat → Int32} {gl : Nat → Nat → Int64} {hh : Nat → Nat → Option Nat} {v : Nat → Value} {tx : mm_W} (h : k_Inv f fl g gl hh v tx) (e : Int32) (k : Nat) (hk : k < 7) : k_Inv (va_up (va_up f 18 e) 4736 e) fl (va_up (va_up g 55 (upd (g 55) k (g 55 k + iI 1))) 75 (upd (g 75) k (g 75 k + iI 1))) gl hh v tx := by
  obtain ⟨κ, hw, hm, hx, he, ht, ha, hi0, hi1, hd, hr⟩ := h
  exact ⟨κ, hw, hm, hx, ⟨he.1, he.2.1, he.2.2.1, rfl, eqs_up he.2.2.2.2 hk (iI 1)⟩, ht, ha, hi0, hi1, hd, hr⟩
theorem o_soap : k_op10 k_Inv := k_soap fun _ _ _ _ _ _ _ h => by obtain ⟨κ, hw, hm, hx, he, _⟩ := h; exact he.2.1
theorem o_fault : k_op13 k_Inv := k_fault fun _ _ _ _ _ _ _ h => by obtain ⟨κ, hw, hm, hx, he, _⟩ := h; exact he.1
theorem o_stopped : k_op14 k_Inv := k_stopped fun _ _ _ _ _ _ _ h => by obtain ⟨κ, hw, hm, hx, he, _⟩ := h; exact he.2.2.1
theorem o_status : k_op40 k_Inv := k_status fun _ _ _ _ _ _ _ h => by obtain ⟨κ, hw, hm, hx, he, _⟩ := h; exact he.2.2.2.1
theorem o_seen : k_op30 k_Inv := by
  intro a0 X f fl g gl hh v tx hI
  have hI' := hI
  obtain ⟨κ, ⟨wS, wH, wL, wD, wW, wT, wB⟩, hm, ⟨xS, xH, xL, xD, xW, xT⟩, he, ht, ha, hi0, hi1, hd, hr⟩ := hI'
  obtain ⟨z, hz, rfl⟩ := z_ex a0
  have b57 := wD.1
  have e57 := hm.1 57 (by decide)
  refine b_x_seen_0 X 1997 f fl g gl hh v tx (iI z) _ ?_
  simp (disch := omega) only [z_lit, z_litl, z_neg, z_negl, z_add, z_sub, z_mul, z_addl, z_subl, z_mull, z_cc, z_cl, z_cr, z_cm, z_cml, z_cmr, z_lt, z_le, z_eq, z_ltl, z_lel, z_eql, z_nat, z_i2l, z_l2i, z_div, z_sh, Int.toNat_natCast, z_ts, z_tsl, xD.1]
  refine ⟨fun c => ⟨fun c2 => ⟨by omega, ?_⟩, fun c2 => ?_⟩, fun c => ?_⟩
  · refine k_mid (b_m_seen_0 X 1998 _ _ _ _ _ _ _ (iI z) _ ?_)
    simp (disch := omega) only [z_lit, z_litl, z_neg, z_negl, z_add, z_sub, z_mul, z_addl, z_subl, z_mull, z_cc, z_cl, z_cr, z_cm, z_cml, z_cmr, z_lt, z_le, z_eq, z_ltl, z_lel, z_eql, z_nat, z_i2l, z_l2i, z_div, z_sh, Int.toNat_natCast, z_ts, z_tsl, va_ne, va_s, e57, upd_ne]
    refine ⟨fun _ => ⟨fun _ => ⟨by omega, ?_⟩, fun c3 => by omega⟩, fun c3 => by omega⟩
    have hk := (hm.up z.toNat (i := 47 + κ 57) (by omega)).up (κ 57 + 1) (i := 57) (by decide)
    rw [Int.toNat_of_nonneg c.1] at hk
    have en : ∀ i, ¬ i = 57 → ¬ i = 47 + κ 57 → va_up (va_up κ (47 + κ 57) z.toNat) 57 (κ 57 + 1) i = κ i := fun i h1 h2 => (va_ne h1).trans (va_ne h2)
    have ed : ∀ i, i < 6 → va_up (va_up κ (47 + κ 57) z.toNat) 57 (κ 57 + 1) (47 + i) = if i = κ 57 then z.toNat else κ (47 + i) := by
      intro i hi
      rw [va_ne (by omega)]
      by_cases h : i = κ 57
      · rw [if_pos h, h, va_s]
      · rw [if_neg h, va_ne (by omega)]
    refine k_fin0 rfl ⟨va_up (va_up κ (47 + κ 57) z.toNat) 57 (κ 57 + 1), ⟨wS.cg fun i hi => en i (by omega) (by omega), wH.cg fun i hi => en i (by omega) (by omega), wL.cg fun i hi => en i (by omega) (by omega), ⟨?_, fun i hi => ?_⟩, wW.cg fun i hi => en i (by omega) (by omega), wT.cg fun i hi => en i (by omega) (by omega), (wB.up (by omega)).up (by omega)⟩, hk,
      ⟨xS.cg wS.1 fun i hi => en i (by omega) (by omega), xH.cg wH.1 fun i hi => en i (by omega) (by omega), xL.cg wL.1 fun i hi => en i (by omega) (by omega), ⟨?_, fun i hi => ?_⟩, xW.cg fun i hi => en i (by omega) (by omega), xT.cg fun i hi => en i (by omega) (by omega)⟩, ⟨he.1, he.2.1, he.2.2.1, rfl, he.2.2.2.2⟩, ht, ha.cg fun i hi => en i (by omega) (by omega), hi0, hi1, hd, hr⟩
    · rw [va_s]; omega
    · rw [ed i hi]
      have := wD.2 i hi
      split <;> omega
    · rw [va_s]; rfl
    · rw [va_s] at hi
      show upd (g 6) (κ 57) (iI z) i = _
      rw [ed i (by omega)]
      by_cases h : i = κ 57
      · rw [if_pos h, h, upd_s, Int.toNat_of_nonneg c.1]
      · rw [if_neg h, upd_ne h]; exact xD.2 i (by omega)
  · refine k_mid (b_m_seen_0 X 1998 _ _ _ _ _ _ _ (iI z) _ ?_)
    simp (disch := omega) only [z_lit, z_litl, z_neg, z_negl, z_add, z_sub, z_mul, z_addl, z_subl, z_mull, z_cc, z_cl, z_cr, z_cm, z_cml, z_cmr, z_lt, z_le, z_eq, z_ltl, z_lel, z_eql, z_nat, z_i2l, z_l2i, z_div, z_sh, Int.toNat_natCast, z_ts, z_tsl, va_ne, va_s, e57, upd_ne]
    exact ⟨fun _ => ⟨fun c3 => by omega, fun _ => k_fin0 rfl (hI.rf (iI (-5)) 5 (by decide))⟩, fun c3 => by omega⟩
  · refine k_mid (b_m_seen_0 X 1998 _ _ _ _ _ _ _ (iI z) _ ?_)
    simp (disch := omega) only [z_lit, z_litl, z_neg, z_negl, z_add, z_sub, z_mul, z_addl, z_subl, z_mull, z_cc, z_cl, z_cr, z_cm, z_cml, z_cmr, z_lt, z_le, z_eq, z_ltl, z_lel, z_eql, z_nat, z_i2l, z_l2i, z_div, z_sh, Int.toNat_natCast, z_ts, z_tsl, va_ne, va_s, e57, upd_ne]
    exact ⟨fun c3 => by omega, fun _ => k_fin0 rfl (hI.rf (iI (-1)) 1 (by decide))⟩
