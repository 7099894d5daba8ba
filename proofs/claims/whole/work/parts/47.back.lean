/-! back -/
def mixK (a b : Nat → Nat) : Nat → Nat := fun i => if i < 5667 then a i else b i
theorem mixK_lt {a b : Nat → Nat} {i : Nat} (h : i < 5667) : mixK a b i = a i := if_pos h
theorem mixK_ge {a b : Nat → Nat} {i : Nat} (h : 5667 ≤ i) : mixK a b i = b i := if_neg (by omega)
theorem wf.mix {a b : Nat → Nat} (h : wf a) (hb : wf b) : wf (mixK a b) := by
  obtain ⟨hS, hH, hL, hD, hW, hT, hB⟩ := h
  refine ⟨hS.cg fun i _ => mixK_lt (by omega), hH.cg fun i _ => mixK_lt (by omega), hL.cg fun i _ => mixK_lt (by omega), hD.cg fun i _ => mixK_lt (by omega), hW.cg fun i _ => mixK_lt (by omega), hT.cg fun i _ => mixK_lt (by omega), fun i => ?_⟩
  rw [mixK]
  split
  · exact hB i
  · exact hb.2.2.2.2.2.2 i
theorem xs.mix {n : Int32} {ro lo me : Nat → Int32} {m : Int32} {sp : Nat → Int32} {hu cl dn : Int32} {dd : Nat → Int32} {la : Int32} {lw : Nat → Option Nat} {fo : Int32} {te : Nat → Int32} {tx : mm_W} {a b : Nat → Nat} (h : xs n ro lo me m sp hu cl dn dd la lw fo te tx a) (hw : wf a) : xs n ro lo me m sp hu cl dn dd la lw fo te tx (mixK a b) := by
  obtain ⟨hS, hH, hL, hD, hW, hT, hB⟩ := hw
  obtain ⟨qS, qH, qL, qD, qW, qT⟩ := h
  have w1 := hW.1
  refine ⟨qS.cg hS.1 fun i _ => mixK_lt (by omega), qH.cg hH.1 fun i _ => mixK_lt (by omega), qL.cg hL.1 fun i _ => mixK_lt (by omega), qD.cg hD.1 fun i _ => mixK_lt (by omega), ⟨?_, ?_, fun t ht => ?_⟩, qT.cg fun i _ => mixK_lt (by omega)⟩
  · rw [mixK_lt (by omega)]; exact qW.1
  · rw [mixK_lt (by omega)]; exact qW.2.1
  · rw [mixK_lt (by omega)] at ht
    have q := qW.2.2 t ht
    have q4 : a (60 + t) ≤ 400 := by obtain ⟨_, _, _, _, _, _, _, _, _, _, _, q, _⟩ := q; exact q
    exact q.cg (mixK_lt (by omega)) fun k hk => ⟨mixK_lt (by omega), mixK_lt (by omega)⟩
theorem c_m_back {X : mm_X} {d : Nat} {f : Nat → Int32} {fl : Nat → Int64} {g : Nat → Nat → Int32} {gl : Nat → Nat → Int64} {hh : Nat → Nat → Option Nat} {v : Nat → Value} {tx : mm_W} {P : Option Value → mm_W → Prop} {k : Nat} (hk : k ≤ 1) (hg : g 78 k = 1) (h : ∀ a : Nat → Int32, (∀ i, i < 5667 → a i = g 77 (5667 * k + i)) → (∀ j, 5667 ≤ j → a j = g 76 j) → P (some (.int (iI 0))) (Wd (va_up (va_up f 4777 (iI 0)) 4736 (iI 0)) fl (va_up g 76 a) gl hh v tx)) : WP X (d + 2) 128 (0, [some (.ref 74), some (.int (iI k)), none], [], Wd f fl g gl hh v tx) P := by
  refine b_m_back_0 (h := ?_) ..
  simp (disch := omega) only [z_lit, z_litl, z_neg, z_negl, z_add, z_sub, z_mul, z_addl, z_subl, z_mull, z_cc, z_cl, z_cr, z_cm, z_cml, z_cmr, z_lt, z_le, z_eq, z_ltl, z_lel, z_eql, z_nat, z_i2l, z_l2i, z_div, z_sh, Int.toNat_natCast, z_ts, z_tsl]
  refine ⟨fun _ => ⟨by omega, fun _ => ?_, fun c => by rw [hg] at c; exact absurd c (by decide)⟩, fun c => by omega⟩
  have key : ∀ i, i ≤ 5667 → ∀ a : Nat → Int32, (∀ x, x < i → a x = g 77 (5667 * k + x)) → (∀ j, i ≤ j → a j = g 76 j) → WP X (d + 2) 128 (33, [some (.ref 74), some (.int (iI k)), some (.int (iI i))], [], Wd f fl (va_up g 76 a) gl hh v tx) P := by
    apply k_up (Q := fun i => ∀ a : Nat → Int32, (∀ x, x < i → a x = g 77 (5667 * k + x)) → (∀ j, i ≤ j → a j = g 76 j) → WP X (d + 2) 128 (33, [some (.ref 74), some (.int (iI k)), some (.int (iI i))], [], Wd f fl (va_up g 76 a) gl hh v tx) P)
    · intro a h1 h2
      refine b_m_back_33 (h := ?_) ..
      simp (disch := omega) only [z_lit, z_litl, z_neg, z_negl, z_add, z_sub, z_mul, z_addl, z_subl, z_mull, z_cc, z_cl, z_cr, z_cm, z_cml, z_cmr, z_lt, z_le, z_eq, z_ltl, z_lel, z_eql, z_nat, z_i2l, z_l2i, z_div, z_sh, Int.toNat_natCast, z_ts, z_tsl]
      refine ⟨fun _ => ?_, fun c => by omega⟩
      exact h a h1 h2
    · intro i hi ih a h1 h2
      refine b_m_back_33 (h := ?_) ..
      simp (disch := omega) only [z_lit, z_litl, z_neg, z_negl, z_add, z_sub, z_mul, z_addl, z_subl, z_mull, z_cc, z_cl, z_cr, z_cm, z_cml, z_cmr, z_lt, z_le, z_eq, z_ltl, z_lel, z_eql, z_nat, z_i2l, z_l2i, z_div, z_sh, Int.toNat_natCast, z_ts, z_tsl, va_ne, va_s, va_tw]
      refine ⟨fun c => by omega, fun _ => ⟨by omega, by omega, ?_⟩⟩
      refine ih _ (fun x hx => ?_) fun j hj => ?_
      · by_cases e : x = i
        · rw [e, upd_s]
        · rw [upd_ne (by omega)]; exact h1 x (by omega)
      · rw [upd_ne (by omega)]; exact h2 j (by omega)
  have := key 0 (by omega) (g 76) (fun x hx => absurd hx (Nat.not_lt_zero x)) fun j _ => rfl
  rw [show va_up g 76 (g 76) = g by
    funext j
    by_cases e : j = 76
    · rw [e, va_s]
    · rw [va_ne e]] at this
  exact this
theorem o_back0 (X : mm_X) {f : Nat → Int32} {fl : Nat → Int64} {g : Nat → Nat → Int32} {gl : Nat → Nat → Int64} {hh : Nat → Nat → Option Nat} {v : Nat → Value} {tx : mm_W} (hI : k_Inv f fl g gl hh v tx) : WP X 1999 96 (0, [some (.ref 0), some (.int (iI ((0 : Nat) : Int)))], [], Wd f fl g gl hh v tx) (fun r1 w1 => ∃ (a : Int64) (f1 : Nat → Int32) (fl1 : Nat → Int64) (g1 : Nat → Nat → Int32) (gl1 : Nat → Nat → Int64) (hh1 : Nat → Nat → Option Nat) (v1 : Nat → Value) (tx1 : mm_W), r1 = some (k_mi a) ∧ w1 = Wd f1 fl1 g1 gl1 hh1 v1 tx1 ∧ WP X 1999 128 (0, [some (.ref 74), some (.int (iI ((0 : Nat) : Int))), none], [], w1) (fun r2 w2 => r2 = some (k_mi a) ∧ ∃ (f2 : Nat → Int32) (fl2 : Nat → Int64) (g2 : Nat → Nat → Int32) (gl2 : Nat → Nat → Int64) (hh2 : Nat → Nat → Option Nat) (v2 : Nat → Value) (tx2 : mm_W), w2 = Wd f2 fl2 g2 gl2 hh2 v2 tx2 ∧ k_Inv f2 fl2 g2 gl2 hh2 v2 tx2 ∧ tx2.length ≤ tx.length + 3 ∧ mm_sl tx2 ≤ mm_sl tx + 464)) := by
  have hI' := hI
  obtain ⟨κ, ⟨wS, wH, wL, wD, wW, wT, wB⟩, hm, ⟨xS, xH, xL, xD, xW, xT⟩, he, ht, ha, hi0, hi1, hd, hr⟩ := hI
  refine b_x_back0_0 (h := ?_) ..
  simp (disch := omega) only [z_lit, z_litl, z_neg, z_negl, z_add, z_sub, z_mul, z_addl, z_subl, z_mull, z_cc, z_cl, z_cr, z_cm, z_cml, z_cmr, z_lt, z_le, z_eq, z_ltl, z_lel, z_eql, z_nat, z_i2l, z_l2i, z_div, z_sh, Int.toNat_natCast, z_ts, z_tsl]
  refine ⟨fun _ => ⟨by omega, fun hn => ⟨by omega, by rw [hr.1]; rfl, ?_⟩, fun hz => ?_⟩, fun c => by omega⟩
  · obtain ⟨q1, q2⟩ := hi0
    rcases q2 with q2 | ⟨q2, κi, qw, qm, qx⟩
    · exact absurd q2 hn
    refine c_copy_1_56 hr.2.2.2.2.2.1 fun nl n1 n2 => ?_
    refine b_x_back0_43 (h := ?_) ..
    simp (disch := omega) only [z_lit, z_litl, z_neg, z_negl, z_add, z_sub, z_mul, z_addl, z_subl, z_mull, z_cc, z_cl, z_cr, z_cm, z_cml, z_cmr, z_lt, z_le, z_eq, z_ltl, z_lel, z_eql, z_nat, z_i2l, z_l2i, z_div, z_sh, Int.toNat_natCast, z_ts, z_tsl, va_ne]
    refine k_mid ?_
    refine c_m_back (k := 0) (by omega) (q1.symm.trans q2) fun a h1 h2 => ?_
    have wm := qw.mix ⟨wS, wH, wL, wD, wW, wT, wB⟩
    refine k_fin0 rfl ⟨mixK κi κ, wm, ?_, (by exact (xs_copy qx qw n1).mix qw), ⟨he.1, he.2.1, he.2.2.1, rfl, he.2.2.2.2⟩, ht, ⟨0, fun _ => 0, fun _ i => mixK κi κ i, by omega, rfl, rfl, fun i _ => rfl, fun k hk => absurd hk (Nat.not_lt_zero k)⟩, ⟨q1, Or.inr ⟨q2, κi, qw, qm, qx⟩⟩, hi1, hd, hr.1, hr.2.1, hr.2.2.2.2.2.1.copy hr.2.2.1 n1 n2, hr.2.2.2.1, hr.2.2.2.2.1, hr.2.2.2.2.2.1, hr.2.2.2.2.2.2⟩
    refine ⟨fun i hi => ?_, ?_⟩
    · show a i = _
      by_cases c : i < 5667
      · rw [mixK_lt c, h1 i c]
        have := qm.1 i c hi
        rw [Nat.mul_zero, Nat.zero_add]; exact this
      · rw [mixK_ge (by omega), h2 i (by omega)]; exact hm.1 i hi
    · show a 59 = _
      rw [mixK_lt (by omega), h1 59 (by omega)]
      exact qm.2
  · refine k_mid (b_m_back_0 (h := ?_) ..)
    simp (disch := omega) only [z_lit, z_litl, z_neg, z_negl, z_add, z_sub, z_mul, z_addl, z_subl, z_mull, z_cc, z_cl, z_cr, z_cm, z_cml, z_cmr, z_lt, z_le, z_eq, z_ltl, z_lel, z_eql, z_nat, z_i2l, z_l2i, z_div, z_sh, Int.toNat_natCast, z_ts, z_tsl, va_ne]
    refine ⟨fun _ => ⟨by omega, fun c => absurd ((hi0.1).symm.trans hz) c, fun _ => ?_⟩, fun c => by omega⟩
    exact k_fin0 rfl (hI'.rf (iI (-2)) 2 (by decide))
theorem o_back1 (X : mm_X) {f : Nat → Int32} {fl : Nat → Int64} {g : Nat → Nat → Int32} {gl : Nat → Nat → Int64} {hh : Nat → Nat → Option Nat} {v : Nat → Value} {tx : mm_W} (hI : k_Inv f fl g gl hh v tx) : WP X 1999 96 (0, [some (.ref 0), some (.int (iI ((1 : Nat) : Int)))], [], Wd f fl g gl hh v tx) (fun r1 w1 => ∃ (a : Int64) (f1 : Nat → Int32) (fl1 : Nat → Int64) (g1 : Nat → Nat → Int32) (gl1 : Nat → Nat → Int64) (hh1 : Nat → Nat → Option Nat) (v1 : Nat → Value) (tx1 : mm_W), r1 = some (k_mi a) ∧ w1 = Wd f1 fl1 g1 gl1 hh1 v1 tx1 ∧ WP X 1999 128 (0, [some (.ref 74), some (.int (iI ((1 : Nat) : Int))), none], [], w1) (fun r2 w2 => r2 = some (k_mi a) ∧ ∃ (f2 : Nat → Int32) (fl2 : Nat → Int64) (g2 : Nat → Nat → Int32) (gl2 : Nat → Nat → Int64) (hh2 : Nat → Nat → Option Nat) (v2 : Nat → Value) (tx2 : mm_W), w2 = Wd f2 fl2 g2 gl2 hh2 v2 tx2 ∧ k_Inv f2 fl2 g2 gl2 hh2 v2 tx2 ∧ tx2.length ≤ tx.length + 3 ∧ mm_sl tx2 ≤ mm_sl tx + 464)) := by
  have hI' := hI
  obtain ⟨κ, ⟨wS, wH, wL, wD, wW, wT, wB⟩, hm, ⟨xS, xH, xL, xD, xW, xT⟩, he, ht, ha, hi0, hi1, hd, hr⟩ := hI
  refine b_x_back1_0 (h := ?_) ..
  simp (disch := omega) only [z_lit, z_litl, z_neg, z_negl, z_add, z_sub, z_mul, z_addl, z_subl, z_mull, z_cc, z_cl, z_cr, z_cm, z_cml, z_cmr, z_lt, z_le, z_eq, z_ltl, z_lel, z_eql, z_nat, z_i2l, z_l2i, z_div, z_sh, Int.toNat_natCast, z_ts, z_tsl]
  refine ⟨fun _ => ⟨by omega, fun hn => ⟨by omega, by rw [hr.2.1]; rfl, ?_⟩, fun hz => ?_⟩, fun c => by omega⟩
  · obtain ⟨q1, q2⟩ := hi1
    rcases q2 with q2 | ⟨q2, κi, qw, qm, qx⟩
    · exact absurd q2 hn
    refine c_copy_1_65 hr.2.2.2.2.2.2 fun nl n1 n2 => ?_
    refine b_x_back1_43 (h := ?_) ..
    simp (disch := omega) only [z_lit, z_litl, z_neg, z_negl, z_add, z_sub, z_mul, z_addl, z_subl, z_mull, z_cc, z_cl, z_cr, z_cm, z_cml, z_cmr, z_lt, z_le, z_eq, z_ltl, z_lel, z_eql, z_nat, z_i2l, z_l2i, z_div, z_sh, Int.toNat_natCast, z_ts, z_tsl, va_ne]
    refine k_mid ?_
    refine c_m_back (k := 1) (by omega) (q1.symm.trans q2) fun a h1 h2 => ?_
    have wm := qw.mix ⟨wS, wH, wL, wD, wW, wT, wB⟩
    refine k_fin0 rfl ⟨mixK κi κ, wm, ?_, (by exact (xs_copy qx qw n1).mix qw), ⟨he.1, he.2.1, he.2.2.1, rfl, he.2.2.2.2⟩, ht, ⟨0, fun _ => 0, fun _ i => mixK κi κ i, by omega, rfl, rfl, fun i _ => rfl, fun k hk => absurd hk (Nat.not_lt_zero k)⟩, hi0, ⟨q1, Or.inr ⟨q2, κi, qw, qm, qx⟩⟩, hd, hr.1, hr.2.1, hr.2.2.2.2.2.2.copy hr.2.2.1 n1 n2, hr.2.2.2.1, hr.2.2.2.2.1, hr.2.2.2.2.2.1, hr.2.2.2.2.2.2⟩
    refine ⟨fun i hi => ?_, ?_⟩
    · show a i = _
      by_cases c : i < 5667
      · rw [mixK_lt c, h1 i c]
        have := qm.1 i c hi
        exact this
      · rw [mixK_ge (by omega), h2 i (by omega)]; exact hm.1 i hi
    · show a 59 = _
      rw [mixK_lt (by omega), h1 59 (by omega)]
      exact qm.2
  · refine k_mid (b_m_back_0 (h := ?_) ..)
    simp (disch := omega) only [z_lit, z_litl, z_neg, z_negl, z_add, z_sub, z_mul, z_addl, z_subl, z_mull, z_cc, z_cl, z_cr, z_cm, z_cml, z_cmr, z_lt, z_le, z_eq, z_ltl, z_lel, z_eql, z_nat, z_i2l, z_l2i, z_div, z_sh, Int.toNat_natCast, z_ts, z_tsl, va_ne]
    refine ⟨fun _ => ⟨by omega, fun c => absurd ((hi1.1).symm.trans hz) c, fun _ => ?_⟩, fun c => by omega⟩
    exact k_fin0 rfl (hI'.rf (iI (-2)) 2 (by decide))
theorem o_back : k_op38 k_Inv := by
  intro a0 X f fl g gl hh v tx hI
  obtain ⟨z, hz, rfl⟩ := z_ex a0
  by_cases h0 : z = 0
  · subst h0; exact o_back0 X hI
  · by_cases h1 : z = 1
    · subst h1; exact o_back1 X hI
    · refine b_x_back0_0 (h := ?_) ..
      simp (disch := omega) only [z_lit, z_litl, z_neg, z_negl, z_add, z_sub, z_mul, z_addl, z_subl, z_mull, z_cc, z_cl, z_cr, z_cm, z_cml, z_cmr, z_lt, z_le, z_eq, z_ltl, z_lel, z_eql, z_nat, z_i2l, z_l2i, z_div, z_sh, Int.toNat_natCast, z_ts, z_tsl]
      refine ⟨fun c => by omega, fun _ => ?_⟩
      refine k_mid (b_m_back_0 (h := ?_) ..)
      simp (disch := omega) only [z_lit, z_litl, z_neg, z_negl, z_add, z_sub, z_mul, z_addl, z_subl, z_mull, z_cc, z_cl, z_cr, z_cm, z_cml, z_cmr, z_lt, z_le, z_eq, z_ltl, z_lel, z_eql, z_nat, z_i2l, z_l2i, z_div, z_sh, Int.toNat_natCast, z_ts, z_tsl, va_ne]
      exact ⟨fun c => by omega, fun _ => k_fin0 rfl (hI.rf (iI (-1)) 1 (by decide))⟩
