/-! operation sail -/
theorem sail_code {p s : Nat} (hp : p < 3) (hs : s < 1000) : (((2 : Int32) ||| ((iI (p : Int) <<< ((2 : Int32) &&& (31 : Int32))) : Int32)) ||| ((iI (s : Int) <<< ((4 : Int32) &&& (31 : Int32))) : Int32)) = iI ((2 + 4 * p + 16 * s : Nat) : Int) := by
  have e1 : (iI (p : Int) <<< ((2 : Int32) &&& (31 : Int32)) : Int32) = iI ((p * 2 ^ 2 : Nat) : Int) := by
    rw [show (2 : Int32) &&& (31 : Int32) = iI 2 from by decide, z_shl (by omega)]
    congr 1
  have e2 : (iI (s : Int) <<< ((4 : Int32) &&& (31 : Int32)) : Int32) = iI ((s * 2 ^ 4 : Nat) : Int) := by
    rw [show (4 : Int32) &&& (31 : Int32) = iI 4 from by decide, z_shl (by omega)]
    congr 1
  rw [e1, e2, show (2 : Int32) = iI ((2 : Nat) : Int) from rfl, z_or (by omega) (by omega), Int.toNat_natCast, Int.toNat_natCast, Nat.or_comm, or_add (by omega), z_or (by omega) (by omega), Int.toNat_natCast, Int.toNat_natCast, Nat.or_comm, or_add (by omega)]
  congr 2
  omega
theorem c_x_sails {X : mm_X} {d : Nat} {f : Nat → Int32} {fl : Nat → Int64} {g : Nat → Nat → Int32} {gl : Nat → Nat → Int64} {hh : Nat → Nat → Option Nat} {v : Nat → Value} {tx : mm_W} {P : Option Value → mm_W → Prop} {κ : Nat → Nat} {cs : List pC} {z : Int} {a : Nat} (hwS : wS κ) (hwH : wH κ) (hwL : wL κ) (hwT : wT κ) (hwW : wW κ) (hxS : xS (f 64) (g 2) (g 3) (g 4) κ) (hxH : xH (f 68) (g 5) κ) (hxL : xL (f 70) (f 71) κ) (hxW : xW (f 74) (hh 7) (f 76) tx κ) (hxT : xT (g 8) κ) (hok : csOK cs) (hF : (κ 59 = 0 ∧ cs = []) ∨ ∃ t o, κ 59 = t + 1 ∧ t < κ 58 ∧ hh 7 t = some o ∧ lwX tx o cs) (ha : a ≤ 16) (hfa : f 78 = iI (a : Int)) (hz : -9223372036854775808 ≤ z ∧ z < 9223372036854775808)
    (h2 : (z < 0 ∨ κ 56 ≤ z) → P (some (.int (iI (-2)))) (Wd f fl g gl hh v tx))
    (h3 : ∀ p : Nat, z = p → p < κ 56 → ¬ lyF κ false (wgt κ cs p) 0 < 1000000 → ∀ (s1 s2 s3 : Int32) (A B C D : Nat → Int32) (st : Nat → Int64) (L : Value), P (some (.int (iI (-3)))) (Wd (va_up (va_up (va_up f 2437 s1) 2438 s2) 2440 s3) fl (va_up (va_up (va_up (va_up g 41 A) 42 B) 43 C) 44 D) (va_up gl 40 st) hh (va_up v 2439 L) tx))
    (h0 : ∀ p : Nat, z = p → p < κ 56 → lyF κ false (wgt κ cs p) 0 < 1000000 → ∀ (s1 s2 s3 : Int32) (A B C D : Nat → Int32) (st : Nat → Int64) (L : Value) (ac' : Nat → Int32), pushC a (2 + 4 * p + 16 * spot κ p) (g 9) ac' → P (some (.int (iI (pln κ false (wgt κ cs p))))) (Wd (va_up (va_up (va_up (va_up f 78 (iI ((a - aS a + 1 : Nat) : Int))) 2437 s1) 2438 s2) 2440 s3) fl (va_up (va_up (va_up (va_up (va_up (va_up g 5 (upd (g 5) p (iI (thn κ cs p : Nat)))) 9 ac') 41 A) 42 B) 43 C) 44 D) (va_up gl 40 st) hh (va_up v 2439 L) tx)) : WP X (d + 6) 107 (0, [some (.ref 0), some (.long (lI z)), none, none], [], Wd f fl g gl hh v tx) P := by
  have b56 := hwH.1
  have c1 : (lg_cmp (lI z) 0 < 0) = (z < 0) := by rw [show (0 : Int64) = lI 0 from rfl]; exact z_cmp_lt hz (by omega)
  have c2 : (lg_cmp (lI z) ((f 68 : Int32).toInt64) < 0) = (z < (κ 56 : Int)) := by rw [hxH.1, z_i2l (by omega)]; exact z_cmp_lt hz (by omega)
  by_cases hin : 0 ≤ z ∧ z < κ 56
  · obtain ⟨p, rfl⟩ : ∃ p' : Nat, z = p' := ⟨z.toNat, by omega⟩
    have hp : p < κ 56 := by omega
    have hsl := (spot_lt hwH (p := p) (by omega)).1
    have hple := pln_le (κ := κ) (md := false) (wt := wgt κ cs p)
    have hcall : ∀ L, lwV tx L cs → WP X (d + 5) 7 (0, [some (.ref 38), some (.ref 1), some (.int (iI (p : Int))), some L, none], [], Wd f fl g gl hh v tx) (fun rv w2 => WP X (d + 6) 107 (44, [some (.ref 0), some (.long (lI (p : Int))), none, some (.int (iI (p : Int)))], rv.toList ++ [], w2) P) := by
      intro L hL
      refine c_choose1 (κ := κ) (cs := cs) hL hwS hwH hwL hwT hxS hxH hxL hxT hp (fun hzz n A B C st => ?_) fun hlt A B C D st A0 A6 A7 hD => ?_
      · refine b_x_sails_44 (h := ?_) ..
        refine ⟨fun c => absurd rfl c, fun _ => ?_⟩
        have := h3 p rfl hp (by omega) n (iI 1000000) (iI (spot κ p)) A B C (g 44) st L
        rw [va_id (f := va_up (va_up (va_up g 41 A) 42 B) 43 C) (k := 44) (by rw [va_ne (by decide), va_ne (by decide), va_ne (by decide)])] at this
        exact this
      · have v5 : va_up (va_up (va_up (va_up g 41 A) 42 B) 43 C) 44 D 5 = g 5 := by rw [va_ne (by decide), va_ne (by decide), va_ne (by decide), va_ne (by decide)]
        refine b_x_sails_44 (h := ?_) ..
        rw [v5, show (iI (p : Int)).toNatClampNeg = p by rw [z_nat (by omega)]; omega, hxH.2 p hp, sail_code (by omega) hsl]
        refine ⟨fun _ => ⟨by simp (disch := omega) only [z_lit, z_litl, z_neg, z_negl, z_add, z_sub, z_mul, z_addl, z_subl, z_mull, z_cc, z_cl, z_cr, z_cm, z_cml, z_cmr, z_lt, z_le, z_eq, z_ltl, z_lel, z_eql, z_nat, z_i2l, z_l2i, z_div, z_sh, Int.toNat_natCast, z_ts, z_tsl]; omega, ?_⟩, fun c => absurd c (by decide)⟩
        refine c_remember (f := va_up (va_up (va_up f 2437 (iI (pln κ false (wgt κ cs p)))) 2438 (iI (lyF κ false (wgt κ cs p) 0))) 2440 (iI (spot κ p))) (g := va_up (va_up (va_up (va_up g 41 A) 42 B) 43 C) 44 D) (a := a) (c := 2 + 4 * p + 16 * spot κ p) ha (by rw [va_ne (by decide), va_ne (by decide), va_ne (by decide)]; exact hfa) fun ac' hpu => ?_
        refine b_x_sails_74 (h := ?_) ..
        refine c_follow1 (κ := κ) (cs := cs) (p := p) (s0 := spot κ p) (n := pln κ false (wgt κ cs p)) (pk := fun i => sgn κ false (wgt κ cs p) (psn κ false (wgt κ cs p) i)) (f := va_up (va_up (va_up (va_up f 2437 (iI (pln κ false (wgt κ cs p)))) 2438 (iI (lyF κ false (wgt κ cs p) 0))) 2440 (iI (spot κ p))) 78 (iI ((a - aS a + 1 : Nat) : Int))) (g := va_up (va_up (va_up (va_up (va_up g 41 A) 42 B) 43 C) 44 D) 9 ac') hL.cp hwS hwT (by exact hxS) (by omega) hsl hple (by rw [va_ne (by decide), va_ne (by decide), va_ne (by decide), va_s]) (by rw [va_ne (by decide), va_s]) (by exact A0) (by exact A6) (by exact A7) (fun i hi => ?_) fun b st' => ?_
        · obtain ⟨q1, q2, q3⟩ := psn_ok (md := false) (wt := wgt κ cs p) hwS hlt i
          obtain ⟨s1, -⟩ := sgn_spec (md := false) (wt := wgt κ cs p) hwS (pln_lt hi) q2
          exact ⟨s1, by rw [va_ne (by decide), va_s]; exact hD i hi⟩
        · have hP := h0 p rfl hp hlt (iI (pln κ false (wgt κ cs p))) (iI (lyF κ false (wgt κ cs p) 0)) (iI (thn κ cs p : Nat)) b B C D st' L ac' hpu
          refine b_x_sails_85 (h := ?_) ..
          rw [show (iI (p : Int)).toNatClampNeg = p by rw [z_nat (by omega)]; omega]
          refine ⟨by simp (disch := omega) only [z_lit, z_litl, z_neg, z_negl, z_add, z_sub, z_mul, z_addl, z_subl, z_mull, z_cc, z_cl, z_cr, z_cm, z_cml, z_cmr, z_lt, z_le, z_eq, z_ltl, z_lel, z_eql, z_nat, z_i2l, z_l2i, z_div, z_sh, Int.toNat_natCast, z_ts, z_tsl]; omega, ?_⟩
          simp (disch := decide) only [va_ne, va_s, va_cm, va_tw]
          exact hP
    have z2 : (lI (p : Int)).toInt32 = iI (p : Int) := z_l2i _
    rcases hF with ⟨h00, hcs⟩ | ⟨t, o, hF1, hF2, hF3, hF4⟩
    · refine b_x_sails_0 (d := d + 4) (t0 := 0) (h := ?_) ..
      rw [c1, c2, z2]
      exact ⟨fun c => by omega, fun _ => ⟨fun _ => ⟨fun c => absurd c (force_N hxW h00), fun _ => hcall _ (Or.inl ⟨hcs, rfl⟩)⟩, fun c => by omega⟩⟩
    · obtain ⟨q1, q2, q3⟩ := force_T hxW hwW hF1 hF2 hF3
      refine b_x_sails_0 (d := d + 4) (t0 := o) (h := ?_) ..
      rw [c1, c2, z2]
      exact ⟨fun c => by omega, fun _ => ⟨fun _ => ⟨fun _ => ⟨q2, q3, hcall _ (Or.inr ⟨o, rfl, hF4, hok⟩)⟩, fun c => absurd q1 c⟩, fun c => by omega⟩⟩
  · refine b_x_sails_0 (d := d + 4) (t0 := 0) (h := ?_) ..
    rw [c1, c2]
    exact ⟨fun c => h2 (by omega), fun c => ⟨fun d2 => by omega, fun _ => h2 (by omega)⟩⟩
theorem c_m_sailsKept {X : mm_X} {f : Nat → Int32} {fl : Nat → Int64} {g : Nat → Nat → Int32} {gl : Nat → Nat → Int64} {hh : Nat → Nat → Option Nat} {v : Nat → Value} {tx : mm_W} {P : Option Value → mm_W → Prop} {κ : Nat → Nat} {cs : List pC} {z : Int} {a0 K : Nat} (hK : 64 ≤ K) (hm : ms (g 76) κ) (hwS : wS κ) (hwL : wL κ) (hwH : wH κ) (hwT : wT κ) (hB : wB κ) (hR : rfX κ (κ 59) cs) (hok : csOK cs) (ha : a0 ≤ 16) (hfa : f 4777 = iI (a0 : Int)) (hz : -2147483648 ≤ z ∧ z < 2147483648)
    (h2 : (z < 0 ∨ κ 56 ≤ z) → P (some (.int (iI (-2)))) (Wd f fl g gl hh v tx))
    (h3 : ∀ p : Nat, z = p → p < κ 56 → ¬ lyF κ false (wgt κ cs p) 0 < 1000000 → ∀ (x y z u : Int32) (A a l w r : Nat → Int32), P (some (.int (iI (-3)))) (Wd (va_up (va_up (va_up (va_up f 4758 x) 4759 y) 4760 z) 4761 u) fl (va_up (va_up (va_up (va_up (va_up g 86 A) 87 a) 88 l) 89 w) 90 r) gl hh v tx))
    (h0 : ∀ p : Nat, z = p → p < κ 56 → lyF κ false (wgt κ cs p) 0 < 1000000 → ∀ (x y z u : Int32) (A a l w r le' : Nat → Int32), pushM a0 2 (g 76) (g 97) le' → P (some (.int (iI (pln κ false (wgt κ cs p))))) (Wd (va_up (va_up (va_up (va_up (va_up f 4758 x) 4759 y) 4760 z) 4761 u) 4777 (iI ((a0 - aS a0 + 1 : Nat) : Int))) fl (va_up (va_up (va_up (va_up (va_up (va_up (va_up g 76 (upd (upd (upd (g 76) (13 + p) (iI ((thn κ cs p / 40 : Nat) : Int))) (16 + p) (iI ((thn κ cs p / 10 % 4 : Nat) : Int))) (19 + p) (iI ((thn κ cs p % 10 : Nat) : Int)))) 86 A) 87 a) 88 l) 89 w) 90 r) 97 le') gl hh v tx)) : WP X (K + 15) 238 (0, [some (.ref 74), some (.int (iI z)), none], [], Wd f fl g gl hh v tx) P := by
  have b56 := hwH.1
  have e56 := hm.1 56 (by decide)
  refine b_m_sailsKept_0 (h := ?_) ..
  rw [e56]
  refine ⟨fun c => ?_, fun c => h2 (by simp (disch := omega) only [z_lit, z_litl, z_neg, z_negl, z_add, z_sub, z_mul, z_addl, z_subl, z_mull, z_cc, z_cl, z_cr, z_cm, z_cml, z_cmr, z_lt, z_le, z_eq, z_ltl, z_lel, z_eql, z_nat, z_i2l, z_l2i, z_div, z_sh, Int.toNat_natCast, z_ts, z_tsl] at c; omega)⟩
  have hin : 0 ≤ z ∧ z < κ 56 := by simp (disch := omega) only [z_lit, z_litl, z_neg, z_negl, z_add, z_sub, z_mul, z_addl, z_subl, z_mull, z_cc, z_cl, z_cr, z_cm, z_cml, z_cmr, z_lt, z_le, z_eq, z_ltl, z_lel, z_eql, z_nat, z_i2l, z_l2i, z_div, z_sh, Int.toNat_natCast, z_ts, z_tsl] at c; omega
  obtain ⟨p, rfl⟩ : ∃ p' : Nat, z = p' := ⟨z.toNat, by omega⟩
  have hp : p < κ 56 := by omega
  have htl := thn_lt (cs := cs) hwH (p := p) (by omega)
  refine c_m_reads (y := -1) (κ := κ) (cs := cs) (K := K) hK hm hwS hwL hwH hwT hB hR hp (by omega) fun x y z u A a l w => ?_
  refine b_m_sailsKept_17 (h := ?_) ..
  by_cases hL : lyF κ false (wgt κ cs p) 0 < 1000000
  · rw [← rdV_n hL rfl]
    have hple := pln_le (κ := κ) (md := false) (wt := wgt κ cs p)
    refine ⟨fun _ => ?_, fun c => ?_⟩
    · refine c_m_keeps (a := a0) (w := 2) ha (by rw [va_ne (by decide), va_ne (by decide), va_ne (by decide), va_ne (by decide)]; exact hfa) fun le' hpu => ?_
      refine b_m_sailsKept_31 (h := ?_) ..
      refine c_m_stateThen (κ := κ) (cs := cs) (K := K) (p := p) (g := va_up (va_up (va_up (va_up (va_up g 86 A) 87 a) 88 l) 89 w) 97 le') hK (by exact hm) hwS hwL hwH hwT hB hR hok (by omega) fun x y z u A a l w r => ?_
      rw [if_pos hL]
      have hP := h0 p rfl hp hL x y z u A a l w r le' (by exact hpu)
      obtain ⟨-, e40, e10, em⟩ := st_40 htl
      have n13 : ((13 : Int32) + iI (p : Int)).toNatClampNeg = 13 + p := by simp (disch := omega) only [z_lit, z_litl, z_neg, z_negl, z_add, z_sub, z_mul, z_addl, z_subl, z_mull, z_cc, z_cl, z_cr, z_cm, z_cml, z_cmr, z_lt, z_le, z_eq, z_ltl, z_lel, z_eql, z_nat, z_i2l, z_l2i, z_div, z_sh, Int.toNat_natCast, z_ts, z_tsl]
      have n16 : ((16 : Int32) + iI (p : Int)).toNatClampNeg = 16 + p := by simp (disch := omega) only [z_lit, z_litl, z_neg, z_negl, z_add, z_sub, z_mul, z_addl, z_subl, z_mull, z_cc, z_cl, z_cr, z_cm, z_cml, z_cmr, z_lt, z_le, z_eq, z_ltl, z_lel, z_eql, z_nat, z_i2l, z_l2i, z_div, z_sh, Int.toNat_natCast, z_ts, z_tsl]
      have n19 : ((19 : Int32) + iI (p : Int)).toNatClampNeg = 19 + p := by simp (disch := omega) only [z_lit, z_litl, z_neg, z_negl, z_add, z_sub, z_mul, z_addl, z_subl, z_mull, z_cc, z_cl, z_cr, z_cm, z_cml, z_cmr, z_lt, z_le, z_eq, z_ltl, z_lel, z_eql, z_nat, z_i2l, z_l2i, z_div, z_sh, Int.toNat_natCast, z_ts, z_tsl]
      refine b_m_sailsKept_38 (h := ?_) ..
      rw [e10, e40, em, n13, n16, n19]
      refine ⟨by simp (disch := omega) only [z_lit, z_litl, z_neg, z_negl, z_add, z_sub, z_mul, z_addl, z_subl, z_mull, z_cc, z_cl, z_cr, z_cm, z_cml, z_cmr, z_lt, z_le, z_eq, z_ltl, z_lel, z_eql, z_nat, z_i2l, z_l2i, z_div, z_sh, Int.toNat_natCast, z_ts, z_tsl]; omega, by simp (disch := omega) only [z_lit, z_litl, z_neg, z_negl, z_add, z_sub, z_mul, z_addl, z_subl, z_mull, z_cc, z_cl, z_cr, z_cm, z_cml, z_cmr, z_lt, z_le, z_eq, z_ltl, z_lel, z_eql, z_nat, z_i2l, z_l2i, z_div, z_sh, Int.toNat_natCast, z_ts, z_tsl]; omega, by simp (disch := omega) only [z_lit, z_litl, z_neg, z_negl, z_add, z_sub, z_mul, z_addl, z_subl, z_mull, z_cc, z_cl, z_cr, z_cm, z_cml, z_cmr, z_lt, z_le, z_eq, z_ltl, z_lel, z_eql, z_nat, z_i2l, z_l2i, z_div, z_sh, Int.toNat_natCast, z_ts, z_tsl]; omega, ?_⟩
      simp (disch := decide) only [va_ne, va_s, va_cm, va_tw]
      exact hP
    · have c : iI (pln κ false (wgt κ cs p) : Int) = iI (-1) := c
      rw [z_eq (by omega) (by omega)] at c
      omega
  · have e : rdV κ cs p (-1) = -1 := by rw [rdV, if_pos (Or.inr hL)]
    rw [e]
    refine ⟨fun c => absurd rfl c, fun _ => ?_⟩
    have := h3 p rfl hp hL x y z u A a l w (g 90)
    rw [va_id (f := va_up (va_up (va_up (va_up g 86 A) 87 a) 88 l) 89 w) (k := 90) (by rw [va_ne (by decide), va_ne (by decide), va_ne (by decide), va_ne (by decide)])] at this
    exact this
/-- a ship is elsewhere -/
def slK (κ : Nat → Nat) (p s : Nat) : Nat → Nat := va_up (va_up (va_up κ (13 + p) (s / 40)) (16 + p) (s / 10 % 4)) (19 + p) (s % 10)
theorem slK_o {κ : Nat → Nat} {p s i : Nat} (h1 : i ≠ 13 + p) (h2 : i ≠ 16 + p) (h3 : i ≠ 19 + p) : slK κ p s i = κ i := by
  rw [slK, va_ne h3, va_ne h2, va_ne h1]
theorem slK_13 {κ : Nat → Nat} {p s : Nat} (hp : p < 3) : slK κ p s (13 + p) = s / 40 ∧ slK κ p s (16 + p) = s / 10 % 4 ∧ slK κ p s (19 + p) = s % 10 := by
  refine ⟨?_, ?_, ?_⟩
  · rw [slK, va_ne (by omega), va_ne (by omega), va_s]
  · rw [slK, va_ne (by omega), va_s]
  · rw [slK, va_s]
theorem slK_spot {κ : Nat → Nat} {p s : Nat} (hp : p < 3) (hs : s < 1000) : spot (slK κ p s) p = s ∧ ∀ q, q < 3 → q ≠ p → spot (slK κ p s) q = spot κ q := by
  obtain ⟨e1, e2, e3⟩ := slK_13 (κ := κ) (s := s) hp
  refine ⟨?_, fun q hq hn => ?_⟩
  · rw [spot, e1, e2, e3]
    omega
  · rw [spot, spot, slK_o (by omega) (by omega) (by omega), slK_o (by omega) (by omega) (by omega), slK_o (by omega) (by omega) (by omega)]
theorem slK_H {κ : Nat → Nat} {p s : Nat} (h : wH κ) (hp : p < 3) (hs : s < 1000) : wH (slK κ p s) := by
  obtain ⟨e1, e2, e3⟩ := slK_13 (κ := κ) (s := s) hp
  refine ⟨by rw [slK_o (by omega) (by omega) (by omega)]; exact h.1, fun q hq => ?_⟩
  by_cases e : q = p
  · subst e
    rw [e1, e2, e3]
    omega
  · rw [slK_o (by omega) (by omega) (by omega), slK_o (by omega) (by omega) (by omega), slK_o (by omega) (by omega) (by omega)]
    exact h.2 q hq
theorem slK_x {m : Int32} {sp : Nat → Int32} {κ : Nat → Nat} {p s : Nat} (h : xH m sp κ) (hw : wH κ) (hp : p < κ 56) (hs : s < 1000) : xH m (upd sp p (iI (s : Int))) (slK κ p s) := by
  have b56 := hw.1
  obtain ⟨e1, e2⟩ := slK_spot (κ := κ) (p := p) (s := s) (by omega) hs
  refine ⟨by rw [slK_o (by omega) (by omega) (by omega)]; exact h.1, fun q hq => ?_⟩
  rw [slK_o (by omega) (by omega) (by omega)] at hq
  by_cases e : q = p
  · rw [e, upd_s, e1]
  · rw [upd_ne e, e2 q (by omega) e]
    exact h.2 q hq
theorem slK_ms {K : Nat → Int32} {κ : Nat → Nat} (hm : ms K κ) (p s : Nat) (hp : p < 3) : ms (upd (upd (upd K (13 + p) (iI ((s / 40 : Nat) : Int))) (16 + p) (iI ((s / 10 % 4 : Nat) : Int))) (19 + p) (iI ((s % 10 : Nat) : Int))) (slK κ p s) := ((hm.up _ (by omega)).up _ (by omega)).up _ (by omega)
theorem slK_act {κ : Nat → Nat} {p s : Nat} (hw : wH κ) (hL : wL κ) (hp : p < κ 56) (hs : s < 1000) : i_act (κ 56) (2 + 4 * p + 16 * spot κ p) κ (slK κ p s) := by
  have b56 := hw.1
  have e4 : (2 + 4 * p + 16 * spot κ p) / 4 % 4 = p := by omega
  refine Or.inr (Or.inr (Or.inl ⟨by omega, slK_o (by omega) (by omega) (by omega), fun i hi => ?_, by rw [e4]; exact hp, fun q hq hn => ?_, by rw [e4]; omega, slK_o (by omega) (by omega) (by omega)⟩))
  · have := hL.1
    exact slK_o (by omega) (by omega) (by omega)
  · rw [e4] at hn
    exact (slK_spot (by omega) hs).2 q (by omega) hn
theorem slK_wf {κ : Nat → Nat} {p s : Nat} (hw : wf κ) (hp : p < 3) (hs : s < 1000) : wf (slK κ p s) := by
  obtain ⟨wS, wH, wL, wD, wW, wT, wB⟩ := hw
  have en : ∀ i, (i < 13 ∨ 22 ≤ i) → slK κ p s i = κ i := fun i hi => slK_o (by omega) (by omega) (by omega)
  exact ⟨wS.cg fun i hi => en i (by omega), slK_H wH hp hs, wL.cg fun i hi => en i (by omega), wD.cg fun i hi => en i (by omega), wW.cg fun i hi => en i (by omega), wT.cg fun i hi => en i (by omega), ((wB.up (by omega)).up (by omega)).up (by omega)⟩
theorem o_sail : k_op18 k_Inv := by
  intro a0 X f fl g gl hh v tx hI
  have hI' := hI
  obtain ⟨κ, ⟨wS, wH, wL, wD, wW, wT, wB⟩, hm, ⟨xS, xH, xL, xD, xW, xT⟩, he, ht, ha, hi0, hi1, hd, hr⟩ := hI
  obtain ⟨z, hz, rfl⟩ := z_ex a0
  have b56 := wH.1
  obtain ⟨cs, hok, hR, hF⟩ := force_X xW wW
  obtain ⟨a, ha16, hxa, hma⟩ := i_acts_n ha
  refine b_x_sail_0 (h := ?_) ..
  rw [z_i2l hz]
  refine c_x_sails (κ := κ) (cs := cs) (a := a) wS wH wL wT wW xS xH xL xW xT hok hF ha16 hxa (by omega) (fun c => ?_) (fun p hpz hp hL s1 s2 s3 A B C D st L => ?_) fun p hpz hp hL s1 s2 s3 A B C D st L ac' hpu => ?_
  · refine b_x_sail_7 (h := ?_) ..
    simp (disch := omega) only [z_lit, z_litl, z_neg, z_negl, z_add, z_sub, z_mul, z_addl, z_subl, z_mull, z_cc, z_cl, z_cr, z_cm, z_cml, z_cmr, z_lt, z_le, z_eq, z_ltl, z_lel, z_eql, z_nat, z_i2l, z_l2i, z_div, z_sh, Int.toNat_natCast, z_ts, z_tsl]
    repeat (first | refine ⟨fun c9 => by omega, fun _ => ?_⟩ | refine ⟨fun _ => ?_, fun c9 => by omega⟩ | refine ⟨by omega, ?_⟩ | refine ⟨fun c9 => absurd trivial c9, fun _ => ?_⟩ | refine ⟨fun _ => ?_, fun c9 => absurd trivial c9⟩)
    refine k_mid (b_m_sail_0 (h := ?_) ..)
    refine c_m_sailsKept (K := 1983) (κ := κ) (cs := cs) (a0 := a) (by omega) (by exact hm) wS wL wH wT wB hR hok ha16 (by exact hma) hz (fun _ => ?_) (fun p hpz hp => by omega) fun p hpz hp => by omega
    refine b_m_sail_6 (h := ?_) ..
    simp (disch := omega) only [z_lit, z_litl, z_neg, z_negl, z_add, z_sub, z_mul, z_addl, z_subl, z_mull, z_cc, z_cl, z_cr, z_cm, z_cml, z_cmr, z_lt, z_le, z_eq, z_ltl, z_lel, z_eql, z_nat, z_i2l, z_l2i, z_div, z_sh, Int.toNat_natCast, z_ts, z_tsl]
    repeat (first | refine ⟨fun c9 => by omega, fun _ => ?_⟩ | refine ⟨fun _ => ?_, fun c9 => by omega⟩ | refine ⟨by omega, ?_⟩ | refine ⟨fun c9 => absurd trivial c9, fun _ => ?_⟩ | refine ⟨fun _ => ?_, fun c9 => absurd trivial c9⟩)
    exact k_fin0 rfl (hI'.rf (iI (-2)) 2 (by decide))
  · refine b_x_sail_7 (h := ?_) ..
    simp (disch := omega) only [z_lit, z_litl, z_neg, z_negl, z_add, z_sub, z_mul, z_addl, z_subl, z_mull, z_cc, z_cl, z_cr, z_cm, z_cml, z_cmr, z_lt, z_le, z_eq, z_ltl, z_lel, z_eql, z_nat, z_i2l, z_l2i, z_div, z_sh, Int.toNat_natCast, z_ts, z_tsl]
    repeat (first | refine ⟨fun c9 => by omega, fun _ => ?_⟩ | refine ⟨fun _ => ?_, fun c9 => by omega⟩ | refine ⟨by omega, ?_⟩ | refine ⟨fun c9 => absurd trivial c9, fun _ => ?_⟩ | refine ⟨fun _ => ?_, fun c9 => absurd trivial c9⟩)
    refine k_mid (b_m_sail_0 (h := ?_) ..)
    refine c_m_sailsKept (K := 1983) (κ := κ) (cs := cs) (a0 := a) (by omega) (by exact hm) wS wL wH wT wB hR hok ha16 (by exact hma) hz (fun _ => by omega) (fun p2 hpz2 hp2 hL2 x y z u A a l w r => ?_) fun p2 hpz2 hp2 hL2 => ?_
    · refine b_m_sail_6 (h := ?_) ..
      simp (disch := omega) only [z_lit, z_litl, z_neg, z_negl, z_add, z_sub, z_mul, z_addl, z_subl, z_mull, z_cc, z_cl, z_cr, z_cm, z_cml, z_cmr, z_lt, z_le, z_eq, z_ltl, z_lel, z_eql, z_nat, z_i2l, z_l2i, z_div, z_sh, Int.toNat_natCast, z_ts, z_tsl]
      repeat (first | refine ⟨fun c9 => by omega, fun _ => ?_⟩ | refine ⟨fun _ => ?_, fun c9 => by omega⟩ | refine ⟨by omega, ?_⟩ | refine ⟨fun c9 => absurd trivial c9, fun _ => ?_⟩ | refine ⟨fun _ => ?_, fun c9 => absurd trivial c9⟩)
      exact k_fin0 rfl (by exact hI'.rf (iI (-3)) 3 (by decide))
    · have e2 : p2 = p := by omega
      subst e2
      exact absurd hL2 hL
  · have htl := thn_lt (cs := cs) wH (p := p) (by omega)
    have hple := pln_le (κ := κ) (md := false) (wt := wgt κ cs p)
    refine b_x_sail_7 (h := ?_) ..
    simp (disch := omega) only [z_lit, z_litl, z_neg, z_negl, z_add, z_sub, z_mul, z_addl, z_subl, z_mull, z_cc, z_cl, z_cr, z_cm, z_cml, z_cmr, z_lt, z_le, z_eq, z_ltl, z_lel, z_eql, z_nat, z_i2l, z_l2i, z_div, z_sh, Int.toNat_natCast, z_ts, z_tsl]
    refine ⟨fun _ => ?_, fun c => by omega⟩
    refine k_mid (b_m_sail_0 (h := ?_) ..)
    refine c_m_sailsKept (K := 1983) (κ := κ) (cs := cs) (a0 := a) (by omega) (by exact hm) wS wL wH wT wB hR hok ha16 (by exact hma) hz (fun _ => by omega) (fun p2 hpz2 hp2 hL2 => ?_) fun p2 hpz2 hp2 hL2 x y z u A a l w r le' hq => ?_
    · have e2 : p2 = p := by omega
      subst e2
      exact absurd hL hL2
    · have e2 : p2 = p := by omega
      subst e2
      refine b_m_sail_6 (h := ?_) ..
      simp (disch := omega) only [z_lit, z_litl, z_neg, z_negl, z_add, z_sub, z_mul, z_addl, z_subl, z_mull, z_cc, z_cl, z_cr, z_cm, z_cml, z_cmr, z_lt, z_le, z_eq, z_ltl, z_lel, z_eql, z_nat, z_i2l, z_l2i, z_div, z_sh, Int.toNat_natCast, z_ts, z_tsl]
      refine ⟨fun _ => ?_, fun c => by omega⟩
      have en : ∀ i, (i < 13 ∨ 22 ≤ i) → slK κ p2 (thn κ cs p2) i = κ i := fun i hi => slK_o (by omega) (by omega) (by omega)
      refine k_fin0 rfl ⟨slK κ p2 (thn κ cs p2), slK_wf ⟨wS, wH, wL, wD, wW, wT, wB⟩ (by omega) htl, slK_ms hm p2 _ (by omega), ⟨xS.cg wS.1 fun i hi => en i (by omega), slK_x xH wH hp htl, xL.cg wL.1 fun i hi => en i (by omega), xD.cg wD.1 fun i hi => en i (by omega), xW.cg fun i hi => en i (by omega), xT.cg fun i hi => en i (by omega)⟩, ⟨he.1, he.2.1, he.2.2.1, rfl, he.2.2.2.2⟩, ht, ?_, hi0, hi1, hd, hr⟩
      have hsl := (spot_lt wH (p := p2) (by omega)).1
      exact ha.push (c := 2 + 4 * p2 + 16 * spot κ p2) hxa ha16 (by omega) hpu (by rw [show (2 + 4 * p2 + 16 * spot κ p2) % 4 = 2 by omega]; exact hq) (fun i hi => hm.1 i (by omega)) wH wL wT.1 (en 56 (by omega)) (by rw [en 12 (by omega)]; exact wL.1) (slK_act wH wL hp htl)
