/-! the class's reader emits a code, fails -/
theorem emit_code {a x : Nat} (ha : a < 16) (hx : x < 4096) : (((iI (a : Int) <<< ((12 : Int32) &&& (31 : Int32))) : Int32) ||| iI (x : Int)) = iI ((a * 4096 + x : Nat) : Int) := by
  have e1 : (iI (a : Int) <<< ((12 : Int32) &&& (31 : Int32)) : Int32) = iI ((a * 2 ^ 12 : Nat) : Int) := by
    rw [show (12 : Int32) &&& (31 : Int32) = iI 12 from by decide, z_shl (by omega)]
    congr 1
  rw [e1, z_or (by omega) (by omega), Int.toNat_natCast, Int.toNat_natCast, or_add (by omega)]
theorem c_emit {X : mm_X} {d : Nat} {f : Nat → Int32} {fl : Nat → Int64} {g : Nat → Nat → Int32} {gl : Nat → Nat → Int64} {hh : Nat → Nat → Option Nat} {v : Nat → Value} {tx : mm_W} {P : Option Value → mm_W → Prop} {z a x : Nat} (hz : z < 400) (h49 : f 2049 = iI (z : Int)) (ha : a < 16) (hx : x < 4096) (h : P none (Wd (va_up f 2049 (iI ((z + 1 : Nat) : Int))) fl (va_up g 34 (upd (g 34) z (iI ((a * 4096 + x : Nat) : Int)))) gl hh v tx)) : WP X d 41 (0, [some (.ref 31), some (.int (iI (a : Int))), some (.int (iI (x : Int)))], [], Wd f fl g gl hh v tx) P := by
  refine b_yre_emit_31_0 (h := ?_) ..
  rw [h49, emit_code ha hx, i1N, show (iI (z : Int)).toNatClampNeg = z by rw [z_nat (by omega)]; omega]
  exact ⟨fun c => by simp (disch := omega) only [z_lit, z_litl, z_neg, z_negl, z_add, z_sub, z_mul, z_addl, z_subl, z_mull, z_cc, z_cl, z_cr, z_cm, z_cml, z_cmr, z_lt, z_le, z_eq, z_ltl, z_lel, z_eql, z_nat, z_i2l, z_l2i, z_div, z_sh, Int.toNat_natCast, z_ts, z_tsl] at c; omega, fun _ => ⟨by simp (disch := omega) only [z_lit, z_litl, z_neg, z_negl, z_add, z_sub, z_mul, z_addl, z_subl, z_mull, z_cc, z_cl, z_cr, z_cm, z_cml, z_cmr, z_lt, z_le, z_eq, z_ltl, z_lel, z_eql, z_nat, z_i2l, z_l2i, z_div, z_sh, Int.toNat_natCast, z_ts, z_tsl]; omega, h⟩⟩
theorem c_failk {X : mm_X} {d : Nat} {f : Nat → Int32} {fl : Nat → Int64} {g : Nat → Nat → Int32} {gl : Nat → Nat → Int64} {hh : Nat → Nat → Option Nat} {v : Nat → Value} {tx : mm_W} {P : Option Value → mm_W → Prop} {b : Nat → Nat} {n k : Nat} (hC : CK f v b n k) (h : P (some (.int 0)) (Wd (va_up f 1985 (iI (ts b n k : Int))) fl g gl hh v tx)) : WP X d 40 (0, [some (.ref 31)], [], Wd f fl g gl hh v tx) P := by
  refine b_yre_fail_31_0 (h := ?_) ..
  rw [hC.2.2.2.1]
  exact h
