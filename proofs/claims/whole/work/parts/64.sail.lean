/-! meetings, sail -/
def mtF (W : Nat → Int) (m : Nat) (i : Int) : Nat → Nat → Nat → Nat → Int
  | 0, _, _, _ => -1
  | k + 1, a, b, n => if m ≤ a then (if i = -1 then (n : Int) else -1) else if m ≤ b then mtF W m i k (a + 1) (a + 2) n else if W a ≠ -1 ∧ W a = W b then (if (n : Int) = i then ((10 * a + b : Nat) : Int) else mtF W m i k a (b + 1) (n + 1)) else mtF W m i k a (b + 1) n
theorem mtF_neg {W : Nat → Int} {m : Nat} {i : Int} (h : i < -1) : ∀ k a b n, mtF W m i k a b n = -1
  | 0, _, _, _ => rfl
  | k + 1, a, b, n => by
    rw [mtF]
    split
    · rw [if_neg (by omega)]
    · split
      · exact mtF_neg h k _ _ _
      · split
        · rw [if_neg (by omega)]
          exact mtF_neg h k _ _ _
        · exact mtF_neg h k _ _ _
theorem whV_rg {κ : Nat → Nat} {cs : List pC} {p : Nat} (hw : wH κ) (hp : p < 3) : -1 ≤ whV κ cs p 0 ∧ whV κ cs p 0 < 25 := by
  have h := thn_lt (cs := cs) hw hp
  unfold whV
  split
  · rw [if_pos rfl]
    generalize thn κ cs p = T at h
    omega
  · omega
theorem c_x_meet {X : mm_X} {d : Nat} {f : Nat → Int32} {fl : Nat → Int64} {g : Nat → Nat → Int32} {gl : Nat → Nat → Int64} {hh : Nat → Nat → Option Nat} {v : Nat → Value} {tx : mm_W} {P : Option Value → mm_W → Prop} {κ : Nat → Nat} {cs : List pC} {i : Int} (hwS : wS κ) (hwH : wH κ) (hwL : wL κ) (hwT : wT κ) (hwW : wW κ) (hxS : xS (f 64) (g 2) (g 3) (g 4) κ) (hxH : xH (f 68) (g 5) κ) (hxL : xL (f 70) (f 71) κ) (hxW : xW (f 74) (hh 7) (f 76) tx κ) (hxT : xT (g 8) κ) (hok : csOK cs) (hF : (κ 59 = 0 ∧ cs = []) ∨ ∃ t o, κ 59 = t + 1 ∧ t < κ 58 ∧ hh 7 t = some o ∧ lwX tx o cs) (hi : -2147483648 ≤ i ∧ i < 2147483648)
    (h : ∀ (s1 s2 s3 : Int32) (A B C D : Nat → Int32) (st : Nat → Int64) (L : Value), P (some (.int (iI (mtF (fun p => whV κ cs p 0) (κ 56) i 30 0 1 0)))) (Wd (va_up (va_up (va_up f 2437 s1) 2438 s2) 2440 s3) fl (va_up (va_up (va_up (va_up g 41 A) 42 B) 43 C) 44 D) (va_up gl 40 st) hh (va_up v 2439 L) tx)) : WP X (d + 7) 82 (0, [some (.ref 0), some (.int (iI i)), none, none, none, none], [], Wd f fl g gl hh v tx) P := by
  have b56 := hwH.1
  have w68 : ∀ s1 s2 s3 : Int32, (va_up (va_up (va_up f 2437 s1) 2438 s2) 2440 s3) 68 = iI (κ 56) := fun _ _ _ => by rw [va_ne (by decide), va_ne (by decide), va_ne (by decide)]; exact hxH.1
  -- at the inner loop's head; at the outer one's
  have key : ∀ k, (∀ a b n : Nat, a < κ 56 → b ≤ 4 → 5 * (4 - a) + 4 - b < k → n + k ≤ 60 → mtF (fun p => whV κ cs p 0) (κ 56) i k a b n = mtF (fun p => whV κ cs p 0) (κ 56) i 30 0 1 0 → ∀ (s1 s2 s3 : Int32) (A B C D : Nat → Int32) (st : Nat → Int64) (L : Value), WP X (d + 7) 82 (20, [some (.ref 0), some (.int (iI i)), some (.int (iI n)), some (.int (iI a)), some (.int (iI b)), none], [], (Wd (va_up (va_up (va_up f 2437 s1) 2438 s2) 2440 s3) fl (va_up (va_up (va_up (va_up g 41 A) 42 B) 43 C) 44 D) (va_up gl 40 st) hh (va_up v 2439 L) tx)) P) ∧ (∀ a n : Nat, a ≤ 3 → 5 * (4 - a) + 4 - (a + 1) < k → n + k ≤ 60 → mtF (fun p => whV κ cs p 0) (κ 56) i k a (a + 1) n = mtF (fun p => whV κ cs p 0) (κ 56) i 30 0 1 0 → ∀ (s1 s2 s3 : Int32) (A B C D : Nat → Int32) (st : Nat → Int64) (L : Value), WP X (d + 7) 82 (4, [some (.ref 0), some (.int (iI i)), some (.int (iI n)), some (.int (iI a)), none, none], [], (Wd (va_up (va_up (va_up f 2437 s1) 2438 s2) 2440 s3) fl (va_up (va_up (va_up (va_up g 41 A) 42 B) 43 C) 44 D) (va_up gl 40 st) hh (va_up v 2439 L) tx)) P) := by
    intro k
    induction k with
    | zero => exact ⟨fun a b n _ _ h => by omega, fun a n _ h => by omega⟩
    | succ k ih =>
      have one : ∀ a b n : Nat, a < κ 56 → b ≤ 4 → 5 * (4 - a) + 4 - b < k + 1 → n + (k + 1) ≤ 60 → mtF (fun p => whV κ cs p 0) (κ 56) i (k + 1) a b n = mtF (fun p => whV κ cs p 0) (κ 56) i 30 0 1 0 → ∀ (s1 s2 s3 : Int32) (A B C D : Nat → Int32) (st : Nat → Int64) (L : Value), WP X (d + 7) 82 (20, [some (.ref 0), some (.int (iI i)), some (.int (iI n)), some (.int (iI a)), some (.int (iI b)), none], [], (Wd (va_up (va_up (va_up f 2437 s1) 2438 s2) 2440 s3) fl (va_up (va_up (va_up (va_up g 41 A) 42 B) 43 C) 44 D) (va_up gl 40 st) hh (va_up v 2439 L) tx)) P := by
        intro a b n ha hb hk hn he s1 s2 s3 A B C D st L
        rw [mtF, if_neg (by omega)] at he
        refine b_x_meetings_20 (h := ?_) ..
        rw [w68]
        by_cases hb2 : κ 56 ≤ b
        · rw [if_pos hb2] at he
          refine ⟨fun _ => ?_, fun c => absurd (by simp (disch := omega) only [z_lit, z_litl, z_neg, z_negl, z_add, z_sub, z_mul, z_addl, z_subl, z_mull, z_cc, z_cl, z_cr, z_cm, z_cml, z_cmr, z_lt, z_le, z_eq, z_ltl, z_lel, z_eql, z_nat, z_i2l, z_l2i, z_div, z_sh, Int.toNat_natCast, z_ts, z_tsl]; omega) c⟩
          rw [show iI (a : Int) + (1 : Int32) = iI ((a + 1 : Nat) : Int) by simp (disch := omega) only [z_lit, z_litl, z_neg, z_negl, z_add, z_sub, z_mul, z_addl, z_subl, z_mull, z_cc, z_cl, z_cr, z_cm, z_cml, z_cmr, z_lt, z_le, z_eq, z_ltl, z_lel, z_eql, z_nat, z_i2l, z_l2i, z_div, z_sh, Int.toNat_natCast, z_ts, z_tsl]]
          exact ih.2 (a + 1) n (by omega) (by omega) (by omega) he _ _ _ _ _ _ _ _ _
        · rw [if_neg hb2] at he
          refine ⟨fun c => by simp (disch := omega) only [z_lit, z_litl, z_neg, z_negl, z_add, z_sub, z_mul, z_addl, z_subl, z_mull, z_cc, z_cl, z_cr, z_cm, z_cml, z_cmr, z_lt, z_le, z_eq, z_ltl, z_lel, z_eql, z_nat, z_i2l, z_l2i, z_div, z_sh, Int.toNat_natCast, z_ts, z_tsl] at c; omega, fun _ => ?_⟩
          have ra := whV_rg (cs := cs) hwH (p := a) (by omega)
          have rb := whV_rg (cs := cs) hwH (p := b) (by omega)
          have next : ¬ (whV κ cs a 0 ≠ -1 ∧ whV κ cs a 0 = whV κ cs b 0) → ∀ (s1 s2 s3 : Int32) (A B C D : Nat → Int32) (st : Nat → Int64) (L : Value), WP X (d + 7) 82 (20, [some (.ref 0), some (.int (iI i)), some (.int (iI n)), some (.int (iI a)), some (.int (iI (b : Int) + (1 : Int32))), none], [], (Wd (va_up (va_up (va_up f 2437 s1) 2438 s2) 2440 s3) fl (va_up (va_up (va_up (va_up g 41 A) 42 B) 43 C) 44 D) (va_up gl 40 st) hh (va_up v 2439 L) tx)) P := by
            intro hc s1 s2 s3 A B C D st L
            rw [if_neg hc] at he
            rw [show iI (b : Int) + (1 : Int32) = iI ((b + 1 : Nat) : Int) by simp (disch := omega) only [z_lit, z_litl, z_neg, z_negl, z_add, z_sub, z_mul, z_addl, z_subl, z_mull, z_cc, z_cl, z_cr, z_cm, z_cml, z_cmr, z_lt, z_le, z_eq, z_ltl, z_lel, z_eql, z_nat, z_i2l, z_l2i, z_div, z_sh, Int.toNat_natCast, z_ts, z_tsl]]
            exact ih.1 a (b + 1) n ha (by omega) (by omega) (by omega) he _ _ _ _ _ _ _ _ _
          refine c_x_where (κ := κ) (cs := cs) (p := a) (y := 0) hwS hwH hwL hwT hwW (by exact hxS) (by exact hxH) (by exact hxL) (by exact hxW) (by exact hxT) hok hF ha (by omega) fun n1 m1 t1 A1 B1 C1 D1 st1 L1 => ?_
          refine b_x_meetings_38 (h := ?_) ..
          simp (disch := decide) only [va_cm, va_tw]
          refine ⟨fun c => ?_, fun c => ?_⟩
          · have c : iI (whV κ cs a 0) = iI (-1) := c
            rw [z_eq (by omega) (by omega)] at c
            exact next (fun h => h.1 c) _ _ _ _ _ _ _ _ _
          · have c : ¬ iI (whV κ cs a 0) = iI (-1) := c
            rw [z_eq (by omega) (by omega)] at c
            refine c_x_where (κ := κ) (cs := cs) (p := b) (y := 0) hwS hwH hwL hwT hwW (by exact hxS) (by exact hxH) (by exact hxL) (by exact hxW) (by exact hxT) hok hF (by omega) (by omega) fun n2 m2 t2 A2 B2 C2 D2 st2 L2 => ?_
            refine b_x_meetings_55 (h := ?_) ..
            simp (disch := decide) only [va_cm, va_tw]
            rw [z_eq (by omega) (by omega)]
            refine ⟨fun c2 => next (fun h => c2 h.2) _ _ _ _ _ _ _ _ _, fun c2 => ?_⟩
            rw [if_pos ⟨c, c2⟩] at he
            rw [z_eq (by omega) (by omega)]
            refine ⟨fun c3 => ?_, fun c3 => ?_⟩
            · rw [if_neg c3] at he
              rw [show iI (b : Int) + (1 : Int32) = iI ((b + 1 : Nat) : Int) by simp (disch := omega) only [z_lit, z_litl, z_neg, z_negl, z_add, z_sub, z_mul, z_addl, z_subl, z_mull, z_cc, z_cl, z_cr, z_cm, z_cml, z_cmr, z_lt, z_le, z_eq, z_ltl, z_lel, z_eql, z_nat, z_i2l, z_l2i, z_div, z_sh, Int.toNat_natCast, z_ts, z_tsl], show iI (n : Int) + (1 : Int32) = iI ((n + 1 : Nat) : Int) by simp (disch := omega) only [z_lit, z_litl, z_neg, z_negl, z_add, z_sub, z_mul, z_addl, z_subl, z_mull, z_cc, z_cl, z_cr, z_cm, z_cml, z_cmr, z_lt, z_le, z_eq, z_ltl, z_lel, z_eql, z_nat, z_i2l, z_l2i, z_div, z_sh, Int.toNat_natCast, z_ts, z_tsl]]
              exact ih.1 a (b + 1) (n + 1) ha (by omega) (by omega) (by omega) he _ _ _ _ _ _ _ _ _
            · rw [if_pos c3] at he
              have := h n2 m2 t2 A2 B2 C2 D2 st2 L2
              rw [← he] at this
              rw [show ((10 : Int32) * iI (a : Int)) + iI (b : Int) = iI ((10 * a + b : Nat) : Int) by simp (disch := omega) only [z_lit, z_litl, z_neg, z_negl, z_add, z_sub, z_mul, z_addl, z_subl, z_mull, z_cc, z_cl, z_cr, z_cm, z_cml, z_cmr, z_lt, z_le, z_eq, z_ltl, z_lel, z_eql, z_nat, z_i2l, z_l2i, z_div, z_sh, Int.toNat_natCast, z_ts, z_tsl]]
              exact this
      refine ⟨one, fun a n ha hk hn he s1 s2 s3 A B C D st L => ?_⟩
      refine b_x_meetings_4 (h := ?_) ..
      rw [w68]
      refine ⟨fun c => ?_, fun c => ?_⟩
      · have c2 : κ 56 ≤ a := by simp (disch := omega) only [z_lit, z_litl, z_neg, z_negl, z_add, z_sub, z_mul, z_addl, z_subl, z_mull, z_cc, z_cl, z_cr, z_cm, z_cml, z_cmr, z_lt, z_le, z_eq, z_ltl, z_lel, z_eql, z_nat, z_i2l, z_l2i, z_div, z_sh, Int.toNat_natCast, z_ts, z_tsl] at c; omega
        rw [mtF, if_pos c2] at he
        refine ⟨fun c3 => ?_, fun c3 => ?_⟩
        · have c3 : ¬ iI i = iI (-1) := c3
          rw [z_eq (by omega) (by omega)] at c3
          have := h s1 s2 s3 A B C D st L
          rw [← he, if_neg c3] at this
          exact this
        · have c3 : iI i = iI (-1) := c3
          rw [z_eq (by omega) (by omega)] at c3
          have := h s1 s2 s3 A B C D st L
          rw [← he, if_pos c3] at this
          exact this
      · have c2 : a < κ 56 := by simp (disch := omega) only [z_lit, z_litl, z_neg, z_negl, z_add, z_sub, z_mul, z_addl, z_subl, z_mull, z_cc, z_cl, z_cr, z_cm, z_cml, z_cmr, z_lt, z_le, z_eq, z_ltl, z_lel, z_eql, z_nat, z_i2l, z_l2i, z_div, z_sh, Int.toNat_natCast, z_ts, z_tsl] at c; omega
        rw [show iI (a : Int) + (1 : Int32) = iI ((a + 1 : Nat) : Int) by simp (disch := omega) only [z_lit, z_litl, z_neg, z_negl, z_add, z_sub, z_mul, z_addl, z_subl, z_mull, z_cc, z_cl, z_cr, z_cm, z_cml, z_cmr, z_lt, z_le, z_eq, z_ltl, z_lel, z_eql, z_nat, z_i2l, z_l2i, z_div, z_sh, Int.toNat_natCast, z_ts, z_tsl]]
        exact one a (a + 1) n c2 (by omega) hk hn he _ _ _ _ _ _ _ _ _
  have := (key 30).2 0 0 (by omega) (by omega) (by omega) rfl (f 2437) (f 2438) (f 2440) (g 41) (g 42) (g 43) (g 44) (gl 40) (v 2439)
  rw [va_id (f := f) rfl, va_id (f := f) rfl, va_id (f := f) rfl, va_id (f := g) rfl, va_id (f := g) rfl, va_id (f := g) rfl, va_id (f := g) rfl, va_id (f := gl) rfl, va_id (f := v) rfl] at this
  refine b_x_meetings_0 (h := ?_) ..
  exact this
theorem c_m_meet {X : mm_X} {f : Nat → Int32} {fl : Nat → Int64} {g : Nat → Nat → Int32} {gl : Nat → Nat → Int64} {hh : Nat → Nat → Option Nat} {v : Nat → Value} {tx : mm_W} {P : Option Value → mm_W → Prop} {κ : Nat → Nat} {cs : List pC} {K : Nat} {i : Int} (hK : 64 ≤ K) (hm : ms (g 76) κ) (hwS : wS κ) (hwL : wL κ) (hwH : wH κ) (hwT : wT κ) (hB : wB κ) (hR : rfX κ (κ 59) cs) (hok : csOK cs) (hi : -2147483648 ≤ i ∧ i < 2147483648)
    (h : ∀ (x y z u : Int32) (A a l w r : Nat → Int32), P (some (.int (iI (mtF (fun p => whV κ cs p 0) (κ 56) i 30 0 1 0)))) (Wd (va_up (va_up (va_up (va_up f 4758 x) 4759 y) 4760 z) 4761 u) fl (va_up (va_up (va_up (va_up (va_up g 86 A) 87 a) 88 l) 89 w) 90 r) gl hh v tx)) : WP X (K + 16) 212 (0, [some (.ref 74), some (.int (iI i)), none, none, none], [], Wd f fl g gl hh v tx) P := by
  have b56 := hwH.1
  have e56 := hm.1 56 (by decide)
  have w76 : ∀ A a l w r : Nat → Int32, va_up (va_up (va_up (va_up (va_up g 86 A) 87 a) 88 l) 89 w) 90 r 76 = g 76 := fun _ _ _ _ _ => by rw [va_ne (by decide), va_ne (by decide), va_ne (by decide), va_ne (by decide), va_ne (by decide)]
  have key : ∀ k, (∀ p q n : Nat, p < κ 56 → q ≤ 4 → 5 * (4 - p) + 4 - q < k → n + k ≤ 60 → mtF (fun p => whV κ cs p 0) (κ 56) i k p q n = mtF (fun p => whV κ cs p 0) (κ 56) i 30 0 1 0 → ∀ (x y z u : Int32) (A a l w r : Nat → Int32), WP X (K + 16) 212 (27, [some (.ref 74), some (.int (iI i)), some (.int (iI n)), some (.int (iI p)), some (.int (iI q))], [], (Wd (va_up (va_up (va_up (va_up f 4758 x) 4759 y) 4760 z) 4761 u) fl (va_up (va_up (va_up (va_up (va_up g 86 A) 87 a) 88 l) 89 w) 90 r) gl hh v tx)) P) ∧ (∀ p n : Nat, p ≤ 3 → 5 * (4 - p) + 4 - (p + 1) < k → n + k ≤ 60 → mtF (fun p => whV κ cs p 0) (κ 56) i k p (p + 1) n = mtF (fun p => whV κ cs p 0) (κ 56) i 30 0 1 0 → ∀ (x y z u : Int32) (A a l w r : Nat → Int32), WP X (K + 16) 212 (11, [some (.ref 74), some (.int (iI i)), some (.int (iI n)), some (.int (iI p)), none], [], (Wd (va_up (va_up (va_up (va_up f 4758 x) 4759 y) 4760 z) 4761 u) fl (va_up (va_up (va_up (va_up (va_up g 86 A) 87 a) 88 l) 89 w) 90 r) gl hh v tx)) P) := by
    intro k
    induction k with
    | zero => exact ⟨fun a b n _ _ h => by omega, fun a n _ h => by omega⟩
    | succ k ih =>
      have one : ∀ p q n : Nat, p < κ 56 → q ≤ 4 → 5 * (4 - p) + 4 - q < k + 1 → n + (k + 1) ≤ 60 → mtF (fun p => whV κ cs p 0) (κ 56) i (k + 1) p q n = mtF (fun p => whV κ cs p 0) (κ 56) i 30 0 1 0 → ∀ (x y z u : Int32) (A a l w r : Nat → Int32), WP X (K + 16) 212 (27, [some (.ref 74), some (.int (iI i)), some (.int (iI n)), some (.int (iI p)), some (.int (iI q))], [], (Wd (va_up (va_up (va_up (va_up f 4758 x) 4759 y) 4760 z) 4761 u) fl (va_up (va_up (va_up (va_up (va_up g 86 A) 87 a) 88 l) 89 w) 90 r) gl hh v tx)) P := by
        intro p q n hp hq hk hn he x y z u A a l w r
        rw [mtF, if_neg (by omega)] at he
        refine b_m_meetings_27 (h := ?_) ..
        rw [w76, e56]
        by_cases hb2 : κ 56 ≤ q
        · rw [if_pos hb2] at he
          refine ⟨fun _ => ?_, fun c => absurd (by simp (disch := omega) only [z_lit, z_litl, z_neg, z_negl, z_add, z_sub, z_mul, z_addl, z_subl, z_mull, z_cc, z_cl, z_cr, z_cm, z_cml, z_cmr, z_lt, z_le, z_eq, z_ltl, z_lel, z_eql, z_nat, z_i2l, z_l2i, z_div, z_sh, Int.toNat_natCast, z_ts, z_tsl]; omega) c⟩
          rw [show iI (p : Int) + (1 : Int32) = iI ((p + 1 : Nat) : Int) by simp (disch := omega) only [z_lit, z_litl, z_neg, z_negl, z_add, z_sub, z_mul, z_addl, z_subl, z_mull, z_cc, z_cl, z_cr, z_cm, z_cml, z_cmr, z_lt, z_le, z_eq, z_ltl, z_lel, z_eql, z_nat, z_i2l, z_l2i, z_div, z_sh, Int.toNat_natCast, z_ts, z_tsl]]
          exact ih.2 (p + 1) n (by omega) (by omega) (by omega) he _ _ _ _ _ _ _ _ _
        · rw [if_neg hb2] at he
          refine ⟨fun c => by simp (disch := omega) only [z_lit, z_litl, z_neg, z_negl, z_add, z_sub, z_mul, z_addl, z_subl, z_mull, z_cc, z_cl, z_cr, z_cm, z_cml, z_cmr, z_lt, z_le, z_eq, z_ltl, z_lel, z_eql, z_nat, z_i2l, z_l2i, z_div, z_sh, Int.toNat_natCast, z_ts, z_tsl] at c; omega, fun _ => ?_⟩
          have ra := whV_rg (cs := cs) hwH (p := p) (by omega)
          have rb := whV_rg (cs := cs) hwH (p := q) (by omega)
          have next : ¬ (whV κ cs p 0 ≠ -1 ∧ whV κ cs p 0 = whV κ cs q 0) → ∀ (x y z u : Int32) (A a l w r : Nat → Int32), WP X (K + 16) 212 (27, [some (.ref 74), some (.int (iI i)), some (.int (iI n)), some (.int (iI p)), some (.int (iI (q : Int) + (1 : Int32)))], [], (Wd (va_up (va_up (va_up (va_up f 4758 x) 4759 y) 4760 z) 4761 u) fl (va_up (va_up (va_up (va_up (va_up g 86 A) 87 a) 88 l) 89 w) 90 r) gl hh v tx)) P := by
            intro hc x y z u A a l w r
            rw [if_neg hc] at he
            rw [show iI (q : Int) + (1 : Int32) = iI ((q + 1 : Nat) : Int) by simp (disch := omega) only [z_lit, z_litl, z_neg, z_negl, z_add, z_sub, z_mul, z_addl, z_subl, z_mull, z_cc, z_cl, z_cr, z_cm, z_cml, z_cmr, z_lt, z_le, z_eq, z_ltl, z_lel, z_eql, z_nat, z_i2l, z_l2i, z_div, z_sh, Int.toNat_natCast, z_ts, z_tsl]]
            exact ih.1 p (q + 1) n hp (by omega) (by omega) (by omega) he _ _ _ _ _ _ _ _ _
          refine c_m_where (κ := κ) (cs := cs) (p := p) (y := 0) hK (by exact hm) hwS hwL hwH hwT hB hR hok hp (by omega) fun x1 y1 z1 u1 A1 a1 l1 w1 r1 => ?_
          refine b_m_meetings_45 (h := ?_) ..
          simp (disch := decide) only [va_cm, va_tw]
          refine ⟨fun c => ?_, fun c => ?_⟩
          · have c : iI (whV κ cs p 0) = iI (-1) := c
            rw [z_eq (by omega) (by omega)] at c
            exact next (fun h => h.1 c) _ _ _ _ _ _ _ _ _
          · have c : ¬ iI (whV κ cs p 0) = iI (-1) := c
            rw [z_eq (by omega) (by omega)] at c
            refine c_m_where (κ := κ) (cs := cs) (p := p) (y := 0) hK (by exact hm) hwS hwL hwH hwT hB hR hok hp (by omega) fun x1 y1 z1 u1 A1 a1 l1 w1 r1 => ?_
            refine b_m_meetings_55 (h := ?_) ..
            refine c_m_where (κ := κ) (cs := cs) (p := q) (y := 0) hK (by exact hm) hwS hwL hwH hwT hB hR hok (by omega) (by omega) fun x2 y2 z2 u2 A2 a2 l2 w2 r2 => ?_
            refine b_m_meetings_62 (h := ?_) ..
            simp (disch := decide) only [va_cm, va_tw]
            rw [z_eq (by omega) (by omega)]
            refine ⟨fun c2 => ?_, fun c2 => next (fun h => c2 h.2) _ _ _ _ _ _ _ _ _⟩
            rw [if_pos ⟨c, c2⟩] at he
            rw [z_eq (by omega) (by omega)]
            refine ⟨fun c3 => ?_, fun c3 => ?_⟩
            · rw [if_neg c3] at he
              rw [show iI (q : Int) + (1 : Int32) = iI ((q + 1 : Nat) : Int) by simp (disch := omega) only [z_lit, z_litl, z_neg, z_negl, z_add, z_sub, z_mul, z_addl, z_subl, z_mull, z_cc, z_cl, z_cr, z_cm, z_cml, z_cmr, z_lt, z_le, z_eq, z_ltl, z_lel, z_eql, z_nat, z_i2l, z_l2i, z_div, z_sh, Int.toNat_natCast, z_ts, z_tsl], show iI (n : Int) + (1 : Int32) = iI ((n + 1 : Nat) : Int) by simp (disch := omega) only [z_lit, z_litl, z_neg, z_negl, z_add, z_sub, z_mul, z_addl, z_subl, z_mull, z_cc, z_cl, z_cr, z_cm, z_cml, z_cmr, z_lt, z_le, z_eq, z_ltl, z_lel, z_eql, z_nat, z_i2l, z_l2i, z_div, z_sh, Int.toNat_natCast, z_ts, z_tsl]]
              exact ih.1 p (q + 1) (n + 1) hp (by omega) (by omega) (by omega) he _ _ _ _ _ _ _ _ _
            · rw [if_pos c3] at he
              have := h x2 y2 z2 u2 A2 a2 l2 w2 r2
              rw [← he] at this
              rw [show ((10 : Int32) * iI (p : Int)) + iI (q : Int) = iI ((10 * p + q : Nat) : Int) by simp (disch := omega) only [z_lit, z_litl, z_neg, z_negl, z_add, z_sub, z_mul, z_addl, z_subl, z_mull, z_cc, z_cl, z_cr, z_cm, z_cml, z_cmr, z_lt, z_le, z_eq, z_ltl, z_lel, z_eql, z_nat, z_i2l, z_l2i, z_div, z_sh, Int.toNat_natCast, z_ts, z_tsl]]
              exact this
      refine ⟨one, fun p n hp hk hn he x y z u A a l w r => ?_⟩
      refine b_m_meetings_11 (h := ?_) ..
      rw [w76, e56]
      refine ⟨fun c => ?_, fun c => ?_⟩
      · have c2 : κ 56 ≤ p := by simp (disch := omega) only [z_lit, z_litl, z_neg, z_negl, z_add, z_sub, z_mul, z_addl, z_subl, z_mull, z_cc, z_cl, z_cr, z_cm, z_cml, z_cmr, z_lt, z_le, z_eq, z_ltl, z_lel, z_eql, z_nat, z_i2l, z_l2i, z_div, z_sh, Int.toNat_natCast, z_ts, z_tsl] at c; omega
        rw [mtF, if_pos c2] at he
        refine ⟨fun c3 => ?_, fun c3 => ?_⟩
        · have c3 : ¬ iI i = iI (-1) := c3
          rw [z_eq (by omega) (by omega)] at c3
          have := h x y z u A a l w r
          rw [← he, if_neg c3] at this
          exact this
        · have c3 : iI i = iI (-1) := c3
          rw [z_eq (by omega) (by omega)] at c3
          have := h x y z u A a l w r
          rw [← he, if_pos c3] at this
          exact this
      · have c2 : p < κ 56 := by simp (disch := omega) only [z_lit, z_litl, z_neg, z_negl, z_add, z_sub, z_mul, z_addl, z_subl, z_mull, z_cc, z_cl, z_cr, z_cm, z_cml, z_cmr, z_lt, z_le, z_eq, z_ltl, z_lel, z_eql, z_nat, z_i2l, z_l2i, z_div, z_sh, Int.toNat_natCast, z_ts, z_tsl] at c; omega
        rw [show iI (p : Int) + (1 : Int32) = iI ((p + 1 : Nat) : Int) by simp (disch := omega) only [z_lit, z_litl, z_neg, z_negl, z_add, z_sub, z_mul, z_addl, z_subl, z_mull, z_cc, z_cl, z_cr, z_cm, z_cml, z_cmr, z_lt, z_le, z_eq, z_ltl, z_lel, z_eql, z_nat, z_i2l, z_l2i, z_div, z_sh, Int.toNat_natCast, z_ts, z_tsl]]
        exact one p (p + 1) n c2 (by omega) hk hn he _ _ _ _ _ _ _ _ _
  have ids : va_up (va_up (va_up (va_up f 4758 (f 4758)) 4759 (f 4759)) 4760 (f 4760)) 4761 (f 4761) = f := by rw [va_id (f := f) rfl, va_id (f := f) rfl, va_id (f := f) rfl, va_id (f := f) rfl]
  have idg : va_up (va_up (va_up (va_up (va_up g 86 (g 86)) 87 (g 87)) 88 (g 88)) 89 (g 89)) 90 (g 90) = g := by rw [va_id (f := g) rfl, va_id (f := g) rfl, va_id (f := g) rfl, va_id (f := g) rfl, va_id (f := g) rfl]
  refine b_m_meetings_0 (h := ?_) ..
  refine ⟨fun c => ?_, fun c => ?_⟩
  · have := (key 30).2 0 0 (by omega) (by omega) (by omega) rfl (f 4758) (f 4759) (f 4760) (f 4761) (g 86) (g 87) (g 88) (g 89) (g 90)
    rw [ids, idg] at this
    exact this
  · have c : ¬ iI (-1) ≤ iI i := c
    rw [z_le (by omega) (by omega)] at c
    have := h (f 4758) (f 4759) (f 4760) (f 4761) (g 86) (g 87) (g 88) (g 89) (g 90)
    rw [ids, idg, mtF_neg (by omega)] at this
    exact this
theorem o_meetings : k_op24 k_Inv := by
  intro a0 X f fl g gl hh v tx hI
  have hI' := hI
  obtain ⟨κ, ⟨wS, wH, wL, wD, wW, wT, wB⟩, hm, ⟨xS, xH, xL, xD, xW, xT⟩, he, ht, ha, hi0, hi1, hd, hr⟩ := hI
  obtain ⟨i, hi, rfl⟩ := z_ex a0
  obtain ⟨cs, hok, hR, hF⟩ := force_X xW wW
  refine c_x_meet (d := 1992) (κ := κ) (cs := cs) wS wH wL wT wW xS xH xL xW xT hok hF hi fun s1 s2 s3 A B C D st L => ?_
  refine k_mid ?_
  exact c_m_meet (K := 1983) (κ := κ) (by omega) (by exact hm) wS wL wH wT wB hR hok hi fun _ _ _ _ _ _ _ _ _ => k_fin0 rfl (by exact hI')
