/-! the reference splits -/
/-- where word c of the reference's row begins -/
def wo : Nat → Nat
  | 0 => 0
  | c + 1 => wo c + (wds.getD c []).length + 1
theorem w80 : ∀ c, c < 24 → wo c + (wds.getD c []).length < 121 ∧ (wds.getD c []).length < 10 ∧ ∀ j, j < (wds.getD c []).length + 1 → k_g 80 (wo c + j) = if j < (wds.getD c []).length then iI ((wds.getD c []).getD j 0 : Nat) else 32 := by decide +kernel
theorem w80_b : ∀ c, c < 24 → ∀ j, j < (wds.getD c []).length → 97 ≤ (wds.getD c []).getD j 0 ∧ (wds.getD c []).getD j 0 ≤ 122 := by decide +kernel
/-- a byte of the reference's tape -/
def sb (x : Nat) : Int := if x < 128 then (x : Int) else (x : Int) - 256
theorem c_m_wordOf {X : mm_X} {d : Nat} {f : Nat → Int32} {fl : Nat → Int64} {g : Nat → Nat → Int32} {gl : Nat → Nat → Int64} {hh : Nat → Nat → Option Nat} {v : Nat → Value} {tx : mm_W} {P : Option Value → mm_W → Prop} {b : Nat → Nat} {n s l : Nat} (hn : n ≤ 400) (hb : ∀ i, b i < 256) (hx : ∀ i, i < n → g 81 i = iI (sb (b i))) (h80 : g 80 = k_g 80) (hsl : s + l ≤ n)
    (h : P (some (.int (iI (wdc (bts b s l) : Nat)))) (Wd f fl g gl hh v tx)) : WP X d 153 (0, [some (.ref 74), some (.int (iI (s : Int))), some (.int (iI ((s + l : Nat) : Int))), none, none, none, none, none], [], Wd f fl g gl hh v tx) P := by
  have i1 : ∀ i : Nat, iI (i : Int) + (1 : Int32) = iI ((i + 1 : Nat) : Int) := fun i => by rw [show (1 : Int32) = iI 1 from rfl, z_add]; rfl
  have outer : ∀ m c : Nat, c + m = 24 → fnd (bts b s l) (wds.drop c) (c + 1) = fnd (bts b s l) wds 1 → WP X d 153 (5, [some (.ref 74), some (.int (iI (s : Int))), some (.int (iI ((s + l : Nat) : Int))), some (.int (iI ((c + 1 : Nat) : Int))), some (.int (iI (wo c : Nat))), none, none, none], [], Wd f fl g gl hh v tx) P := by
    intro m
    induction m with
    | zero =>
      intro c hc hf
      have hc : c = 24 := by omega
      subst hc
      have e0 : wdc (bts b s l) = 0 := by unfold wdc; rw [← hf]; rfl
      rw [e0] at h
      refine b_m_wordOf_5 (h := ?_) ..
      exact ⟨fun _ => h, fun c => absurd (by decide) c⟩
    | succ m ih =>
      intro c hc hf
      have hc24 : c < 24 := by omega
      obtain ⟨w1, w1b, w2⟩ := w80 c hc24
      have w3 := w80_b c hc24
      have ed : wds.drop c = wds.getD c [] :: wds.drop (c + 1) := by
        rw [List.drop_eq_getElem_cons (show c < wds.length from hc24), List.getD_eq_getElem?_getD, List.getElem?_eq_getElem (show c < wds.length from hc24)]
        rfl
      have eo : wo (c + 1) = wo c + (wds.getD c []).length + 1 := rfl
      rw [ed, fnd] at hf
      have ih := ih (c + 1) (by omega)
      rw [eo] at ih
      generalize wds.getD c [] = w at w1 w1b w2 w3 hf ih
      generalize wo c = o at w1 w2 ih
      have at_ : ∀ j, j < w.length + 1 → g 80 (o + j) = if j < w.length then iI (w.getD j 0 : Nat) else 32 := fun j hj => by rw [h80]; exact w2 j hj
      have e57 : ∀ m j q : Nat, j + m = w.length → ((q = 1 ∧ w.length = l ∧ ∀ k, k < j → w.getD k 0 = b (s + k)) ∨ (q = 0 ∧ ¬ (w.length = l ∧ ∀ k, k < j → w.getD k 0 = b (s + k)))) → WP X d 153 (57, [some (.ref 74), some (.int (iI (s : Int))), some (.int (iI ((s + l : Nat) : Int))), some (.int (iI ((c + 1 : Nat) : Int))), some (.int (iI (o : Int))), some (.int (iI (w.length : Int))), some (.int (iI (q : Int))), some (.int (iI (j : Int)))], [], Wd f fl g gl hh v tx) P := by
        have skip : ¬ w = bts b s l → WP X d 153 (5, [some (.ref 74), some (.int (iI (s : Int))), some (.int (iI ((s + l : Nat) : Int))), some (.int (iI ((c + 1 + 1 : Nat) : Int))), some (.int (iI ((o + w.length + 1 : Nat) : Int))), none, none, none], [], Wd f fl g gl hh v tx) P := by
          intro hne
          rw [if_neg hne] at hf
          exact ih hf
        have en : ∀ j, (¬ (w.length = l ∧ ∀ k, k < j → w.getD k 0 = b (s + k))) → j ≤ w.length → ¬ w = bts b s l := by
          intro j hq hj e
          have e2 : w.length = l := by rw [e, bts_len]
          exact hq ⟨e2, fun k hk => by rw [e]; exact bts_at (by omega)⟩
        have e4 : iI (o : Int) + (iI (w.length : Int) + (1 : Int32)) = iI ((o + w.length + 1 : Nat) : Int) := by simp (disch := omega) only [z_lit, z_litl, z_neg, z_negl, z_add, z_sub, z_mul, z_addl, z_subl, z_mull, z_cc, z_cl, z_cr, z_cm, z_cml, z_cmr, z_lt, z_le, z_eq, z_ltl, z_lel, z_eql, z_nat, z_i2l, z_l2i, z_div, z_sh, Int.toNat_natCast, z_ts, z_tsl]; congr 1
        intro m
        induction m with
        | zero =>
          intro j q hj hq
          have hj : j = w.length := by omega
          subst hj
          refine b_m_wordOf_57 (h := ?_) ..
          rw [i1 (c + 1), e4]
          refine ⟨fun _ => ⟨fun c2 => ?_, fun c2 => ?_⟩, fun c2 => absurd (Int32.le_refl _) c2⟩
          · rcases hq with ⟨q1, -⟩ | ⟨-, q2⟩
            · rw [q1] at c2; exact absurd c2 (by decide)
            · exact skip (en _ q2 (Nat.le_refl _))
          · rcases hq with ⟨-, q2, q3⟩ | ⟨q1, -⟩
            · rw [if_pos (bts_eq q2 fun k hk => q3 k (by omega))] at hf
              have e0 : wdc (bts b s l) = c + 1 := by unfold wdc; rw [← hf]; rfl
              rw [e0] at h
              exact h
            · rw [q1] at c2; exact absurd rfl c2
        | succ m ihm =>
          intro j q hj hq
          have hjl : j < w.length := by omega
          have e80 := at_ j (by omega)
          rw [if_pos hjl] at e80
          obtain ⟨b1, b2⟩ := w3 j hjl
          refine b_m_wordOf_57 (h := ?_) ..
          rw [i1 (c + 1), e4, i1 j]
          have noN : q = 0 → WP X d 153 (5, [some (.ref 74), some (.int (iI (s : Int))), some (.int (iI ((s + l : Nat) : Int))), some (.int (iI ((c + 1 + 1 : Nat) : Int))), some (.int (iI ((o + w.length + 1 : Nat) : Int))), none, none, none], [], Wd f fl g gl hh v tx) P := by
            intro q0
            rcases hq with ⟨q1, -⟩ | ⟨-, q2⟩
            · omega
            · exact skip (en j q2 (by omega))
          refine ⟨fun c2 => by simp (disch := omega) only [z_lit, z_litl, z_neg, z_negl, z_add, z_sub, z_mul, z_addl, z_subl, z_mull, z_cc, z_cl, z_cr, z_cm, z_cml, z_cmr, z_lt, z_le, z_eq, z_ltl, z_lel, z_eql, z_nat, z_i2l, z_l2i, z_div, z_sh, Int.toNat_natCast, z_ts, z_tsl] at c2; omega, fun _ => ⟨fun c2 => ⟨fun _ => noN ?_, fun c3 => absurd c2 c3⟩, fun c2 => ?_⟩⟩
          · rcases hq with ⟨q1, -⟩ | ⟨q1, -⟩
            · rw [q1] at c2; exact absurd c2 (by decide)
            · exact q1
          · rcases hq with ⟨q1, q2, q3⟩ | ⟨q1, -⟩
            · have hbj := hb (s + j)
              have na : (iI (o : Int) + iI (j : Int)).toNatClampNeg = o + j := by simp (disch := omega) only [z_lit, z_litl, z_neg, z_negl, z_add, z_sub, z_mul, z_addl, z_subl, z_mull, z_cc, z_cl, z_cr, z_cm, z_cml, z_cmr, z_lt, z_le, z_eq, z_ltl, z_lel, z_eql, z_nat, z_i2l, z_l2i, z_div, z_sh, Int.toNat_natCast, z_ts, z_tsl]
              have nb : (iI (s : Int) + iI (j : Int)).toNatClampNeg = s + j := by simp (disch := omega) only [z_lit, z_litl, z_neg, z_negl, z_add, z_sub, z_mul, z_addl, z_subl, z_mull, z_cc, z_cl, z_cr, z_cm, z_cml, z_cmr, z_lt, z_le, z_eq, z_ltl, z_lel, z_eql, z_nat, z_i2l, z_l2i, z_div, z_sh, Int.toNat_natCast, z_ts, z_tsl]
              have hsb : -256 ≤ sb (b (s + j)) ∧ sb (b (s + j)) < 256 := by unfold sb; split <;> omega
              rw [na, nb, e80, hx (s + j) (by omega)]
              refine ⟨by simp (disch := omega) only [z_lit, z_litl, z_neg, z_negl, z_add, z_sub, z_mul, z_addl, z_subl, z_mull, z_cc, z_cl, z_cr, z_cm, z_cml, z_cmr, z_lt, z_le, z_eq, z_ltl, z_lel, z_eql, z_nat, z_i2l, z_l2i, z_div, z_sh, Int.toNat_natCast, z_ts, z_tsl]; omega, by simp (disch := omega) only [z_lit, z_litl, z_neg, z_negl, z_add, z_sub, z_mul, z_addl, z_subl, z_mull, z_cc, z_cl, z_cr, z_cm, z_cml, z_cmr, z_lt, z_le, z_eq, z_ltl, z_lel, z_eql, z_nat, z_i2l, z_l2i, z_div, z_sh, Int.toNat_natCast, z_ts, z_tsl]; omega, fun c3 => ihm (j + 1) 0 (by omega) (Or.inr ⟨rfl, fun hq => ?_⟩), fun c3 => ihm (j + 1) 1 (by omega) (Or.inl ⟨rfl, q2, fun k hk => ?_⟩)⟩
              · have := hq.2 j (by omega)
                refine c3 ?_
                rw [this]
                unfold sb
                rw [if_pos (by omega)]
              · by_cases e : k = j
                · subst e
                  rw [z_eq (by omega) (by omega)] at c3
                  unfold sb at c3
                  split at c3 <;> omega
                · exact q3 k (by omega)
            · rw [q1] at c2; exact absurd rfl c2
      have e18 : ∀ m j : Nat, j + m = w.length → WP X d 153 (18, [some (.ref 74), some (.int (iI (s : Int))), some (.int (iI ((s + l : Nat) : Int))), some (.int (iI ((c + 1 : Nat) : Int))), some (.int (iI (o : Int))), some (.int (iI (j : Int))), none, none], [], Wd f fl g gl hh v tx) P := by
        intro m
        induction m with
        | zero =>
          intro j hj
          have hj : j = w.length := by omega
          subst hj
          have e80 := at_ w.length (by omega)
          rw [if_neg (by omega)] at e80
          refine b_m_wordOf_18 (h := ?_) ..
          rw [show (iI (o : Int) + iI (w.length : Int)).toNatClampNeg = o + w.length by simp (disch := omega) only [z_lit, z_litl, z_neg, z_negl, z_add, z_sub, z_mul, z_addl, z_subl, z_mull, z_cc, z_cl, z_cr, z_cm, z_cml, z_cmr, z_lt, z_le, z_eq, z_ltl, z_lel, z_eql, z_nat, z_i2l, z_l2i, z_div, z_sh, Int.toNat_natCast, z_ts, z_tsl], e80]
          refine ⟨by simp (disch := omega) only [z_lit, z_litl, z_neg, z_negl, z_add, z_sub, z_mul, z_addl, z_subl, z_mull, z_cc, z_cl, z_cr, z_cm, z_cml, z_cmr, z_lt, z_le, z_eq, z_ltl, z_lel, z_eql, z_nat, z_i2l, z_l2i, z_div, z_sh, Int.toNat_natCast, z_ts, z_tsl]; omega, fun _ => ⟨fun c2 => e57 w.length 0 0 (by omega) (Or.inr ⟨rfl, fun hq => ?_⟩), fun c2 => e57 w.length 0 1 (by omega) (Or.inl ⟨rfl, ?_, fun k hk => absurd hk (Nat.not_lt_zero k)⟩)⟩, fun c2 => absurd rfl c2⟩
          · simp (disch := omega) only [z_lit, z_litl, z_neg, z_negl, z_add, z_sub, z_mul, z_addl, z_subl, z_mull, z_cc, z_cl, z_cr, z_cm, z_cml, z_cmr, z_lt, z_le, z_eq, z_ltl, z_lel, z_eql, z_nat, z_i2l, z_l2i, z_div, z_sh, Int.toNat_natCast, z_ts, z_tsl] at c2
            omega
          · simp (disch := omega) only [z_lit, z_litl, z_neg, z_negl, z_add, z_sub, z_mul, z_addl, z_subl, z_mull, z_cc, z_cl, z_cr, z_cm, z_cml, z_cmr, z_lt, z_le, z_eq, z_ltl, z_lel, z_eql, z_nat, z_i2l, z_l2i, z_div, z_sh, Int.toNat_natCast, z_ts, z_tsl] at c2
            omega
        | succ m ihm =>
          intro j hj
          have hjl : j < w.length := by omega
          have e80 := at_ j (by omega)
          rw [if_pos hjl] at e80
          obtain ⟨b1, b2⟩ := w3 j hjl
          refine b_m_wordOf_18 (h := ?_) ..
          rw [show (iI (o : Int) + iI (j : Int)).toNatClampNeg = o + j by simp (disch := omega) only [z_lit, z_litl, z_neg, z_negl, z_add, z_sub, z_mul, z_addl, z_subl, z_mull, z_cc, z_cl, z_cr, z_cm, z_cml, z_cmr, z_lt, z_le, z_eq, z_ltl, z_lel, z_eql, z_nat, z_i2l, z_l2i, z_div, z_sh, Int.toNat_natCast, z_ts, z_tsl], e80, i1 j]
          refine ⟨by simp (disch := omega) only [z_lit, z_litl, z_neg, z_negl, z_add, z_sub, z_mul, z_addl, z_subl, z_mull, z_cc, z_cl, z_cr, z_cm, z_cml, z_cmr, z_lt, z_le, z_eq, z_ltl, z_lel, z_eql, z_nat, z_i2l, z_l2i, z_div, z_sh, Int.toNat_natCast, z_ts, z_tsl]; omega, fun c2 => ?_, fun _ => ihm (j + 1) (by omega)⟩
          have c2 : iI (w.getD j 0 : Nat) = iI 32 := c2
          rw [z_eq (by omega) (by omega)] at c2
          omega
      refine b_m_wordOf_5 (h := ?_) ..
      refine ⟨fun c2 => by simp (disch := omega) only [z_lit, z_litl, z_neg, z_negl, z_add, z_sub, z_mul, z_addl, z_subl, z_mull, z_cc, z_cl, z_cr, z_cm, z_cml, z_cmr, z_lt, z_le, z_eq, z_ltl, z_lel, z_eql, z_nat, z_i2l, z_l2i, z_div, z_sh, Int.toNat_natCast, z_ts, z_tsl] at c2; omega, fun _ => e18 w.length 0 (by omega)⟩
  refine b_m_wordOf_0 (h := ?_) ..
  exact outer 24 0 rfl rfl
