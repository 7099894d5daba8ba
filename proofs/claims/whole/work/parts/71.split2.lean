/-! the reference splits: all tokens -/
def tc (b : Nat → Nat) (n s : Nat) : Nat := if n ≤ s then 0 else if isL (b s) = true then wdc (bts b s (tE b n s - s)) else if isD (b s) = true then 50 else 100 + b s
def tv (b : Nat → Nat) (n s : Nat) : Nat := if n ≤ s then 0 else if isL (b s) = true then 0 else if isD (b s) = true then vlF b s (tE b n s - s) else 0
theorem sb_255 : ∀ x, x < 256 → iI (sb x) &&& (255 : Int32) = iI (x : Int) := by decide +kernel
abbrev tOK (b : Nat → Nat) (n k : Nat) (a83 a84 a85 : Nat → Int32) : Prop := ∀ j, j < k → a83 j = iI (tc b n (ts b n j) : Nat) ∧ a84 j = iI (tv b n (ts b n j) : Nat) ∧ a85 j = iI (ts b n j : Nat)
theorem tOK.up {b : Nat → Nat} {n k : Nat} {a83 a84 a85 : Nat → Int32} (h : tOK b n k a83 a84 a85) {x y z : Int32} (h1 : x = iI (tc b n (ts b n k) : Nat)) (h2 : y = iI (tv b n (ts b n k) : Nat)) (h3 : z = iI (ts b n k : Nat)) : tOK b n (k + 1) (upd a83 k x) (upd a84 k y) (upd a85 k z) := by
  intro j hj
  by_cases e : j = k
  · subst e
    rw [upd_s, upd_s, upd_s]
    exact ⟨h1, h2, h3⟩
  · rw [upd_ne e, upd_ne e, upd_ne e]
    exact h j (by omega)
theorem upd_tw {f : Nat → Int32} {k : Nat} {x y : Int32} : upd (upd f k x) k y = upd f k y := by
  funext j
  by_cases e : j = k
  · rw [e, upd_s, upd_s]
  · rw [upd_ne e, upd_ne e, upd_ne e]
theorem c_m_splits {X : mm_X} {d : Nat} {f : Nat → Int32} {fl : Nat → Int64} {g : Nat → Nat → Int32} {gl : Nat → Nat → Int64} {hh : Nat → Nat → Option Nat} {v : Nat → Value} {tx : mm_W} {P : Option Value → mm_W → Prop} {b : Nat → Nat} {n : Nat} (hn : n ≤ 400) (hb : ∀ i, b i < 256) (hx : ∀ i, i < n → g 81 i = iI (sb (b i))) (h80 : g 80 = k_g 80)
    (h : ∀ (N : Nat) (a83 a84 a85 : Nat → Int32), N ≤ n → ts b n N = n → (∀ k, k < N → ts b n k < n) → tOK b n (N + 1) a83 a84 a85 → P none (Wd (va_up f 4754 (iI (N : Int))) fl (va_up (va_up (va_up g 83 a83) 84 a84) 85 a85) gl hh v tx)) : WP X (d + 1) 154 (0, [some (.ref 74), some (.int (iI (n : Int))), none, none, none, none], [], Wd f fl g gl hh v tx) P := by
  have i1 : ∀ i : Nat, iI (i : Int) + (1 : Int32) = iI ((i + 1 : Nat) : Int) := fun i => by rw [show (1 : Int32) = iI 1 from rfl, z_add]; rfl
  have main : ∀ (m e : Nat), n - e ≤ m → e ≤ n → ∀ (k : Nat) (a83 a84 a85 : Nat → Int32), tS b n e = ts b n k → k ≤ e → (∀ j, j < k → ts b n j < n) → tOK b n k a83 a84 a85 → WP X (d + 1) 154 (7, [some (.ref 74), some (.int (iI (n : Int))), some (.int (iI (e : Int))), none, none, none], [], Wd (va_up f 4754 (iI (k : Int))) fl (va_up (va_up (va_up g 83 a83) 84 a84) 85 a85) gl hh v tx) P := by
    intro m
    induction m with
    | zero =>
      intro e h1 h2 k a83 a84 a85 h3 h4 h5 h6
      have h1 : e = n := by omega
      subst h1
      have e1 : ts b e k = e := by rw [← h3]; exact run_n (Or.inl (Nat.le_refl _))
      have hP := h k (upd a83 k 0) (upd a84 k 0) (upd a85 k (iI (e : Int))) h4 e1 h5 (h6.up (by rw [e1, tc, if_pos (Nat.le_refl _)]; rfl) (by rw [e1, tv, if_pos (Nat.le_refl _)]; rfl) (by rw [e1]))
      refine b_m_splits_7 (h := ?_) ..
      simp (disch := decide) only [va_ne, va_s, va_cm, va_tw]
      rw [show (iI (k : Int)).toNatClampNeg = k by rw [z_nat (by omega)]; omega]
      exact ⟨fun _ => ⟨by simp (disch := omega) only [z_lit, z_litl, z_neg, z_negl, z_add, z_sub, z_mul, z_addl, z_subl, z_mull, z_cc, z_cl, z_cr, z_cm, z_cml, z_cmr, z_lt, z_le, z_eq, z_ltl, z_lel, z_eql, z_nat, z_i2l, z_l2i, z_div, z_sh, Int.toNat_natCast, z_ts, z_tsl]; omega, by simp (disch := omega) only [z_lit, z_litl, z_neg, z_negl, z_add, z_sub, z_mul, z_addl, z_subl, z_mull, z_cc, z_cl, z_cr, z_cm, z_cml, z_cmr, z_lt, z_le, z_eq, z_ltl, z_lel, z_eql, z_nat, z_i2l, z_l2i, z_div, z_sh, Int.toNat_natCast, z_ts, z_tsl]; omega, by simp (disch := omega) only [z_lit, z_litl, z_neg, z_negl, z_add, z_sub, z_mul, z_addl, z_subl, z_mull, z_cc, z_cl, z_cr, z_cm, z_cml, z_cmr, z_lt, z_le, z_eq, z_ltl, z_lel, z_eql, z_nat, z_i2l, z_l2i, z_div, z_sh, Int.toNat_natCast, z_ts, z_tsl]; omega, hP⟩, fun c => absurd (Int32.le_refl _) c⟩
    | succ m ih =>
      intro e h1 h2 k a83 a84 a85 h3 h4 h5 h6
      by_cases en : n ≤ e
      · exact ih e (by omega) h2 k a83 a84 a85 h3 h4 h5 h6
      have hbe := hb e
      have g81 : (va_up (va_up (va_up g 83 a83) 84 a84) 85 a85) 81 = g 81 := by rw [va_ne (by decide), va_ne (by decide), va_ne (by decide)]
      have hsb : (b e < 128 ∧ sb (b e) = b e) ∨ (128 ≤ b e ∧ sb (b e) = (b e : Int) - 256) := by unfold sb; split <;> omega
      by_cases c32 : b e = 32
      · refine b_m_splits_7 (h := ?_) ..
        rw [g81]
        simp (disch := omega) only [z_lit, z_litl, z_neg, z_negl, z_add, z_sub, z_mul, z_addl, z_subl, z_mull, z_cc, z_cl, z_cr, z_cm, z_cml, z_cmr, z_lt, z_le, z_eq, z_ltl, z_lel, z_eql, z_nat, z_i2l, z_l2i, z_div, z_sh, Int.toNat_natCast, z_ts, z_tsl, hx e (by omega)]
        refine ⟨fun c => by omega, fun _ => ⟨by omega, fun c => by omega, fun _ => ?_⟩⟩
        exact ih (e + 1) (by omega) (by omega) k a83 a84 a85 (by rw [← h3]; unfold tS; rw [run_y (i := e) (by omega) (isB_t.mpr c32)]) (by omega) h5 h6
      · have es : ts b n k = e := by rw [← h3]; exact run_n (Or.inr (isB_f.mpr c32))
        obtain ⟨q1, q2⟩ := tE_ok (b := b) (show e < n by omega)
        have eL := tE b n e
        -- behind the token
        have done : ∀ (c83 c84 c85 : Nat → Int32), tOK b n (k + 1) c83 c84 c85 → WP X (d + 1) 154 (7, [some (.ref 74), some (.int (iI (n : Int))), some (.int (iI (tE b n e : Nat))), none, none, none], [], Wd (va_up f 4754 (iI ((k + 1 : Nat) : Int))) fl (va_up (va_up (va_up g 83 c83) 84 c84) 85 c85) gl hh v tx) P := fun c83 c84 c85 hc => ih (tE b n e) (by omega) q2 (k + 1) c83 c84 c85 (by rw [ts, es]) (by omega) (fun j hj => by
          by_cases e2 : j = k
          · rw [e2, es]; omega
          · exact h5 j (by omega)) hc
        by_cases cl : isL (b e) = true
        · have cl2 := isL_t.mp cl
          have eE : run b isL n (e + 1) = tE b n e := by unfold tE; rw [if_neg en, if_pos cl]
          have at68 : WP X (d + 1) 154 (68, [some (.ref 74), some (.int (iI (n : Int))), some (.int (iI (e : Int))), some (.int (iI (b e : Int))), some (.int (iI (tE b n e : Nat))), none], [], Wd (va_up f 4754 (iI (k : Int))) fl (va_up (va_up (va_up g 83 a83) 84 a84) 85 a85) gl hh v tx) P := by
            have at100 : WP X (d + 1) 154 (100, [some (.ref 74), some (.int (iI (n : Int))), some (.int (iI (e : Int))), some (.int (iI (b e : Int))), some (.int (iI (tE b n e : Nat))), none], [], Wd (va_up f 4754 (iI (k : Int))) fl (va_up (va_up (va_up g 83 a83) 84 a84) 85 a85) gl hh v tx) P := by
              refine b_m_splits_100 (h := ?_) ..
              simp (disch := decide) only [va_ne, va_s, va_cm, va_tw]
              rw [show (iI (k : Int)).toNatClampNeg = k by rw [z_nat (by omega)]; omega]
              refine ⟨by simp (disch := omega) only [z_lit, z_litl, z_neg, z_negl, z_add, z_sub, z_mul, z_addl, z_subl, z_mull, z_cc, z_cl, z_cr, z_cm, z_cml, z_cmr, z_lt, z_le, z_eq, z_ltl, z_lel, z_eql, z_nat, z_i2l, z_l2i, z_div, z_sh, Int.toNat_natCast, z_ts, z_tsl]; omega, by simp (disch := omega) only [z_lit, z_litl, z_neg, z_negl, z_add, z_sub, z_mul, z_addl, z_subl, z_mull, z_cc, z_cl, z_cr, z_cm, z_cml, z_cmr, z_lt, z_le, z_eq, z_ltl, z_lel, z_eql, z_nat, z_i2l, z_l2i, z_div, z_sh, Int.toNat_natCast, z_ts, z_tsl]; omega, fun c => by simp (disch := omega) only [z_lit, z_litl, z_neg, z_negl, z_add, z_sub, z_mul, z_addl, z_subl, z_mull, z_cc, z_cl, z_cr, z_cm, z_cml, z_cmr, z_lt, z_le, z_eq, z_ltl, z_lel, z_eql, z_nat, z_i2l, z_l2i, z_div, z_sh, Int.toNat_natCast, z_ts, z_tsl] at c; omega, fun _ => ⟨fun c => by simp (disch := omega) only [z_lit, z_litl, z_neg, z_negl, z_add, z_sub, z_mul, z_addl, z_subl, z_mull, z_cc, z_cl, z_cr, z_cm, z_cml, z_cmr, z_lt, z_le, z_eq, z_ltl, z_lel, z_eql, z_nat, z_i2l, z_l2i, z_div, z_sh, Int.toNat_natCast, z_ts, z_tsl] at c; omega, fun _ => ?_⟩⟩
              rw [show tE b n e = e + (tE b n e - e) by omega]
              refine c_m_wordOf (b := b) (n := n) (s := e) (l := tE b n e - e) hn hb (by rw [va_ne (by decide), va_ne (by decide), va_ne (by decide)]; exact hx) (by rw [va_ne (by decide), va_ne (by decide), va_ne (by decide)]; exact h80) (by omega) ?_
              rw [show e + (tE b n e - e) = tE b n e by omega]
              refine b_m_splits_142 (h := ?_) ..
              simp (disch := decide) only [va_ne, va_s, va_cm, va_tw]
              rw [show (iI (k : Int)).toNatClampNeg = k by rw [z_nat (by omega)]; omega]
              refine ⟨by simp (disch := omega) only [z_lit, z_litl, z_neg, z_negl, z_add, z_sub, z_mul, z_addl, z_subl, z_mull, z_cc, z_cl, z_cr, z_cm, z_cml, z_cmr, z_lt, z_le, z_eq, z_ltl, z_lel, z_eql, z_nat, z_i2l, z_l2i, z_div, z_sh, Int.toNat_natCast, z_ts, z_tsl]; omega, ?_⟩
              have hd := done (upd a83 k (iI (wdc (bts b e (tE b n e - e)) : Nat))) (upd a84 k 0) (upd a85 k (iI (e : Int))) (h6.up (by rw [es, tc, if_neg en, if_pos cl]) (by rw [es, tv, if_neg en, if_pos cl]; rfl) (by rw [es]))
              refine b_m_splits_169 (h := ?_) ..
              simp (disch := decide) only [va_ne, va_s, va_cm, va_tw]
              rw [i1]
              exact ⟨fun c => hd, fun _ => ⟨fun c => hd, fun _ => ⟨fun _ => hd, fun c => by simp (disch := omega) only [z_lit, z_litl, z_neg, z_negl, z_add, z_sub, z_mul, z_addl, z_subl, z_mull, z_cc, z_cl, z_cr, z_cm, z_cml, z_cmr, z_lt, z_le, z_eq, z_ltl, z_lel, z_eql, z_nat, z_i2l, z_l2i, z_div, z_sh, Int.toNat_natCast, z_ts, z_tsl] at c; omega⟩⟩⟩
            refine b_m_splits_68 (h := ?_) ..
            exact ⟨fun c => at100, fun _ => ⟨fun _ => at100, fun c => by simp (disch := omega) only [z_lit, z_litl, z_neg, z_negl, z_add, z_sub, z_mul, z_addl, z_subl, z_mull, z_cc, z_cl, z_cr, z_cm, z_cml, z_cmr, z_lt, z_le, z_eq, z_ltl, z_lel, z_eql, z_nat, z_i2l, z_l2i, z_div, z_sh, Int.toNat_natCast, z_ts, z_tsl] at c; omega⟩⟩
          have loop : ∀ (m i : Nat), n - i = m → i ≤ n → run b isL n i = tE b n e → WP X (d + 1) 154 (43, [some (.ref 74), some (.int (iI (n : Int))), some (.int (iI (e : Int))), some (.int (iI (b e : Int))), some (.int (iI (i : Int))), none], [], Wd (va_up f 4754 (iI (k : Int))) fl (va_up (va_up (va_up g 83 a83) 84 a84) 85 a85) gl hh v tx) P := by
            intro m
            induction m with
            | zero =>
              intro i g1 g2 g3
              rw [run_n (Or.inl (by omega))] at g3
              rw [g3]
              refine b_m_splits_43 (h := ?_) ..
              exact ⟨fun _ => at68, fun c => by simp (disch := omega) only [z_lit, z_litl, z_neg, z_negl, z_add, z_sub, z_mul, z_addl, z_subl, z_mull, z_cc, z_cl, z_cr, z_cm, z_cml, z_cmr, z_lt, z_le, z_eq, z_ltl, z_lel, z_eql, z_nat, z_i2l, z_l2i, z_div, z_sh, Int.toNat_natCast, z_ts, z_tsl] at c; omega⟩
            | succ m ihm =>
              intro i g1 g2 g3
              have hbi := hb i
              have hsi : (b i < 128 ∧ sb (b i) = b i) ∨ (128 ≤ b i ∧ sb (b i) = (b i : Int) - 256) := by unfold sb; split <;> omega
              refine b_m_splits_43 (h := ?_) ..
              rw [g81]
              simp (disch := omega) only [z_lit, z_litl, z_neg, z_negl, z_add, z_sub, z_mul, z_addl, z_subl, z_mull, z_cc, z_cl, z_cr, z_cm, z_cml, z_cmr, z_lt, z_le, z_eq, z_ltl, z_lel, z_eql, z_nat, z_i2l, z_l2i, z_div, z_sh, Int.toNat_natCast, z_ts, z_tsl, hx i (by omega)]
              by_cases c : isL (b i) = true
              · have c2 := isL_t.mp c
                refine ⟨fun c => by omega, fun _ => ⟨by omega, fun c => by omega, fun _ => ⟨fun c => by omega, fun _ => ?_⟩⟩⟩
                exact ihm (i + 1) (by omega) (by omega) (by rw [← g3, run_y (i := i) (by omega) c])
              · have c := eq_false_of_ne_true c
                have c2 := isL_f.mp c
                rw [run_n (Or.inr c)] at g3
                rw [← g3] at at68
                exact ⟨fun c => by omega, fun _ => ⟨by omega, fun _ => at68, fun _ => ⟨fun _ => at68, fun c => by omega⟩⟩⟩
          refine b_m_splits_7 (h := ?_) ..
          rw [g81]
          simp (disch := omega) only [z_lit, z_litl, z_neg, z_negl, z_add, z_sub, z_mul, z_addl, z_subl, z_mull, z_cc, z_cl, z_cr, z_cm, z_cml, z_cmr, z_lt, z_le, z_eq, z_ltl, z_lel, z_eql, z_nat, z_i2l, z_l2i, z_div, z_sh, Int.toNat_natCast, z_ts, z_tsl, hx e (by omega)]
          refine ⟨fun c => by omega, fun _ => ⟨by omega, fun _ => ⟨fun c => by omega, fun _ => ⟨fun c => by omega, fun _ => ?_⟩⟩, fun c => by omega⟩⟩
          rw [show sb (b e) = (b e : Int) by omega]
          exact loop _ (e + 1) rfl (by omega) eE
        · have cl := eq_false_of_ne_true cl
          have cl2 := isL_f.mp cl
          have nl : ¬ isL (b e) = true := by rw [cl]; exact Bool.false_ne_true
          have at68 : WP X (d + 1) 154 (68, [some (.ref 74), some (.int (iI (n : Int))), some (.int (iI (e : Int))), some (.int (iI (sb (b e)))), some (.int (iI ((e + 1 : Nat) : Int))), none], [], Wd (va_up f 4754 (iI (k : Int))) fl (va_up (va_up (va_up g 83 a83) 84 a84) 85 a85) gl hh v tx) P := by
            by_cases cd : isD (b e) = true
            · have cd2 := isD_t.mp cd
              have eE : run b isD n (e + 1) = tE b n e := by unfold tE; rw [if_neg en, if_neg nl, if_pos cd]
              have esb : sb (b e) = (b e : Int) := by omega
              rw [esb]
              have rd := run_ok (b := b) (q := isD) (n := n) _ (e + 1) rfl (by omega)
              have alld : ∀ i, e ≤ i → i < tE b n e → 48 ≤ b i ∧ b i ≤ 57 := by
                intro i hi hi2
                by_cases e2 : i = e
                · rw [e2]; exact cd2
                · exact isD_t.mp (rd.2.2.1 i (by omega) (by rw [eE]; exact hi2))
              have at169 : ∀ (m j : Nat) (c84 : Nat → Int32), j + m = tE b n e - e → c84 = upd a84 k (iI (vlF b e j : Nat)) → WP X (d + 1) 154 (169, [some (.ref 74), some (.int (iI (n : Int))), none, some (.int (iI (b e : Int))), some (.int (iI (tE b n e : Nat))), some (.int (iI ((e + j : Nat) : Int)))], [], Wd (va_up f 4754 (iI (k : Int))) fl (va_up (va_up (va_up g 83 (upd a83 k (iI ((50 : Nat) : Int)))) 84 c84) 85 (upd a85 k (iI (e : Int)))) gl hh v tx) P := by
                intro m
                induction m with
                | zero =>
                  intro j c84 hj hc
                  subst hc
                  have hj : j = tE b n e - e := by omega
                  have hd := done (upd a83 k (iI ((50 : Nat) : Int))) (upd a84 k (iI (vlF b e j : Nat))) (upd a85 k (iI (e : Int))) (h6.up (by rw [es, tc, if_neg en, if_neg nl, if_pos cd]) (by rw [es, tv, if_neg en, if_neg nl, if_pos cd, hj]) (by rw [es]))
                  refine b_m_splits_169 (h := ?_) ..
                  simp (disch := decide) only [va_ne, va_s, va_cm, va_tw]
                  rw [i1]
                  exact ⟨fun c => hd, fun c => by simp (disch := omega) only [z_lit, z_litl, z_neg, z_negl, z_add, z_sub, z_mul, z_addl, z_subl, z_mull, z_cc, z_cl, z_cr, z_cm, z_cml, z_cmr, z_lt, z_le, z_eq, z_ltl, z_lel, z_eql, z_nat, z_i2l, z_l2i, z_div, z_sh, Int.toNat_natCast, z_ts, z_tsl] at c; omega⟩
                | succ m ihm =>
                  intro j c84 hj hc
                  subst hc
                  have hv := vlF_lt (s := e) hb j
                  obtain ⟨d1, d2⟩ := alld (e + j) (by omega) (by omega)
                  refine b_m_splits_169 (h := ?_) ..
                  simp (disch := decide) only [va_ne, va_s, va_cm, va_tw]
                  rw [show (iI (k : Int)).toNatClampNeg = k by rw [z_nat (by omega)]; omega, upd_s, upd_tw, upd_tw, i1 (e + j), show (iI ((e + j : Nat) : Int)).toNatClampNeg = e + j by rw [z_nat (by omega)]; omega, hx (e + j) (by omega), show sb (b (e + j)) = (b (e + j) : Int) by unfold sb; rw [if_pos (by omega)]]
                  refine ⟨fun c => by simp (disch := omega) only [z_lit, z_litl, z_neg, z_negl, z_add, z_sub, z_mul, z_addl, z_subl, z_mull, z_cc, z_cl, z_cr, z_cm, z_cml, z_cmr, z_lt, z_le, z_eq, z_ltl, z_lel, z_eql, z_nat, z_i2l, z_l2i, z_div, z_sh, Int.toNat_natCast, z_ts, z_tsl] at c; omega, fun _ => ⟨fun c => by simp (disch := omega) only [z_lit, z_litl, z_neg, z_negl, z_add, z_sub, z_mul, z_addl, z_subl, z_mull, z_cc, z_cl, z_cr, z_cm, z_cml, z_cmr, z_lt, z_le, z_eq, z_ltl, z_lel, z_eql, z_nat, z_i2l, z_l2i, z_div, z_sh, Int.toNat_natCast, z_ts, z_tsl] at c; omega, fun _ => ⟨fun c => by simp (disch := omega) only [z_lit, z_litl, z_neg, z_negl, z_add, z_sub, z_mul, z_addl, z_subl, z_mull, z_cc, z_cl, z_cr, z_cm, z_cml, z_cmr, z_lt, z_le, z_eq, z_ltl, z_lel, z_eql, z_nat, z_i2l, z_l2i, z_div, z_sh, Int.toNat_natCast, z_ts, z_tsl] at c; omega, fun _ => ⟨by simp (disch := omega) only [z_lit, z_litl, z_neg, z_negl, z_add, z_sub, z_mul, z_addl, z_subl, z_mull, z_cc, z_cl, z_cr, z_cm, z_cml, z_cmr, z_lt, z_le, z_eq, z_ltl, z_lel, z_eql, z_nat, z_i2l, z_l2i, z_div, z_sh, Int.toNat_natCast, z_ts, z_tsl]; omega, fun c => ⟨by simp (disch := omega) only [z_lit, z_litl, z_neg, z_negl, z_add, z_sub, z_mul, z_addl, z_subl, z_mull, z_cc, z_cl, z_cr, z_cm, z_cml, z_cmr, z_lt, z_le, z_eq, z_ltl, z_lel, z_eql, z_nat, z_i2l, z_l2i, z_div, z_sh, Int.toNat_natCast, z_ts, z_tsl]; omega, by simp (disch := omega) only [z_lit, z_litl, z_neg, z_negl, z_add, z_sub, z_mul, z_addl, z_subl, z_mull, z_cc, z_cl, z_cr, z_cm, z_cml, z_cmr, z_lt, z_le, z_eq, z_ltl, z_lel, z_eql, z_nat, z_i2l, z_l2i, z_div, z_sh, Int.toNat_natCast, z_ts, z_tsl]; omega, by simp (disch := omega) only [z_lit, z_litl, z_neg, z_negl, z_add, z_sub, z_mul, z_addl, z_subl, z_mull, z_cc, z_cl, z_cr, z_cm, z_cml, z_cmr, z_lt, z_le, z_eq, z_ltl, z_lel, z_eql, z_nat, z_i2l, z_l2i, z_div, z_sh, Int.toNat_natCast, z_ts, z_tsl]; omega, ?_⟩, fun c => ⟨by simp (disch := omega) only [z_lit, z_litl, z_neg, z_negl, z_add, z_sub, z_mul, z_addl, z_subl, z_mull, z_cc, z_cl, z_cr, z_cm, z_cml, z_cmr, z_lt, z_le, z_eq, z_ltl, z_lel, z_eql, z_nat, z_i2l, z_l2i, z_div, z_sh, Int.toNat_natCast, z_ts, z_tsl]; omega, by simp (disch := omega) only [z_lit, z_litl, z_neg, z_negl, z_add, z_sub, z_mul, z_addl, z_subl, z_mull, z_cc, z_cl, z_cr, z_cm, z_cml, z_cmr, z_lt, z_le, z_eq, z_ltl, z_lel, z_eql, z_nat, z_i2l, z_l2i, z_div, z_sh, Int.toNat_natCast, z_ts, z_tsl]; omega, ?_⟩⟩⟩⟩⟩
                  · refine ihm (j + 1) _ (by omega) ?_
                    simp (disch := omega) only [z_lit, z_litl, z_neg, z_negl, z_add, z_sub, z_mul, z_addl, z_subl, z_mull, z_cc, z_cl, z_cr, z_cm, z_cml, z_cmr, z_lt, z_le, z_eq, z_ltl, z_lel, z_eql, z_nat, z_i2l, z_l2i, z_div, z_sh, Int.toNat_natCast, z_ts, z_tsl] at c
                    rw [vlF, if_pos (by omega)]
                    congr 1
                    simp (disch := omega) only [z_lit, z_litl, z_neg, z_negl, z_add, z_sub, z_mul, z_addl, z_subl, z_mull, z_cc, z_cl, z_cr, z_cm, z_cml, z_cmr, z_lt, z_le, z_eq, z_ltl, z_lel, z_eql, z_nat, z_i2l, z_l2i, z_div, z_sh, Int.toNat_natCast, z_ts, z_tsl]
                    congr 1
                    omega
                  · refine ihm (j + 1) _ (by omega) ?_
                    simp (disch := omega) only [z_lit, z_litl, z_neg, z_negl, z_add, z_sub, z_mul, z_addl, z_subl, z_mull, z_cc, z_cl, z_cr, z_cm, z_cml, z_cmr, z_lt, z_le, z_eq, z_ltl, z_lel, z_eql, z_nat, z_i2l, z_l2i, z_div, z_sh, Int.toNat_natCast, z_ts, z_tsl] at c
                    rw [vlF, if_neg (by omega)]
              have at100 : WP X (d + 1) 154 (100, [some (.ref 74), some (.int (iI (n : Int))), some (.int (iI (e : Int))), some (.int (iI (b e : Int))), some (.int (iI (tE b n e : Nat))), none], [], Wd (va_up f 4754 (iI (k : Int))) fl (va_up (va_up (va_up g 83 a83) 84 a84) 85 a85) gl hh v tx) P := by
                have q := at169 (tE b n e - e) 0 (upd a84 k 0) (by omega) rfl
                refine b_m_splits_100 (h := ?_) ..
                simp (disch := decide) only [va_ne, va_s, va_cm, va_tw]
                rw [show (iI (k : Int)).toNatClampNeg = k by rw [z_nat (by omega)]; omega]
                refine ⟨by simp (disch := omega) only [z_lit, z_litl, z_neg, z_negl, z_add, z_sub, z_mul, z_addl, z_subl, z_mull, z_cc, z_cl, z_cr, z_cm, z_cml, z_cmr, z_lt, z_le, z_eq, z_ltl, z_lel, z_eql, z_nat, z_i2l, z_l2i, z_div, z_sh, Int.toNat_natCast, z_ts, z_tsl]; omega, by simp (disch := omega) only [z_lit, z_litl, z_neg, z_negl, z_add, z_sub, z_mul, z_addl, z_subl, z_mull, z_cc, z_cl, z_cr, z_cm, z_cml, z_cmr, z_lt, z_le, z_eq, z_ltl, z_lel, z_eql, z_nat, z_i2l, z_l2i, z_div, z_sh, Int.toNat_natCast, z_ts, z_tsl]; omega, fun _ => ⟨fun c => by simp (disch := omega) only [z_lit, z_litl, z_neg, z_negl, z_add, z_sub, z_mul, z_addl, z_subl, z_mull, z_cc, z_cl, z_cr, z_cm, z_cml, z_cmr, z_lt, z_le, z_eq, z_ltl, z_lel, z_eql, z_nat, z_i2l, z_l2i, z_div, z_sh, Int.toNat_natCast, z_ts, z_tsl] at c; omega, fun _ => ⟨fun c => by simp (disch := omega) only [z_lit, z_litl, z_neg, z_negl, z_add, z_sub, z_mul, z_addl, z_subl, z_mull, z_cc, z_cl, z_cr, z_cm, z_cml, z_cmr, z_lt, z_le, z_eq, z_ltl, z_lel, z_eql, z_nat, z_i2l, z_l2i, z_div, z_sh, Int.toNat_natCast, z_ts, z_tsl] at c; omega, fun _ => ⟨by simp (disch := omega) only [z_lit, z_litl, z_neg, z_negl, z_add, z_sub, z_mul, z_addl, z_subl, z_mull, z_cc, z_cl, z_cr, z_cm, z_cml, z_cmr, z_lt, z_le, z_eq, z_ltl, z_lel, z_eql, z_nat, z_i2l, z_l2i, z_div, z_sh, Int.toNat_natCast, z_ts, z_tsl]; omega, q⟩⟩⟩, fun c => by simp (disch := omega) only [z_lit, z_litl, z_neg, z_negl, z_add, z_sub, z_mul, z_addl, z_subl, z_mull, z_cc, z_cl, z_cr, z_cm, z_cml, z_cmr, z_lt, z_le, z_eq, z_ltl, z_lel, z_eql, z_nat, z_i2l, z_l2i, z_div, z_sh, Int.toNat_natCast, z_ts, z_tsl] at c; omega⟩
              have loop : ∀ (m i : Nat), n - i = m → i ≤ n → run b isD n i = tE b n e → WP X (d + 1) 154 (75, [some (.ref 74), some (.int (iI (n : Int))), some (.int (iI (e : Int))), some (.int (iI (b e : Int))), some (.int (iI (i : Int))), none], [], Wd (va_up f 4754 (iI (k : Int))) fl (va_up (va_up (va_up g 83 a83) 84 a84) 85 a85) gl hh v tx) P := by
                intro m
                induction m with
                | zero =>
                  intro i g1 g2 g3
                  rw [run_n (Or.inl (by omega))] at g3
                  rw [g3]
                  refine b_m_splits_75 (h := ?_) ..
                  exact ⟨fun _ => at100, fun c => by simp (disch := omega) only [z_lit, z_litl, z_neg, z_negl, z_add, z_sub, z_mul, z_addl, z_subl, z_mull, z_cc, z_cl, z_cr, z_cm, z_cml, z_cmr, z_lt, z_le, z_eq, z_ltl, z_lel, z_eql, z_nat, z_i2l, z_l2i, z_div, z_sh, Int.toNat_natCast, z_ts, z_tsl] at c; omega⟩
                | succ m ihm =>
                  intro i g1 g2 g3
                  have hbi := hb i
                  have hsi : (b i < 128 ∧ sb (b i) = b i) ∨ (128 ≤ b i ∧ sb (b i) = (b i : Int) - 256) := by unfold sb; split <;> omega
                  refine b_m_splits_75 (h := ?_) ..
                  rw [g81]
                  simp (disch := omega) only [z_lit, z_litl, z_neg, z_negl, z_add, z_sub, z_mul, z_addl, z_subl, z_mull, z_cc, z_cl, z_cr, z_cm, z_cml, z_cmr, z_lt, z_le, z_eq, z_ltl, z_lel, z_eql, z_nat, z_i2l, z_l2i, z_div, z_sh, Int.toNat_natCast, z_ts, z_tsl, hx i (by omega)]
                  by_cases c : isD (b i) = true
                  · have c2 := isD_t.mp c
                    refine ⟨fun c => by omega, fun _ => ⟨by omega, fun c => by omega, fun _ => ⟨fun c => by omega, fun _ => ?_⟩⟩⟩
                    exact ihm (i + 1) (by omega) (by omega) (by rw [← g3, run_y (i := i) (by omega) c])
                  · have c := eq_false_of_ne_true c
                    have c2 := isD_f.mp c
                    rw [run_n (Or.inr c)] at g3
                    rw [← g3] at at100
                    exact ⟨fun c => by omega, fun _ => ⟨by omega, fun _ => at100, fun _ => ⟨fun _ => at100, fun c => by omega⟩⟩⟩
              refine b_m_splits_68 (h := ?_) ..
              exact ⟨fun c => by simp (disch := omega) only [z_lit, z_litl, z_neg, z_negl, z_add, z_sub, z_mul, z_addl, z_subl, z_mull, z_cc, z_cl, z_cr, z_cm, z_cml, z_cmr, z_lt, z_le, z_eq, z_ltl, z_lel, z_eql, z_nat, z_i2l, z_l2i, z_div, z_sh, Int.toNat_natCast, z_ts, z_tsl] at c; omega, fun _ => ⟨fun c => by simp (disch := omega) only [z_lit, z_litl, z_neg, z_negl, z_add, z_sub, z_mul, z_addl, z_subl, z_mull, z_cc, z_cl, z_cr, z_cm, z_cml, z_cmr, z_lt, z_le, z_eq, z_ltl, z_lel, z_eql, z_nat, z_i2l, z_l2i, z_div, z_sh, Int.toNat_natCast, z_ts, z_tsl] at c; omega, fun _ => loop _ (e + 1) rfl (by omega) eE⟩⟩
            · have cd := eq_false_of_ne_true cd
              have cd2 := isD_f.mp cd
              have nd : ¬ isD (b e) = true := by rw [cd]; exact Bool.false_ne_true
              have eE : tE b n e = e + 1 := by unfold tE; rw [if_neg en, if_neg nl, if_neg nd]
              rw [eE] at done
              have hd := done (upd a83 k (iI ((100 + b e : Nat) : Int))) (upd a84 k 0) (upd a85 k (iI (e : Int))) (h6.up (by rw [es, tc, if_neg en, if_neg nl, if_neg nd]) (by rw [es, tv, if_neg en, if_neg nl, if_neg nd]; rfl) (by rw [es]))
              have e100 : (100 : Int32) + (iI (sb (b e)) &&& (255 : Int32)) = iI ((100 + b e : Nat) : Int) := by rw [sb_255 _ hbe, show (100 : Int32) = iI 100 from rfl, z_add]; rfl
              have at169 : WP X (d + 1) 154 (169, [some (.ref 74), some (.int (iI (n : Int))), none, some (.int (iI (sb (b e)))), some (.int (iI ((e + 1 : Nat) : Int))), some (.int (iI (e : Int)))], [], Wd (va_up f 4754 (iI (k : Int))) fl (va_up (va_up (va_up g 83 (upd a83 k (iI ((100 + b e : Nat) : Int)))) 84 (upd a84 k 0)) 85 (upd a85 k (iI (e : Int)))) gl hh v tx) P := by
                refine b_m_splits_169 (h := ?_) ..
                simp (disch := decide) only [va_ne, va_s, va_cm, va_tw]
                rw [i1]
                exact ⟨fun c => hd, fun _ => ⟨fun c => hd, fun c => ⟨fun _ => hd, fun c2 => by simp (disch := omega) only [z_lit, z_litl, z_neg, z_negl, z_add, z_sub, z_mul, z_addl, z_subl, z_mull, z_cc, z_cl, z_cr, z_cm, z_cml, z_cmr, z_lt, z_le, z_eq, z_ltl, z_lel, z_eql, z_nat, z_i2l, z_l2i, z_div, z_sh, Int.toNat_natCast, z_ts, z_tsl] at c; simp (disch := omega) only [z_lit, z_litl, z_neg, z_negl, z_add, z_sub, z_mul, z_addl, z_subl, z_mull, z_cc, z_cl, z_cr, z_cm, z_cml, z_cmr, z_lt, z_le, z_eq, z_ltl, z_lel, z_eql, z_nat, z_i2l, z_l2i, z_div, z_sh, Int.toNat_natCast, z_ts, z_tsl] at c2; omega⟩⟩⟩
              have at100 : WP X (d + 1) 154 (100, [some (.ref 74), some (.int (iI (n : Int))), some (.int (iI (e : Int))), some (.int (iI (sb (b e)))), some (.int (iI ((e + 1 : Nat) : Int))), none], [], Wd (va_up f 4754 (iI (k : Int))) fl (va_up (va_up (va_up g 83 a83) 84 a84) 85 a85) gl hh v tx) P := by
                refine b_m_splits_100 (h := ?_) ..
                simp (disch := decide) only [va_ne, va_s, va_cm, va_tw]
                rw [show (iI (k : Int)).toNatClampNeg = k by rw [z_nat (by omega)]; omega, e100]
                refine ⟨by simp (disch := omega) only [z_lit, z_litl, z_neg, z_negl, z_add, z_sub, z_mul, z_addl, z_subl, z_mull, z_cc, z_cl, z_cr, z_cm, z_cml, z_cmr, z_lt, z_le, z_eq, z_ltl, z_lel, z_eql, z_nat, z_i2l, z_l2i, z_div, z_sh, Int.toNat_natCast, z_ts, z_tsl]; omega, by simp (disch := omega) only [z_lit, z_litl, z_neg, z_negl, z_add, z_sub, z_mul, z_addl, z_subl, z_mull, z_cc, z_cl, z_cr, z_cm, z_cml, z_cmr, z_lt, z_le, z_eq, z_ltl, z_lel, z_eql, z_nat, z_i2l, z_l2i, z_div, z_sh, Int.toNat_natCast, z_ts, z_tsl]; omega, fun _ => ⟨fun _ => ⟨by simp (disch := omega) only [z_lit, z_litl, z_neg, z_negl, z_add, z_sub, z_mul, z_addl, z_subl, z_mull, z_cc, z_cl, z_cr, z_cm, z_cml, z_cmr, z_lt, z_le, z_eq, z_ltl, z_lel, z_eql, z_nat, z_i2l, z_l2i, z_div, z_sh, Int.toNat_natCast, z_ts, z_tsl]; omega, at169⟩, fun c => ⟨fun _ => ⟨by simp (disch := omega) only [z_lit, z_litl, z_neg, z_negl, z_add, z_sub, z_mul, z_addl, z_subl, z_mull, z_cc, z_cl, z_cr, z_cm, z_cml, z_cmr, z_lt, z_le, z_eq, z_ltl, z_lel, z_eql, z_nat, z_i2l, z_l2i, z_div, z_sh, Int.toNat_natCast, z_ts, z_tsl]; omega, at169⟩, fun c2 => by simp (disch := omega) only [z_lit, z_litl, z_neg, z_negl, z_add, z_sub, z_mul, z_addl, z_subl, z_mull, z_cc, z_cl, z_cr, z_cm, z_cml, z_cmr, z_lt, z_le, z_eq, z_ltl, z_lel, z_eql, z_nat, z_i2l, z_l2i, z_div, z_sh, Int.toNat_natCast, z_ts, z_tsl] at c; simp (disch := omega) only [z_lit, z_litl, z_neg, z_negl, z_add, z_sub, z_mul, z_addl, z_subl, z_mull, z_cc, z_cl, z_cr, z_cm, z_cml, z_cmr, z_lt, z_le, z_eq, z_ltl, z_lel, z_eql, z_nat, z_i2l, z_l2i, z_div, z_sh, Int.toNat_natCast, z_ts, z_tsl] at c2; omega⟩⟩, fun c0 => ⟨fun _ => ⟨fun _ => ⟨by simp (disch := omega) only [z_lit, z_litl, z_neg, z_negl, z_add, z_sub, z_mul, z_addl, z_subl, z_mull, z_cc, z_cl, z_cr, z_cm, z_cml, z_cmr, z_lt, z_le, z_eq, z_ltl, z_lel, z_eql, z_nat, z_i2l, z_l2i, z_div, z_sh, Int.toNat_natCast, z_ts, z_tsl]; omega, at169⟩, fun c => ⟨fun _ => ⟨by simp (disch := omega) only [z_lit, z_litl, z_neg, z_negl, z_add, z_sub, z_mul, z_addl, z_subl, z_mull, z_cc, z_cl, z_cr, z_cm, z_cml, z_cmr, z_lt, z_le, z_eq, z_ltl, z_lel, z_eql, z_nat, z_i2l, z_l2i, z_div, z_sh, Int.toNat_natCast, z_ts, z_tsl]; omega, at169⟩, fun c2 => by simp (disch := omega) only [z_lit, z_litl, z_neg, z_negl, z_add, z_sub, z_mul, z_addl, z_subl, z_mull, z_cc, z_cl, z_cr, z_cm, z_cml, z_cmr, z_lt, z_le, z_eq, z_ltl, z_lel, z_eql, z_nat, z_i2l, z_l2i, z_div, z_sh, Int.toNat_natCast, z_ts, z_tsl] at c; simp (disch := omega) only [z_lit, z_litl, z_neg, z_negl, z_add, z_sub, z_mul, z_addl, z_subl, z_mull, z_cc, z_cl, z_cr, z_cm, z_cml, z_cmr, z_lt, z_le, z_eq, z_ltl, z_lel, z_eql, z_nat, z_i2l, z_l2i, z_div, z_sh, Int.toNat_natCast, z_ts, z_tsl] at c2; omega⟩⟩, fun c2 => by simp (disch := omega) only [z_lit, z_litl, z_neg, z_negl, z_add, z_sub, z_mul, z_addl, z_subl, z_mull, z_cc, z_cl, z_cr, z_cm, z_cml, z_cmr, z_lt, z_le, z_eq, z_ltl, z_lel, z_eql, z_nat, z_i2l, z_l2i, z_div, z_sh, Int.toNat_natCast, z_ts, z_tsl] at c0; simp (disch := omega) only [z_lit, z_litl, z_neg, z_negl, z_add, z_sub, z_mul, z_addl, z_subl, z_mull, z_cc, z_cl, z_cr, z_cm, z_cml, z_cmr, z_lt, z_le, z_eq, z_ltl, z_lel, z_eql, z_nat, z_i2l, z_l2i, z_div, z_sh, Int.toNat_natCast, z_ts, z_tsl] at c2; omega⟩⟩
              refine b_m_splits_68 (h := ?_) ..
              exact ⟨fun c => at100, fun c => ⟨fun _ => at100, fun c2 => by simp (disch := omega) only [z_lit, z_litl, z_neg, z_negl, z_add, z_sub, z_mul, z_addl, z_subl, z_mull, z_cc, z_cl, z_cr, z_cm, z_cml, z_cmr, z_lt, z_le, z_eq, z_ltl, z_lel, z_eql, z_nat, z_i2l, z_l2i, z_div, z_sh, Int.toNat_natCast, z_ts, z_tsl] at c; simp (disch := omega) only [z_lit, z_litl, z_neg, z_negl, z_add, z_sub, z_mul, z_addl, z_subl, z_mull, z_cc, z_cl, z_cr, z_cm, z_cml, z_cmr, z_lt, z_le, z_eq, z_ltl, z_lel, z_eql, z_nat, z_i2l, z_l2i, z_div, z_sh, Int.toNat_natCast, z_ts, z_tsl] at c2; omega⟩⟩
          refine b_m_splits_7 (h := ?_) ..
          rw [g81]
          simp (disch := omega) only [z_lit, z_litl, z_neg, z_negl, z_add, z_sub, z_mul, z_addl, z_subl, z_mull, z_cc, z_cl, z_cr, z_cm, z_cml, z_cmr, z_lt, z_le, z_eq, z_ltl, z_lel, z_eql, z_nat, z_i2l, z_l2i, z_div, z_sh, Int.toNat_natCast, z_ts, z_tsl, hx e (by omega)]
          refine ⟨fun c => by omega, fun _ => ⟨by omega, fun _ => ⟨fun _ => at68, fun _ => ⟨fun _ => at68, fun c => by omega⟩⟩, fun c => by omega⟩⟩
  refine b_m_splits_0 (h := ?_) ..
  have := main n 0 (by omega) (by omega) 0 (g 83) (g 84) (g 85) rfl (by omega) (fun j hj => absurd hj (Nat.not_lt_zero j)) fun j hj => absurd hj (Nat.not_lt_zero j)
  rw [va_id (f := g) rfl, va_id (f := g) rfl, va_id (f := g) rfl] at this
  exact this
