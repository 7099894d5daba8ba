/-! the reference: two readings by some signs -/
/-- a row of n cloths as the reference's number, digits 1 to 4 to the base 5 -/
def k5F (c : Nat → Nat) : Nat → Nat
  | 0 => 0
  | n + 1 => 5 * k5F c n + (c n + 1)
theorem k5_cg {c c' : Nat → Nat} : ∀ {n : Nat}, (∀ i, i < n → c i = c' i) → k5F c n = k5F c' n
  | 0, _ => rfl
  | n + 1, h => by rw [k5F, k5F, k5_cg (n := n) fun i hi => h i (by omega), h n (by omega)]
theorem k5_lt {c : Nat → Nat} {n : Nat} (hn : n ≤ 4) (hc : ∀ k, k < n → c k ≤ 3) : k5F c n < 625 ∧ (n ≤ 3 → k5F c n < 125) ∧ (1 ≤ n → 1 ≤ k5F c n) := by
  have h : n = 0 ∨ n = 1 ∨ n = 2 ∨ n = 3 ∨ n = 4 := by omega
  rcases h with rfl | rfl | rfl | rfl | rfl
  · rw [k5F]; omega
  · have h0 := hc 0 (by omega)
    simp only [k5F]; omega
  · have h0 := hc 0 (by omega); have h1 := hc 1 (by omega)
    simp only [k5F]; omega
  · have h0 := hc 0 (by omega); have h1 := hc 1 (by omega); have h2 := hc 2 (by omega)
    simp only [k5F]; omega
  · have h0 := hc 0 (by omega); have h1 := hc 1 (by omega); have h2 := hc 2 (by omega); have h3 := hc 3 (by omega)
    simp only [k5F]; omega
theorem k5_inj {c c' : Nat → Nat} : ∀ {n n' : Nat}, (∀ k, k < n → c k ≤ 3) → (∀ k, k < n' → c' k ≤ 3) → k5F c n = k5F c' n' → n = n' ∧ ∀ k, k < n → c k = c' k
  | 0, 0, _, _, _ => ⟨rfl, fun k hk => absurd hk (Nat.not_lt_zero k)⟩
  | 0, n' + 1, _, _, h => by rw [k5F, k5F] at h; omega
  | n + 1, 0, _, _, h => by rw [k5F, k5F] at h; omega
  | n + 1, n' + 1, h1, h2, h => by
    have a1 := h1 n (by omega)
    have a2 := h2 n' (by omega)
    rw [k5F, k5F] at h
    obtain ⟨e, q⟩ := k5_inj (n := n) (n' := n') (fun k hk => h1 k (by omega)) (fun k hk => h2 k (by omega)) (by omega)
    subst e
    refine ⟨rfl, fun k hk => ?_⟩
    by_cases e : k = n
    · subst e; omega
    · exact q k (by omega)
theorem Kc_of5 {c c' : Nat → Nat} {n n' : Nat} (h1 : ∀ k, k < n → c k ≤ 3) (h2 : ∀ k, k < n' → c' k ≤ 3) (h : k5F c n = k5F c' n') : Kc c n = Kc c' n' := by
  obtain ⟨rfl, q⟩ := k5_inj h1 h2 h
  exact Kc_cg q
/-- what is reached is a row of cloths -/
theorem Rch.rep {κ : Nat → Nat} {kept x c : Nat} (hw : wS κ) (h : Rch (sgS κ kept) x c) : ∃ (w : Nat → Nat) (n : Nat), 1 ≤ n ∧ n ≤ 3 ∧ (∀ k, k < n → w k ≤ 3) ∧ x = Kc w n := by
  have hl : ∀ j, j < κ 55 → 1 ≤ κ (31 + j) ∧ κ (31 + j) ≤ 4 := fun j hj => ⟨(hw.2.1 j hj).1, (hw.2.1 j hj).2.1⟩
  refine h (fun x _ => ∃ (w : Nat → Nat) (n : Nat), 1 ≤ n ∧ n ≤ 3 ∧ (∀ k, k < n → w k ≤ 3) ∧ x = Kc w n) (fun a b y ha hb hy => ?_) (fun x c a y hx ha hy => ?_) fun x c a y hx ha hy => ?_
  · obtain ⟨i, hi, -, rfl⟩ := ha
    obtain ⟨j, hj, -, rfl⟩ := hb
    have l1 := hl i hi
    have l2 := hl j hj
    have d1 : ∀ k, k < κ (31 + i) → clo κ i k ≤ 3 := fun k hk => clo_le hw hi hk
    have d2 : ∀ k, k < κ (31 + j) → clo κ j k ≤ 3 := fun k hk => clo_le hw hj hk
    by_cases e : κ (31 + i) < κ (31 + j) ∧ ∀ k, k < κ (31 + i) → clo κ j k = clo κ i k
    · rw [lf_y e.1 l2.2 d1 d2 e.2] at hy
      cases hy
      exact ⟨_, _, by omega, by omega, fun k hk => d2 _ (by omega), rfl⟩
    · rw [lf_n l1.2 l2.2 d1 d2 e] at hy
      cases hy
  · obtain ⟨w, n, n1, n3, d2, rfl⟩ := hx
    obtain ⟨i, hi, -, rfl⟩ := ha
    have l1 := hl i hi
    have d1 : ∀ k, k < κ (31 + i) → clo κ i k ≤ 3 := fun k hk => clo_le hw hi hk
    by_cases e : κ (31 + i) < n ∧ ∀ k, k < κ (31 + i) → w k = clo κ i k
    · rw [lf_y e.1 (by omega) d1 d2 e.2] at hy
      cases hy
      exact ⟨_, _, by omega, by omega, fun k hk => d2 _ (by omega), rfl⟩
    · rw [lf_n l1.2 (by omega) d1 d2 e] at hy
      cases hy
  · obtain ⟨w, n, n1, n3, d2, rfl⟩ := hx
    obtain ⟨i, hi, -, rfl⟩ := ha
    have l1 := hl i hi
    have d1 : ∀ k, k < κ (31 + i) → clo κ i k ≤ 3 := fun k hk => clo_le hw hi hk
    by_cases e : n < κ (31 + i) ∧ ∀ k, k < n → clo κ i k = w k
    · rw [lf_y e.1 l1.2 d2 d1 e.2] at hy
      cases hy
      exact ⟨_, _, by omega, by omega, fun k hk => d1 _ (by omega), rfl⟩
    · rw [lf_n (by omega) l1.2 d2 d1 e] at hy
      cases hy
theorem c_longFive {X : mm_X} {d : Nat} {f : Nat → Int32} {fl : Nat → Int64} {g : Nat → Nat → Int32} {gl : Nat → Nat → Int64} {hh : Nat → Nat → Option Nat} {v : Nat → Value} {tx : mm_W} {P : Option Value → mm_W → Prop} {c : Nat → Nat} {n : Nat} (hn : n ≤ 4) (hc : ∀ k, k < n → c k ≤ 3) (h : P (some (.int (iI (n : Int)))) (Wd f fl g gl hh v tx)) : WP X d 217 (0, [some (.int (iI (k5F c n : Nat))), none, none], [], Wd f fl g gl hh v tx) P := by
  have loop : ∀ j t : Nat, t + j = n → WP X d 217 (4, [none, some (.int (iI (t : Int))), some (.int (iI (k5F c j : Nat)))], [], Wd f fl g gl hh v tx) P := by
    intro j
    induction j with
    | zero =>
      intro t ht
      have ht : t = n := by omega
      subst ht
      exact b_m_longFive_4 (h := ⟨fun _ => h, fun q => absurd (show iI ((k5F c 0 : Nat) : Int) ≤ 0 from Int32.le_refl 0) q⟩) ..
    | succ j ih =>
      intro t ht
      have hcj := hc j (by omega)
      have hk := (k5_lt (n := j + 1) (by omega) fun k hk => hc k (by omega))
      refine b_m_longFive_4 (h := ⟨fun c => by simp (disch := omega) only [z_lit, z_litl, z_neg, z_negl, z_add, z_sub, z_mul, z_addl, z_subl, z_mull, z_cc, z_cl, z_cr, z_cm, z_cml, z_cmr, z_lt, z_le, z_eq, z_ltl, z_lel, z_eql, z_nat, z_i2l, z_l2i, z_div, z_sh, Int.toNat_natCast, z_ts, z_tsl] at c; omega, fun _ => ?_⟩) ..
      rw [i1N]
      have e : iI (k5F c (j + 1) : Nat) / (5 : Int32) = iI (k5F c j : Nat) := by
        simp (disch := omega) only [z_lit, z_litl, z_neg, z_negl, z_add, z_sub, z_mul, z_addl, z_subl, z_mull, z_cc, z_cl, z_cr, z_cm, z_cml, z_cmr, z_lt, z_le, z_eq, z_ltl, z_lel, z_eql, z_nat, z_i2l, z_l2i, z_div, z_sh, Int.toNat_natCast, z_ts, z_tsl]
        congr 1
        rw [k5F]
        omega
      rw [e]
      exact ih (t + 1) (by omega)
  refine b_m_longFive_0 (h := ?_) ..
  exact loop n 0 (by omega)
theorem c_digitOf {X : mm_X} {d : Nat} {f : Nat → Int32} {fl : Nat → Int64} {g : Nat → Nat → Int32} {gl : Nat → Nat → Int64} {hh : Nat → Nat → Option Nat} {v : Nat → Value} {tx : mm_W} {P : Option Value → mm_W → Prop} {c : Nat → Nat} {n k : Nat} (hn : n ≤ 4) (hc : ∀ k, k < n → c k ≤ 3) (hk : k < n) (h : P (some (.int (iI ((c k + 1 : Nat) : Int)))) (Wd f fl g gl hh v tx)) : WP X d 218 (0, [some (.int (iI (k5F c n : Nat))), some (.int (iI (n : Int))), some (.int (iI (k : Int))), none, none], [], Wd f fl g gl hh v tx) P := by
  have loop : ∀ u i : Nat, u + k = i → i < n → WP X d 218 (7, [none, none, some (.int (iI (k : Int))), some (.int (iI (k5F c (i + 1) : Nat))), some (.int (iI (i : Int)))], [], Wd f fl g gl hh v tx) P := by
    intro u
    induction u with
    | zero =>
      intro i hi hn2
      have hi : i = k := by omega
      subst hi
      have hck := hc i hk
      have hl := k5_lt (n := i + 1) (by omega) fun k hk => hc k (by omega)
      refine b_m_digitOf_7 (h := ⟨fun _ => ?_, fun c => absurd (Int32.le_refl _) c⟩) ..
      have e : iI (k5F c (i + 1) : Nat) - (iI (k5F c (i + 1) : Nat) / (5 : Int32)) * (5 : Int32) = iI ((c i + 1 : Nat) : Int) := by
        simp (disch := omega) only [z_lit, z_litl, z_neg, z_negl, z_add, z_sub, z_mul, z_addl, z_subl, z_mull, z_cc, z_cl, z_cr, z_cm, z_cml, z_cmr, z_lt, z_le, z_eq, z_ltl, z_lel, z_eql, z_nat, z_i2l, z_l2i, z_div, z_sh, Int.toNat_natCast, z_ts, z_tsl]
        congr 1
        rw [k5F]
        omega
      rw [e]
      exact h
    | succ u ih =>
      intro i hi hn2
      have hci := hc i hn2
      have hl := k5_lt (n := i + 1) (by omega) fun k hk => hc k (by omega)
      refine b_m_digitOf_7 (h := ⟨fun c => by simp (disch := omega) only [z_lit, z_litl, z_neg, z_negl, z_add, z_sub, z_mul, z_addl, z_subl, z_mull, z_cc, z_cl, z_cr, z_cm, z_cml, z_cmr, z_lt, z_le, z_eq, z_ltl, z_lel, z_eql, z_nat, z_i2l, z_l2i, z_div, z_sh, Int.toNat_natCast, z_ts, z_tsl] at c; omega, fun _ => ?_⟩) ..
      have e : iI (k5F c (i + 1) : Nat) / (5 : Int32) = iI (k5F c i : Nat) := by
        simp (disch := omega) only [z_lit, z_litl, z_neg, z_negl, z_add, z_sub, z_mul, z_addl, z_subl, z_mull, z_cc, z_cl, z_cr, z_cm, z_cml, z_cmr, z_lt, z_le, z_eq, z_ltl, z_lel, z_eql, z_nat, z_i2l, z_l2i, z_div, z_sh, Int.toNat_natCast, z_ts, z_tsl]
        congr 1
        rw [k5F]
        omega
      have e2 : iI (i : Int) + (-1 : Int32) = iI ((i - 1 : Nat) : Int) := by
        rw [show (-1 : Int32) = iI (-1) from rfl, z_add]
        congr 1
        omega
      rw [e, e2]
      have := ih (i - 1) (by omega) (by omega)
      rw [show i - 1 + 1 = i by omega] at this
      exact this
  refine b_m_digitOf_0 (h := ?_) ..
  have e : iI (n : Int) - (1 : Int32) = iI ((n - 1 : Nat) : Int) := by
    rw [show (1 : Int32) = iI 1 from rfl, z_sub]
    congr 1
    omega
  rw [e]
  have := loop (n - 1 - k) (n - 1) (by omega) (by omega)
  rw [show n - 1 + 1 = n by omega] at this
  exact this
theorem c_without {X : mm_X} {d : Nat} {f : Nat → Int32} {fl : Nat → Int64} {g : Nat → Nat → Int32} {gl : Nat → Nat → Int64} {hh : Nat → Nat → Option Nat} {v : Nat → Value} {tx : mm_W} {P : Option Value → mm_W → Prop} {c : Nat → Nat} {n m : Nat} (hn : n ≤ 4) (hc : ∀ k, k < n → c k ≤ 3) (hm : m ≤ n) (h : P (some (.int (iI (k5F (fun k => c (m + k)) (n - m) : Nat)))) (Wd f fl g gl hh v tx)) : WP X (d + 1) 220 (0, [some (.int (iI (k5F c n : Nat))), some (.int (iI (n : Int))), some (.int (iI (m : Int))), none, none], [], Wd f fl g gl hh v tx) P := by
  have loop : ∀ u j : Nat, u + j = n - m → WP X (d + 1) 220 (5, [some (.int (iI (k5F c n : Nat))), some (.int (iI (n : Int))), none, some (.int (iI (k5F (fun k => c (m + k)) j : Nat))), some (.int (iI ((m + j : Nat) : Int)))], [], Wd f fl g gl hh v tx) P := by
    intro u
    induction u with
    | zero =>
      intro j hj
      have hj : j = n - m := by omega
      subst hj
      refine b_m_without_5 (h := ⟨fun _ => h, fun c => absurd (by simp (disch := omega) only [z_lit, z_litl, z_neg, z_negl, z_add, z_sub, z_mul, z_addl, z_subl, z_mull, z_cc, z_cl, z_cr, z_cm, z_cml, z_cmr, z_lt, z_le, z_eq, z_ltl, z_lel, z_eql, z_nat, z_i2l, z_l2i, z_div, z_sh, Int.toNat_natCast, z_ts, z_tsl]; omega) c⟩) ..
    | succ u ih =>
      intro j hj
      have hl := k5_lt (c := fun k => c (m + k)) (n := j + 1) (by omega) fun k hk => hc _ (by omega)
      refine b_m_without_5 (h := ⟨fun c => by simp (disch := omega) only [z_lit, z_litl, z_neg, z_negl, z_add, z_sub, z_mul, z_addl, z_subl, z_mull, z_cc, z_cl, z_cr, z_cm, z_cml, z_cmr, z_lt, z_le, z_eq, z_ltl, z_lel, z_eql, z_nat, z_i2l, z_l2i, z_div, z_sh, Int.toNat_natCast, z_ts, z_tsl] at c; omega, fun _ => ?_⟩) ..
      refine c_digitOf hn hc (show m + j < n by omega) ?_
      refine b_m_without_21 (h := ?_) ..
      have e : (5 : Int32) * iI (k5F (fun k => c (m + k)) j : Nat) + iI ((c (m + j) + 1 : Nat) : Int) = iI (k5F (fun k => c (m + k)) (j + 1) : Nat) := by
        simp (disch := omega) only [z_lit, z_litl, z_neg, z_negl, z_add, z_sub, z_mul, z_addl, z_subl, z_mull, z_cc, z_cl, z_cr, z_cm, z_cml, z_cmr, z_lt, z_le, z_eq, z_ltl, z_lel, z_eql, z_nat, z_i2l, z_l2i, z_div, z_sh, Int.toNat_natCast, z_ts, z_tsl]
        rfl
      rw [e, i1N]
      exact ih (j + 1) (by omega)
  refine b_m_without_0 (h := ?_) ..
  exact loop (n - m) 0 (by omega)
theorem c_restOf {X : mm_X} {d : Nat} {f : Nat → Int32} {fl : Nat → Int64} {g : Nat → Nat → Int32} {gl : Nat → Nat → Int64} {hh : Nat → Nat → Option Nat} {v : Nat → Value} {tx : mm_W} {P : Option Value → mm_W → Prop} {κ : Nat → Nat} {j m : Nat} (hm : ms (g 76) κ) (hwS : wS κ) (hj : j < κ 55) (hmj : m ≤ κ (31 + j)) (h : P (some (.int (iI (k5F (fun k => clo κ j (m + k)) (κ (31 + j) - m) : Nat)))) (Wd f fl g gl hh v tx)) : WP X (d + 1) 216 (0, [some (.ref 74), some (.int (iI (j : Int))), some (.int (iI (m : Int))), none, none], [], Wd f fl g gl hh v tx) P := by
  have b55 := hwS.1
  have l1 := (hwS.2.1 j hj).2.1
  have e31 := hm.1 (31 + j) (by omega)
  have tn : ((31 : Int32) + iI (j : Int)).toNatClampNeg = 31 + j := by simp (disch := omega) only [z_lit, z_litl, z_neg, z_negl, z_add, z_sub, z_mul, z_addl, z_subl, z_mull, z_cc, z_cl, z_cr, z_cm, z_cml, z_cmr, z_lt, z_le, z_eq, z_ltl, z_lel, z_eql, z_nat, z_i2l, z_l2i, z_div, z_sh, Int.toNat_natCast, z_ts, z_tsl]
  have ob : ¬ ((31 : Int32) + iI (j : Int) < 0 ∨ 5667 ≤ 31 + j) := by simp (disch := omega) only [z_lit, z_litl, z_neg, z_negl, z_add, z_sub, z_mul, z_addl, z_subl, z_mull, z_cc, z_cl, z_cr, z_cm, z_cml, z_cmr, z_lt, z_le, z_eq, z_ltl, z_lel, z_eql, z_nat, z_i2l, z_l2i, z_div, z_sh, Int.toNat_natCast, z_ts, z_tsl]; omega
  have loop : ∀ u i : Nat, u + i = κ (31 + j) - m → WP X (d + 1) 216 (5, [some (.ref 74), some (.int (iI (j : Int))), none, some (.int (iI (k5F (fun k => clo κ j (m + k)) i : Nat))), some (.int (iI ((m + i : Nat) : Int)))], [], Wd f fl g gl hh v tx) P := by
    intro u
    induction u with
    | zero =>
      intro i hi
      have hi : i = κ (31 + j) - m := by omega
      subst hi
      refine b_m_restOf_5 (h := ?_) ..
      rw [tn, e31]
      exact ⟨ob, fun _ => h, fun c => absurd (by simp (disch := omega) only [z_lit, z_litl, z_neg, z_negl, z_add, z_sub, z_mul, z_addl, z_subl, z_mull, z_cc, z_cl, z_cr, z_cm, z_cml, z_cmr, z_lt, z_le, z_eq, z_ltl, z_lel, z_eql, z_nat, z_i2l, z_l2i, z_div, z_sh, Int.toNat_natCast, z_ts, z_tsl]; omega) c⟩
    | succ u ih =>
      intro i hi
      have hl := k5_lt (c := fun k => clo κ j (m + k)) (n := i + 1) (by omega) fun k hk => clo_le hwS hj (by omega)
      refine b_m_restOf_5 (h := ?_) ..
      rw [tn, e31]
      refine ⟨ob, fun c => by simp (disch := omega) only [z_lit, z_litl, z_neg, z_negl, z_add, z_sub, z_mul, z_addl, z_subl, z_mull, z_cc, z_cl, z_cr, z_cm, z_cml, z_cmr, z_lt, z_le, z_eq, z_ltl, z_lel, z_eql, z_nat, z_i2l, z_l2i, z_div, z_sh, Int.toNat_natCast, z_ts, z_tsl] at c; omega, fun _ => ?_⟩
      refine c_m_clothOf hm hwS hj (show m + i < κ (31 + j) by omega) ?_
      refine b_m_restOf_29 (h := ?_) ..
      have e : (5 : Int32) * iI (k5F (fun k => clo κ j (m + k)) i : Nat) + iI (clo κ j (m + i) : Nat) + (1 : Int32) = iI (k5F (fun k => clo κ j (m + k)) (i + 1) : Nat) := by
        have hcl := clo_le hwS hj (show m + i < κ (31 + j) by omega)
        simp (disch := omega) only [z_lit, z_litl, z_neg, z_negl, z_add, z_sub, z_mul, z_addl, z_subl, z_mull, z_cc, z_cl, z_cr, z_cm, z_cml, z_cmr, z_lt, z_le, z_eq, z_ltl, z_lel, z_eql, z_nat, z_i2l, z_l2i, z_div, z_sh, Int.toNat_natCast, z_ts, z_tsl]
        rfl
      rw [e, i1N]
      exact ih (i + 1) (by omega)
  refine b_m_restOf_0 (h := ?_) ..
  exact loop (κ (31 + j) - m) 0 (by omega)
theorem c_alike {X : mm_X} {d : Nat} {f : Nat → Int32} {fl : Nat → Int64} {g : Nat → Nat → Int32} {gl : Nat → Nat → Int64} {hh : Nat → Nat → Option Nat} {v : Nat → Value} {tx : mm_W} {P : Option Value → mm_W → Prop} {κ : Nat → Nat} {c : Nat → Nat} {n j : Nat} (hm : ms (g 76) κ) (hwS : wS κ) (hj : j < κ 55) (hn : n ≤ 4) (hc : ∀ k, k < n → c k ≤ 3) (h1 : (∀ k, k < n → k < κ (31 + j) → c k = clo κ j k) → P (some (.int 1)) (Wd f fl g gl hh v tx)) (h0 : ¬ (∀ k, k < n → k < κ (31 + j) → c k = clo κ j k) → P (some (.int 0)) (Wd f fl g gl hh v tx)) : WP X (d + 1) 219 (0, [some (.ref 74), some (.int (iI (k5F c n : Nat))), some (.int (iI (j : Int))), none, none, none], [], Wd f fl g gl hh v tx) P := by
  have b55 := hwS.1
  have l1 := (hwS.2.1 j hj).2.1
  have e31 := hm.1 (31 + j) (by omega)
  have tn : ((31 : Int32) + iI (j : Int)).toNatClampNeg = 31 + j := by simp (disch := omega) only [z_lit, z_litl, z_neg, z_negl, z_add, z_sub, z_mul, z_addl, z_subl, z_mull, z_cc, z_cl, z_cr, z_cm, z_cml, z_cmr, z_lt, z_le, z_eq, z_ltl, z_lel, z_eql, z_nat, z_i2l, z_l2i, z_div, z_sh, Int.toNat_natCast, z_ts, z_tsl]
  have ob : ¬ ((31 : Int32) + iI (j : Int) < 0 ∨ 5667 ≤ 31 + j) := by simp (disch := omega) only [z_lit, z_litl, z_neg, z_negl, z_add, z_sub, z_mul, z_addl, z_subl, z_mull, z_cc, z_cl, z_cr, z_cm, z_cml, z_cmr, z_lt, z_le, z_eq, z_ltl, z_lel, z_eql, z_nat, z_i2l, z_l2i, z_div, z_sh, Int.toNat_natCast, z_ts, z_tsl]; omega
  have no : ∀ i, ¬ (∀ k, k < i → k < n → k < κ (31 + j) → c k = clo κ j k) → ¬ (∀ k, k < n → k < κ (31 + j) → c k = clo κ j k) := fun i hi h => hi fun k _ => h k
  have loop : ∀ u i : Nat, u + i = n → ∀ q : Nat, ((q = 1 ∧ ∀ k, k < i → k < n → k < κ (31 + j) → c k = clo κ j k) ∨ (q = 0 ∧ ¬ ∀ k, k < i → k < n → k < κ (31 + j) → c k = clo κ j k)) → WP X (d + 1) 219 (11, [some (.ref 74), some (.int (iI (k5F c n : Nat))), some (.int (iI (j : Int))), some (.int (iI (n : Int))), some (.int (iI (q : Int))), some (.int (iI (i : Int)))], [], Wd f fl g gl hh v tx) P := by
    intro u
    induction u with
    | zero =>
      intro i hi q hq
      have hi : i = n := by omega
      subst hi
      refine b_m_areAlike_11 (h := ⟨fun _ => ?_, fun c => absurd (Int32.le_refl _) c⟩) ..
      rcases hq with ⟨rfl, hq⟩ | ⟨rfl, hq⟩
      · exact ⟨Or.inr rfl, h1 fun k hk hk2 => hq k hk hk hk2⟩
      · exact ⟨Or.inl rfl, h0 (no _ hq)⟩
    | succ u ih =>
      intro i hi q hq
      refine b_m_areAlike_11 (h := ?_) ..
      rw [tn, e31, i1N]
      refine ⟨fun c => by simp (disch := omega) only [z_lit, z_litl, z_neg, z_negl, z_add, z_sub, z_mul, z_addl, z_subl, z_mull, z_cc, z_cl, z_cr, z_cm, z_cml, z_cmr, z_lt, z_le, z_eq, z_ltl, z_lel, z_eql, z_nat, z_i2l, z_l2i, z_div, z_sh, Int.toNat_natCast, z_ts, z_tsl] at c; omega, fun _ => ⟨ob, fun c2 => ?_, fun c2 => ⟨fun c3 => ?_, fun c3 => ?_⟩⟩⟩
      · have c2 : κ (31 + j) ≤ i := by simp (disch := omega) only [z_lit, z_litl, z_neg, z_negl, z_add, z_sub, z_mul, z_addl, z_subl, z_mull, z_cc, z_cl, z_cr, z_cm, z_cml, z_cmr, z_lt, z_le, z_eq, z_ltl, z_lel, z_eql, z_nat, z_i2l, z_l2i, z_div, z_sh, Int.toNat_natCast, z_ts, z_tsl] at c2; omega
        rcases hq with ⟨rfl, hq⟩ | ⟨rfl, hq⟩
        · exact ⟨Or.inr rfl, h1 fun k hk hk2 => hq k (by omega) hk hk2⟩
        · exact ⟨Or.inl rfl, h0 (no _ hq)⟩
      · refine ih (i + 1) (by omega) 0 (Or.inr ⟨rfl, ?_⟩)
        rcases hq with ⟨rfl, hq⟩ | ⟨rfl, hq⟩
        · exact absurd c3 (by decide)
        · exact fun h => hq fun k hk => h k (by omega)
      · have c2 : i < κ (31 + j) := by simp (disch := omega) only [z_lit, z_litl, z_neg, z_negl, z_add, z_sub, z_mul, z_addl, z_subl, z_mull, z_cc, z_cl, z_cr, z_cm, z_cml, z_cmr, z_lt, z_le, z_eq, z_ltl, z_lel, z_eql, z_nat, z_i2l, z_l2i, z_div, z_sh, Int.toNat_natCast, z_ts, z_tsl] at c2; omega
        rcases hq with ⟨rfl, hq⟩ | ⟨rfl, hq⟩
        · refine c_digitOf hn hc (show i < n by omega) ?_
          refine b_m_areAlike_43 (h := ?_) ..
          refine c_m_clothOf hm hwS hj c2 ?_
          refine b_m_areAlike_50 (h := ?_) ..
          have hci := hc i (by omega)
          have hcl := clo_le hwS hj c2
          rw [i1N, i1N, z_eq (by omega) (by omega)]
          refine ⟨fun hne => ih (i + 1) (by omega) 0 (Or.inr ⟨rfl, fun h => hne ?_⟩), fun heq => ih (i + 1) (by omega) 1 (Or.inl ⟨rfl, fun k hk hk2 hk3 => ?_⟩)⟩
          · have := h i (by omega) (by omega) c2
            omega
          · by_cases e : k = i
            · subst e; omega
            · exact hq k (by omega) hk2 hk3
        · exact absurd rfl c3
  refine b_m_areAlike_0 (h := ?_) ..
  refine c_longFive hn hc ?_
  refine b_m_areAlike_4 (h := ?_) ..
  exact loop n 0 (by omega) 1 (Or.inl ⟨rfl, fun k hk => absurd hk (Nat.not_lt_zero k)⟩)
