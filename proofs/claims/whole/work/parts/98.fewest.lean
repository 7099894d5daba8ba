/-! the class: the fewest cloths of a line with two readings -/
theorem Kc_sh {c : Nat → Nat} {l : Nat} (hl : l ≤ 4) (hc : ∀ k, k < l → c k ≤ 3) : (((1 : Int32) <<< (((2 : Int32) * iI (l : Int)) &&& (31 : Int32)) : Int32) ||| iI (codF c l : Nat)) = iI (Kc c l : Nat) := by
  have hk := codF_lt hc
  have hp : 4 ^ l ≤ 256 := by
    have : l = 0 ∨ l = 1 ∨ l = 2 ∨ l = 3 ∨ l = 4 := by omega
    rcases this with rfl | rfl | rfl | rfl | rfl <;> decide
  have e2 : (2 : Int32) * iI (l : Int) = iI ((2 * l : Nat) : Int) := by rw [show (2 : Int32) = iI 2 from rfl, z_mul]; congr 1
  have sh : (iI ((2 * l : Nat) : Int) &&& (31 : Int32)) = iI ((2 * l : Nat) : Int) := z_sh (by omega)
  have p4 : 4 ^ l = 2 ^ (2 * l) := by rw [Nat.pow_mul]
  have e1 : ((1 : Int32) <<< iI ((2 * l : Nat) : Int) : Int32) = iI ((4 ^ l : Nat) : Int) := by
    rw [show (1 : Int32) = iI 1 from rfl, z_shl (by omega), Int.toNat_natCast, p4]
    congr 1
    rw [Int.one_mul]
    exact (Int.natCast_pow 2 (2 * l)).symm
  rw [e2, sh, e1, z_or (by omega) (by omega), Int.toNat_natCast, Int.toNat_natCast]
  congr 2
  have := or_add (a := 1) (b := codF c l) (k := 2 * l) (by rw [← p4]; exact hk)
  rw [Nat.one_mul, ← p4] at this
  exact this
theorem bit_t {k j : Nat} (hk : k < 2147483648) (hj : j < 32) : (((iI (k : Int) >>> (iI (j : Int) &&& (31 : Int32)) : Int32) &&& (1 : Int32)) = 1) = (k / 2 ^ j % 2 = 1) := by
  have hd : k / 2 ^ j ≤ k := Nat.div_le_self _ _
  rw [show (iI (j : Int) &&& (31 : Int32)) = iI (j : Int) from z_sh (by omega), z_shr (by omega) (by omega), Int.toNat_natCast]
  have e : ((k : Int) / 2 ^ j) = ((k / 2 ^ j : Nat) : Int) := by
    rw [Int.natCast_ediv, Int.natCast_pow]
    rfl
  rw [e]
  generalize k / 2 ^ j = q at hd ⊢
  rw [show (1 : Int32) = iI 1 from rfl, z_and (by omega) (by omega), Int.toNat_natCast, show (1 : Int).toNat = 1 from rfl, Nat.and_one_is_mod, z_eq (by omega) (by omega)]
  exact propext ⟨fun a => by omega, fun a => by omega⟩
theorem cnt_T : ∀ n, cnt (fun _ => true) n = n
  | 0 => rfl
  | n + 1 => by rw [cnt, cnt_T n]; rfl
theorem cnt_F : ∀ n, cnt (fun _ => false) n = 0
  | 0 => rfl
  | n + 1 => by rw [cnt, cnt_F n]; rfl
def g51 (g' g : Nat → Nat → Int32) : Prop := ∀ a, a ≠ 51 → a ≠ 52 → a ≠ 53 → g' a = g a
theorem c_fewest {X : mm_X} {d : Nat} {f : Nat → Int32} {fl : Nat → Int64} {g : Nat → Nat → Int32} {gl : Nat → Nat → Int64} {hh : Nat → Nat → Option Nat} {v : Nat → Value} {tx : mm_W} {P : Option Value → mm_W → Prop} {κ : Nat → Nat} {kept : Nat} (hwS : wS κ) (hxS : xS (f 64) (g 2) (g 3) (g 4) κ) (hk : kept < 256)
    (h : ∀ (r : Nat) (f' : Nat → Int32) (g' : Nat → Nat → Int32), Tw (sgS κ kept) r → fcb f' f → g51 g' g → P (some (.int (iI (r : Int)))) (Wd f' fl g' gl hh v tx)) :
    WP X (d + 4) 15 (0, [some (.ref 50), some (.ref 1), some (.int (iI (kept : Int))), none, none, none, none], [], Wd f fl g gl hh v tx) P := by
  have b55 := hwS.1
  have hl : ∀ j, j < κ 55 → 1 ≤ κ (31 + j) ∧ κ (31 + j) ≤ 4 := fun j hj => ⟨(hwS.2.1 j hj).1, (hwS.2.1 j hj).2.1⟩
  have hc3 : ∀ j, j < κ 55 → ∀ k, k < κ (31 + j) → clo κ j k ≤ 3 := fun j hj k hk => clo_le hwS hj hk
  have hKr : ∀ j, j < κ 55 → 4 ≤ Kc (clo κ j) (κ (31 + j)) ∧ Kc (clo κ j) (κ (31 + j)) < 512 := fun j hj => by
    obtain ⟨q1, q2⟩ := hl j hj
    obtain ⟨-, q3, q4⟩ := siz_K q2 (hc3 j hj)
    have h4 : κ (31 + j) = 1 ∨ κ (31 + j) = 2 ∨ κ (31 + j) = 3 ∨ κ (31 + j) = 4 := by omega
    rcases h4 with e | e | e | e
    all_goals (rw [e] at q3 q4 ⊢; omega)
  obtain ⟨D, hD⟩ := D_ex (sgS κ kept)
  have hS4 : ∀ a, sgS κ kept a → 4 ≤ a := fun a ha => by
    obtain ⟨j, hj, -, rfl⟩ := ha
    exact (hKr j hj).1
  -- the codes
  have codes : ∀ u j m : Nat, ∀ (cc : Nat → Nat) (g' : Nat → Nat → Int32), u + j = κ 55 → m ≤ j → (∀ a, a ≠ 51 → g' a = g a) → (∀ t, t < m → g' 51 t = iI (cc t : Int) ∧ ∃ i, i < j ∧ kept / 2 ^ i % 2 = 1 ∧ cc t = Kc (clo κ i) (κ (31 + i))) → (∀ i, i < j → kept / 2 ^ i % 2 = 1 → ∃ t, t < m ∧ cc t = Kc (clo κ i) (κ (31 + i))) →
      (∀ (m : Nat) (cc : Nat → Nat) (g' : Nat → Nat → Int32), m ≤ 8 → (∀ a, a ≠ 51 → g' a = g a) → (∀ t, t < m → g' 51 t = iI (cc t : Int) ∧ 4 ≤ cc t ∧ cc t < 512 ∧ sgS κ kept (cc t)) → (∀ a, sgS κ kept a → ∃ t, t < m ∧ a = cc t) → WP X (d + 3) 258 (0, [some (.ref 52), some (.int 1000000), none, none], [], Wd f fl g' gl hh v tx) (fun rv w2 => WP X (d + 4) 15 (67, [some (.ref 50), none, none, some (.int (iI (m : Int))), none, none, none], rv.toList ++ [], w2) P)) →
      WP X (d + 4) 15 (5, [some (.ref 50), some (.ref 1), some (.int (iI (kept : Int))), some (.int (iI (m : Int))), some (.int (iI (j : Int))), none, none], [], Wd f fl g' gl hh v tx) P := by
    intro u
    induction u with
    | zero =>
      intro j m cc g' hj hm hg h1 h2 hn
      have hj : j = κ 55 := by omega
      subst hj
      refine b_ycb_fewest_50_1_5 (h := ?_) ..
      rw [hxS.1]
      refine ⟨fun _ => hn m cc g' (by omega) hg (fun t ht => ?_) (fun a ha => ?_), fun c => absurd (Int32.le_refl _) c⟩
      · obtain ⟨q1, i, q2, q3, q4⟩ := h1 t ht
        rw [q4]
        exact ⟨by rw [q1, q4], (hKr i q2).1, (hKr i q2).2, i, q2, q3, rfl⟩
      · obtain ⟨i, q1, q2, rfl⟩ := ha
        obtain ⟨t, t1, t2⟩ := h2 i q1 q2
        exact ⟨t, t1, t2.symm⟩
    | succ u ih =>
      intro j m cc g' hj hm hg h1 h2 hn
      have hj5 : j < κ 55 := by omega
      have tj : (iI (j : Int)).toNatClampNeg = j := by rw [z_nat (by omega)]; omega
      have tm : (iI (m : Int)).toNatClampNeg = m := by rw [z_nat (by omega)]; omega
      obtain ⟨x1, x2, x3⟩ := hxS.2 j hj5
      refine b_ycb_fewest_50_1_5 (h := ?_) ..
      rw [hxS.1, bit_t (by omega) (by omega), tj, tm, hg 3 (by decide), hg 2 (by decide), x1, x2, Kc_sh (hl j hj5).2 (hc3 j hj5), i1N, i1N]
      refine ⟨fun c => by simp (disch := omega) only [z_lit, z_litl, z_neg, z_negl, z_add, z_sub, z_mul, z_addl, z_subl, z_mull, z_cc, z_cl, z_cr, z_cm, z_cml, z_cmr, z_lt, z_le, z_eq, z_ltl, z_lel, z_eql, z_nat, z_i2l, z_l2i, z_div, z_sh, Int.toNat_natCast, z_ts, z_tsl] at c; omega, fun _ => ⟨fun nb => ?_, fun yb => ⟨by simp (disch := omega) only [z_lit, z_litl, z_neg, z_negl, z_add, z_sub, z_mul, z_addl, z_subl, z_mull, z_cc, z_cl, z_cr, z_cm, z_cml, z_cmr, z_lt, z_le, z_eq, z_ltl, z_lel, z_eql, z_nat, z_i2l, z_l2i, z_div, z_sh, Int.toNat_natCast, z_ts, z_tsl]; omega, by simp (disch := omega) only [z_lit, z_litl, z_neg, z_negl, z_add, z_sub, z_mul, z_addl, z_subl, z_mull, z_cc, z_cl, z_cr, z_cm, z_cml, z_cmr, z_lt, z_le, z_eq, z_ltl, z_lel, z_eql, z_nat, z_i2l, z_l2i, z_div, z_sh, Int.toNat_natCast, z_ts, z_tsl]; omega, by simp (disch := omega) only [z_lit, z_litl, z_neg, z_negl, z_add, z_sub, z_mul, z_addl, z_subl, z_mull, z_cc, z_cl, z_cr, z_cm, z_cml, z_cmr, z_lt, z_le, z_eq, z_ltl, z_lel, z_eql, z_nat, z_i2l, z_l2i, z_div, z_sh, Int.toNat_natCast, z_ts, z_tsl]; omega, ?_⟩⟩⟩
      · refine ih (j + 1) m cc g' (by omega) (by omega) hg (fun t ht => ?_) (fun i hi hb => ?_) hn
        · obtain ⟨q1, i, q2, q3⟩ := h1 t ht
          exact ⟨q1, i, by omega, q3⟩
        · by_cases e : i = j
          · subst e; exact absurd hb nb
          · exact h2 i (by omega) hb
      · refine ih (j + 1) (m + 1) (fun t => if t = m then Kc (clo κ j) (κ (31 + j)) else cc t) _ (by omega) (by omega) (fun a ha => (va_ne ha).trans (hg a ha)) (fun t ht => ?_) (fun i hi hb => ?_) hn
        · rw [va_s]
          by_cases e : t = m
          · subst e
            rw [upd_s]
            simp only [if_true]
            exact ⟨trivial, j, by omega, yb, rfl⟩
          · rw [upd_ne e]
            simp only [if_neg e]
            obtain ⟨q1, i, q2, q3⟩ := h1 t (by omega)
            exact ⟨q1, i, by omega, q3⟩
        · by_cases e : i = j
          · subst e
            exact ⟨m, by omega, by simp only [if_true]⟩
          · obtain ⟨t, t1, t2⟩ := h2 i (by omega) hb
            exact ⟨t, by omega, by simp only [if_neg (show ¬ t = m by omega)]; exact t2⟩
  refine b_ycb_fewest_50_1_0 (h := ?_) ..
  refine codes (κ 55) 0 0 (fun _ => 0) g rfl (Nat.le_refl _) (fun _ _ => rfl) (fun t ht => absurd ht (Nat.not_lt_zero t)) (fun i hi => absurd hi (Nat.not_lt_zero i)) fun m cc g1 hm hg1 hcc hSc => ?_
  -- nothing yet
  have fill : ∀ i, i ≤ 128 → ∀ a : Nat → Int32, (∀ x, x < i → a x = 1000000) → WP X (d + 3) 258 (5, [some (.ref 52), some (.int 1000000), some (.int (iI (i : Int))), some (.int 128)], [], Wd f fl (va_up g1 52 a) gl hh v tx) (fun rv w2 => WP X (d + 4) 15 (67, [some (.ref 50), none, none, some (.int (iI (m : Int))), none, none, none], rv.toList ++ [], w2) P) := by
    refine k_up (Q := fun i => ∀ a : Nat → Int32, (∀ x, x < i → a x = 1000000) → WP X (d + 3) 258 (5, [some (.ref 52), some (.int 1000000), some (.int (iI (i : Int))), some (.int 128)], [], Wd f fl (va_up g1 52 a) gl hh v tx) (fun rv w2 => WP X (d + 4) 15 (67, [some (.ref 50), none, none, some (.int (iI (m : Int))), none, none, none], rv.toList ++ [], w2) P)) (fun a ha => ?_) fun i hi ih a ha => ?_
    · refine b_j_fill52_5 (h := ⟨fun _ => ?_, fun c => absurd (by decide) c⟩) ..
      refine b_ycb_fewest_50_1_67 (h := ?_) ..
      -- the rounds and the end, told by what the book holds
      have fin : ∀ (A L : Nat → Nat) (M : Nat) (f' : Nat → Int32) (g' : Nat → Nat → Int32), cbI (sgS κ kept) A M L f' g' → (∀ x, x < 128 → A x = D x) → fcb f' f → gcb g' g1 → WP X (d + 4) 15 (186, [some (.ref 50), none, none, some (.int (iI (m : Int))), none, some (.int 1000000), some (.int 0)], [], Wd f' fl g' gl hh v tx) P := by
        intro A L M f' g' hI hA hf hg
        have loop : ∀ u t acc : Nat, u + t = m → acc ≤ 1000000 → (acc < 1000000 → ∃ a, sgS κ kept a ∧ Rch (sgS κ kept) a acc) → (∀ s, s < t → cc s < 128 → acc ≤ D (cc s)) → WP X (d + 4) 15 (186, [some (.ref 50), none, none, some (.int (iI (m : Int))), none, some (.int (iI (acc : Int))), some (.int (iI (t : Int)))], [], Wd f' fl g' gl hh v tx) P := by
          intro u
          induction u with
          | zero =>
            intro t acc ht h1 h2 h3
            have ht : t = m := by omega
            subst ht
            refine b_ycb_fewest_50_1_186 (h := ⟨fun _ => ?_, fun c => absurd (Int32.le_refl _) c⟩) ..
            refine h acc f' g' ⟨h1, h2, fun a c ha hc => ?_⟩ hf (fun a a1 a2 a3 => (hg a a2 a3).trans (hg1 a a1))
            obtain ⟨s, hs, rfl⟩ := hSc a ha
            have := h3 s hs (hc.rng hS4).2
            have := (hD (cc s)).2.2 c hc
            omega
          | succ u ihu =>
            intro t acc ht h1 h2 h3
            have htm : t < m := by omega
            obtain ⟨c1, c2, c3, c4⟩ := hcc t htm
            have tt : (iI (t : Int)).toNatClampNeg = t := by rw [z_nat (by omega)]; omega
            have tc : (iI (cc t : Int)).toNatClampNeg = cc t := by rw [z_nat (by omega)]; omega
            have e51 : g' 51 t = iI (cc t : Int) := by rw [hg 51 (by decide) (by decide)]; exact c1
            refine b_ycb_fewest_50_1_186 (h := ⟨fun c => by simp (disch := omega) only [z_lit, z_litl, z_neg, z_negl, z_add, z_sub, z_mul, z_addl, z_subl, z_mull, z_cc, z_cl, z_cr, z_cm, z_cml, z_cmr, z_lt, z_le, z_eq, z_ltl, z_lel, z_eql, z_nat, z_i2l, z_l2i, z_div, z_sh, Int.toNat_natCast, z_ts, z_tsl] at c; omega, fun _ => ?_⟩) ..
            rw [tt, e51, tc, i1N]
            refine ⟨by simp (disch := omega) only [z_lit, z_litl, z_neg, z_negl, z_add, z_sub, z_mul, z_addl, z_subl, z_mull, z_cc, z_cl, z_cr, z_cm, z_cml, z_cmr, z_lt, z_le, z_eq, z_ltl, z_lel, z_eql, z_nat, z_i2l, z_l2i, z_div, z_sh, Int.toNat_natCast, z_ts, z_tsl]; omega, fun c => ?_, fun c => ⟨by simp (disch := omega) only [z_lit, z_litl, z_neg, z_negl, z_add, z_sub, z_mul, z_addl, z_subl, z_mull, z_cc, z_cl, z_cr, z_cm, z_cml, z_cmr, z_lt, z_le, z_eq, z_ltl, z_lel, z_eql, z_nat, z_i2l, z_l2i, z_div, z_sh, Int.toNat_natCast, z_ts, z_tsl]; omega, by simp (disch := omega) only [z_lit, z_litl, z_neg, z_negl, z_add, z_sub, z_mul, z_addl, z_subl, z_mull, z_cc, z_cl, z_cr, z_cm, z_cml, z_cmr, z_lt, z_le, z_eq, z_ltl, z_lel, z_eql, z_nat, z_i2l, z_l2i, z_div, z_sh, Int.toNat_natCast, z_ts, z_tsl] at c ⊢; omega, ?_⟩⟩
            · have c : 128 ≤ cc t := by simp (disch := omega) only [z_lit, z_litl, z_neg, z_negl, z_add, z_sub, z_mul, z_addl, z_subl, z_mull, z_cc, z_cl, z_cr, z_cm, z_cml, z_cmr, z_lt, z_le, z_eq, z_ltl, z_lel, z_eql, z_nat, z_i2l, z_l2i, z_div, z_sh, Int.toNat_natCast, z_ts, z_tsl] at c; omega
              rw [show (if (1000000 : Int32) < iI (acc : Int) then (1000000 : Int32) else iI (acc : Int)) = iI (acc : Int) from if_neg (by simp (disch := omega) only [z_lit, z_litl, z_neg, z_negl, z_add, z_sub, z_mul, z_addl, z_subl, z_mull, z_cc, z_cl, z_cr, z_cm, z_cml, z_cmr, z_lt, z_le, z_eq, z_ltl, z_lel, z_eql, z_nat, z_i2l, z_l2i, z_div, z_sh, Int.toNat_natCast, z_ts, z_tsl]; omega)]
              refine ihu (t + 1) acc (by omega) h1 h2 fun s hs hs2 => ?_
              by_cases e : s = t
              · subst e; omega
              · exact h3 s (by omega) hs2
            · have c : cc t < 128 := by simp (disch := omega) only [z_lit, z_litl, z_neg, z_negl, z_add, z_sub, z_mul, z_addl, z_subl, z_mull, z_cc, z_cl, z_cr, z_cm, z_cml, z_cmr, z_lt, z_le, z_eq, z_ltl, z_lel, z_eql, z_nat, z_i2l, z_l2i, z_div, z_sh, Int.toNat_natCast, z_ts, z_tsl] at c; omega
              have hd := hD (cc t)
              rw [hI.2.1 (cc t) c, hA (cc t) c]
              by_cases e : D (cc t) < acc
              · rw [show (if iI (D (cc t) : Int) < iI (acc : Int) then iI (D (cc t) : Int) else iI (acc : Int)) = iI (D (cc t) : Int) from if_pos (by simp (disch := omega) only [z_lit, z_litl, z_neg, z_negl, z_add, z_sub, z_mul, z_addl, z_subl, z_mull, z_cc, z_cl, z_cr, z_cm, z_cml, z_cmr, z_lt, z_le, z_eq, z_ltl, z_lel, z_eql, z_nat, z_i2l, z_l2i, z_div, z_sh, Int.toNat_natCast, z_ts, z_tsl]; omega)]
                refine ihu (t + 1) (D (cc t)) (by omega) hd.1 (fun hlt => ⟨cc t, c4, hd.2.1 hlt⟩) fun s hs hs2 => ?_
                by_cases e2 : s = t
                · subst e2; exact Nat.le_refl _
                · have := h3 s (by omega) hs2
                  omega
              · rw [show (if iI (D (cc t) : Int) < iI (acc : Int) then iI (D (cc t) : Int) else iI (acc : Int)) = iI (acc : Int) from if_neg (by simp (disch := omega) only [z_lit, z_litl, z_neg, z_negl, z_add, z_sub, z_mul, z_addl, z_subl, z_mull, z_cc, z_cl, z_cr, z_cm, z_cml, z_cmr, z_lt, z_le, z_eq, z_ltl, z_lel, z_eql, z_nat, z_i2l, z_l2i, z_div, z_sh, Int.toNat_natCast, z_ts, z_tsl]; omega)]
                refine ihu (t + 1) acc (by omega) h1 h2 fun s hs hs2 => ?_
                by_cases e2 : s = t
                · subst e2; omega
                · exact h3 s (by omega) hs2
        exact loop m 0 1000000 rfl (Nat.le_refl _) (fun c => by omega) fun s hs => absurd hs (Nat.not_lt_zero s)
      have rounds : ∀ u k : Nat, ∀ (A L : Nat → Nat) (M q : Nat) (f' : Nat → Int32) (g' : Nat → Nat → Int32), u + k = 128 → cbI (sgS κ kept) A M L f' g' → gdA (sgS κ kept) A → (q = 0 ∧ prA (sgS κ kept) A A ∨ q = 1) → k ≤ cnt (fun i => decide (A i = D i)) 128 → fcb f' f → gcb g' g1 → WP X (d + 4) 15 (151, [some (.ref 50), none, none, some (.int (iI (m : Int))), some (.int (iI (q : Int))), some (.int (iI (k : Int))), none], [], Wd f' fl g' gl hh v tx) P := by
        intro u
        induction u with
        | zero =>
          intro k A L M q f' g' hk hI hgd hq hcnt hf hg
          have hk : k = 128 := by omega
          subst hk
          refine b_ycb_fewest_50_1_151 (h := ⟨fun _ => ?_, fun c => absurd (by decide) c⟩) ..
          exact fin A L M f' g' hI (fun x hx => of_decide_eq_true (cnt_full (p := fun i => decide (A i = D i)) 128 hcnt x hx)) hf hg
        | succ u ihu =>
          intro k A L M q f' g' hk hI hgd hq hcnt hf hg
          have k0 : (iI (q : Int) = (0 : Int32)) = (q = 0) := by
            rw [show (0 : Int32) = iI 0 from rfl, z_eq (by omega) (by omega)]
            exact propext ⟨fun a => by omega, fun a => by omega⟩
          refine b_ycb_fewest_50_1_151 (h := ⟨fun c => by simp (disch := omega) only [z_lit, z_litl, z_neg, z_negl, z_add, z_sub, z_mul, z_addl, z_subl, z_mull, z_cc, z_cl, z_cr, z_cm, z_cml, z_cmr, z_lt, z_le, z_eq, z_ltl, z_lel, z_eql, z_nat, z_i2l, z_l2i, z_div, z_sh, Int.toNat_natCast, z_ts, z_tsl] at c; omega, fun _ => ?_⟩) ..
          rw [k0]
          refine ⟨fun q0 => ?_, fun q0 => ?_⟩
          · rcases hq with ⟨-, hp⟩ | e
            · exact fin A L M f' g' hI (fun x _ => fix_eq hD hgd hp x) hf hg
            · omega
          · refine c_improve (d := d) (m := m) (cd_ := cc) hm (fun j hj => ?_) hSc hI fun A' L' M' r f2 g2 hI2 hf2 hg2 hU hpr hr => ?_
            · rw [hg 51 (by decide) (by decide)]; exact hcc j hj
            · refine b_ycb_fewest_50_1_171 (h := ?_) ..
              rw [i1N]
              have hgd2 : gdA (sgS κ kept) A' := ⟨hI2.2.2.2.2.2.1, hI2.2.2.2.2.2.2, fun a b y h1 h2 h3 => Nat.le_trans (hU.1 y) (hgd.2.2 a b y h1 h2 h3)⟩
              refine ihu (k + 1) A' L' M' r f2 g2 (by omega) hI2 hgd2 ?_ ?_ (fun a ha => (hf2 a ha).trans (hf a ha)) fun a h1 h2 => (hg2 a h1 h2).trans (hg a h1 h2)
              · rcases hr with ⟨e, e2⟩ | e
                · subst e2
                  exact Or.inl ⟨e, hpr⟩
                · exact Or.inr e
              · -- one more is right
                have keep : ∀ i, i < 128 → decide (A i = D i) = true → decide (A' i = D i) = true := fun i _ hi => by
                  have hi := of_decide_eq_true hi
                  refine decide_eq_true ?_
                  have h1 := hU.1 i
                  have h2 : D i ≤ A' i := by
                    by_cases e : A' i < 1000000
                    · exact (hD i).2.2 _ (hgd2.2.1 i e)
                    · have := (hD i).1
                      omega
                  omega
                by_cases hall : ∀ i, i < 128 → decide (A i = D i) = true
                · have e : cnt (fun i => decide (A' i = D i)) 128 = cnt (fun _ => true) 128 := cnt_eq 128 fun i hi => keep i hi (hall i hi)
                  rw [e, cnt_T]
                  omega
                · have hx : ∃ x, A x ≠ D x := by
                    apply Classical.byContradiction
                    intro hno
                    refine hall fun i hi => decide_eq_true ?_
                    apply Classical.byContradiction
                    intro hne
                    exact hno ⟨i, hne⟩
                  obtain ⟨x, hx⟩ := hx
                  obtain ⟨z, z1, z2, z3⟩ := pr_more hD hgd hgd2 hpr hx
                  have hz := ((hD z).2.1 z3).rng hS4
                  have := cnt_lt (p := fun i => decide (A i = D i)) (q := fun i => decide (A' i = D i)) (z := z) (fun c => z1 (of_decide_eq_true c)) (decide_eq_true z2) 128 keep hz.2
                  omega
      -- the beginnings
      have begins : ∀ u t : Nat, ∀ (A L : Nat → Nat) (M : Nat) (f' : Nat → Int32) (g' : Nat → Nat → Int32), u + t = m → cbI (sgS κ kept) A M L f' g' → (∀ s, s < t → ∀ r, r < m → ∀ y, lf (cc s) (cc r) = some y → A y ≤ siz (cc r)) → fcb f' f → gcb g' g1 → WP X (d + 4) 15 (75, [some (.ref 50), none, none, some (.int (iI (m : Int))), some (.int (iI (t : Int))), none, none], [], Wd f' fl g' gl hh v tx) P := by
        intro u
        induction u with
        | zero =>
          intro t A L M f' g' ht hI hd hf hg
          have ht : t = m := by omega
          subst ht
          have hML : M ≤ 128 := by rw [hI.2.2.2.2.1]; exact cnt_le 128
          have hgd : gdA (sgS κ kept) A := ⟨hI.2.2.2.2.2.1, hI.2.2.2.2.2.2, fun a b y h1 h2 h3 => by
            obtain ⟨s, hs, rfl⟩ := hSc a h1
            obtain ⟨r, hr, rfl⟩ := hSc b h2
            exact hd s hs r hr y h3⟩
          refine b_ycb_fewest_50_1_75 (h := ⟨fun _ => ?_, fun c => absurd (Int32.le_refl _) c⟩) ..
          rw [hI.1]
          refine ⟨fun c => ?_, fun c => ?_⟩
          · have c : M = 0 := by simp (disch := omega) only [z_lit, z_litl, z_neg, z_negl, z_add, z_sub, z_mul, z_addl, z_subl, z_mull, z_cc, z_cl, z_cr, z_cm, z_cml, z_cmr, z_lt, z_le, z_eq, z_ltl, z_lel, z_eql, z_nat, z_i2l, z_l2i, z_div, z_sh, Int.toNat_natCast, z_ts, z_tsl] at c; omega
            refine rounds 128 0 A L M 0 f' g' rfl hI hgd (Or.inl ⟨rfl, fun x a y ha hx => ?_⟩) (Nat.zero_le _) hf hg
            have hrg := (hI.2.2.2.2.2.2 x hx).rng hS4
            obtain ⟨k, k1, -⟩ := hI.2.2.2.1 x hrg.2 hx
            omega
          · exact rounds 128 0 A L M 1 f' g' rfl hI hgd (Or.inr rfl) (Nat.zero_le _) hf hg
        | succ u ihu =>
          intro t A L M f' g' ht hI hd hf hg
          have htm : t < m := by omega
          obtain ⟨c1, c2, c3, c4⟩ := hcc t htm
          have tt : (iI (t : Int)).toNatClampNeg = t := by rw [z_nat (by omega)]; omega
          refine b_ycb_fewest_50_1_75 (h := ⟨fun c => by simp (disch := omega) only [z_lit, z_litl, z_neg, z_negl, z_add, z_sub, z_mul, z_addl, z_subl, z_mull, z_cc, z_cl, z_cr, z_cm, z_cml, z_cmr, z_lt, z_le, z_eq, z_ltl, z_lel, z_eql, z_nat, z_i2l, z_l2i, z_div, z_sh, Int.toNat_natCast, z_ts, z_tsl] at c; omega, fun _ => ?_⟩) ..
          have inner : ∀ w r : Nat, ∀ (B K : Nat → Nat) (N : Nat) (f2 : Nat → Int32) (g2 : Nat → Nat → Int32), w + r = m → cbI (sgS κ kept) B N K f2 g2 → (∀ x, B x ≤ A x) → (∀ s, s < r → ∀ y, lf (cc t) (cc s) = some y → B y ≤ siz (cc s)) → fcb f2 f → gcb g2 g1 → WP X (d + 4) 15 (84, [some (.ref 50), none, none, some (.int (iI (m : Int))), some (.int (iI (t : Int))), some (.int (iI (r : Int))), none], [], Wd f2 fl g2 gl hh v tx) P := by
            intro w
            induction w with
            | zero =>
              intro r B K N f2 g2 hr hB hle hd2 hf2 hg2
              have hr : r = m := by omega
              subst hr
              refine b_ycb_fewest_50_1_84 (h := ⟨fun _ => ?_, fun c => absurd (Int32.le_refl _) c⟩) ..
              rw [i1N]
              refine ihu (t + 1) B K N f2 g2 (by omega) hB (fun s hs r hr y hy => ?_) hf2 hg2
              by_cases e : s = t
              · subst e; exact hd2 r hr y hy
              · exact Nat.le_trans (hle y) (hd s (by omega) r hr y hy)
            | succ w ihw =>
              intro r B K N f2 g2 hr hB hle hd2 hf2 hg2
              have hrm : r < m := by omega
              obtain ⟨k1, k2, k3, k4⟩ := hcc r hrm
              have tr : (iI (r : Int)).toNatClampNeg = r := by rw [z_nat (by omega)]; omega
              have e1 : g2 51 t = iI (cc t : Int) := by rw [hg2 51 (by decide) (by decide)]; exact c1
              have e2 : g2 51 r = iI (cc r : Int) := by rw [hg2 51 (by decide) (by decide)]; exact k1
              refine b_ycb_fewest_50_1_84 (h := ⟨fun c => by simp (disch := omega) only [z_lit, z_litl, z_neg, z_negl, z_add, z_sub, z_mul, z_addl, z_subl, z_mull, z_cc, z_cl, z_cr, z_cm, z_cml, z_cmr, z_lt, z_le, z_eq, z_ltl, z_lel, z_eql, z_nat, z_i2l, z_l2i, z_div, z_sh, Int.toNat_natCast, z_ts, z_tsl] at c; omega, fun _ => ?_⟩) ..
              rw [tt, tr, e1, e2]
              refine ⟨by simp (disch := omega) only [z_lit, z_litl, z_neg, z_negl, z_add, z_sub, z_mul, z_addl, z_subl, z_mull, z_cc, z_cl, z_cr, z_cm, z_cml, z_cmr, z_lt, z_le, z_eq, z_ltl, z_lel, z_eql, z_nat, z_i2l, z_l2i, z_div, z_sh, Int.toNat_natCast, z_ts, z_tsl]; omega, by simp (disch := omega) only [z_lit, z_litl, z_neg, z_negl, z_add, z_sub, z_mul, z_addl, z_subl, z_mull, z_cc, z_cl, z_cr, z_cm, z_cml, z_cmr, z_lt, z_le, z_eq, z_ltl, z_lel, z_eql, z_nat, z_i2l, z_l2i, z_div, z_sh, Int.toNat_natCast, z_ts, z_tsl]; omega, ?_⟩
              refine c_left (d := d + 2) c3 k3 ?_
              refine b_ycb_fewest_50_1_108 (h := ?_) ..
              rw [tr, e2]
              refine ⟨by simp (disch := omega) only [z_lit, z_litl, z_neg, z_negl, z_add, z_sub, z_mul, z_addl, z_subl, z_mull, z_cc, z_cl, z_cr, z_cm, z_cml, z_cmr, z_lt, z_le, z_eq, z_ltl, z_lel, z_eql, z_nat, z_i2l, z_l2i, z_div, z_sh, Int.toNat_natCast, z_ts, z_tsl]; omega, ?_⟩
              refine c_size (by omega) ?_
              refine b_ycb_fewest_50_1_118 (h := ?_) ..
              refine c_offer (d := d + 2) (o := lf (cc t) (cc r)) hB (fun y hy => ⟨(lf_rng c2 hy).1, (lf_rng c2 hy).2.1⟩) (by have := (siz_rg (cc r)).1; omega) (fun y hy _ => Rch.b c4 k4 hy) fun B1 K1 N1 r1 f3 g3 hB1 hf3 hg3 hU hy1 _ => ?_
              refine b_ycb_fewest_50_1_121 (h := ?_) ..
              rw [i1N]
              refine ihw (r + 1) B1 K1 N1 f3 g3 (by omega) hB1 (fun x => Nat.le_trans (hU.1 x) (hle x)) (fun s hs y hy => ?_) (fun a ha => (hf3 a ha).trans (hf2 a ha)) fun a h1 h2 => (hg3 a h1 h2).trans (hg2 a h1 h2)
              by_cases e : s = r
              · subst e; exact hy1 y hy
              · exact Nat.le_trans (hU.1 y) (hd2 s (by omega) y hy)
          exact inner m 0 A L M f' g' rfl hI (fun _ => Nat.le_refl _) (fun s hs => absurd hs (Nat.not_lt_zero s)) hf hg
      refine begins m 0 (fun _ => 1000000) (fun _ => 0) 0 _ _ rfl ⟨va_s, fun i hi => by rw [va_s]; exact ha i hi, fun i hi => absurd hi (Nat.not_lt_zero i), fun x hx hlt => absurd hlt (Nat.lt_irrefl 1000000), ((cnt_eq 128 fun _ _ => decide_eq_false (Nat.lt_irrefl 1000000)).trans (cnt_F 128)).symm, fun _ => Nat.le_refl _, fun x hlt => absurd hlt (Nat.lt_irrefl 1000000)⟩ (fun s hs => absurd hs (Nat.not_lt_zero s)) (fun a ha => va_ne ha) fun a h1 h2 => va_ne h1
    · have ti : (iI (i : Int)).toNatClampNeg = i := by rw [z_nat (by omega)]; omega
      refine b_j_fill52_5 (h := ?_) ..
      rw [ti, va_tw, va_s, i1N]
      refine ⟨fun c => by simp (disch := omega) only [z_lit, z_litl, z_neg, z_negl, z_add, z_sub, z_mul, z_addl, z_subl, z_mull, z_cc, z_cl, z_cr, z_cm, z_cml, z_cmr, z_lt, z_le, z_eq, z_ltl, z_lel, z_eql, z_nat, z_i2l, z_l2i, z_div, z_sh, Int.toNat_natCast, z_ts, z_tsl] at c; omega, fun _ => ⟨by simp (disch := omega) only [z_lit, z_litl, z_neg, z_negl, z_add, z_sub, z_mul, z_addl, z_subl, z_mull, z_cc, z_cl, z_cr, z_cm, z_cml, z_cmr, z_lt, z_le, z_eq, z_ltl, z_lel, z_eql, z_nat, z_i2l, z_l2i, z_div, z_sh, Int.toNat_natCast, z_ts, z_tsl]; omega, ih _ fun x hx => ?_⟩⟩
      by_cases e : x = i
      · rw [e, upd_s]
      · rw [upd_ne e]; exact ha x (by omega)
  refine b_j_fill52_0 (h := ?_) ..
  have := fill 0 (by omega) (g1 52) fun x hx => absurd hx (Nat.not_lt_zero x)
  rw [va_id (f := g1) rfl] at this
  exact this
