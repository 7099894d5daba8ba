/-! orders: both -/
theorem c_copy_10_1 {X : mm_X} {d : Nat} {f : Nat → Int32} {fl : Nat → Int64} {g : Nat → Nat → Int32} {gl : Nat → Nat → Int64} {hh : Nat → Nat → Option Nat} {v : Nat → Value} {tx : mm_W} {P : Option Value → mm_W → Prop} (hl : i_lw tx (hh 7)) (h : ∀ nl : Nat → Option Nat, (∀ t, t < 6 → nl t = (hh 7) t) → (∀ t, 6 ≤ t → nl t = (hh 16) t) → P none (Wd (va_up (va_up (va_up (va_up (va_up (va_up (va_up (va_up f 640 (f 64)) 644 (f 68)) 646 (f 70)) 647 (f 71)) 648 (f 72)) 650 (f 74)) 652 (f 76)) 654 (f 78)) fl (va_up (va_up (va_up (va_up (va_up (va_up (va_up g 11 (va_cpy (g 2) (g 11) 0 0 8)) 12 (va_cpy (g 3) (g 12) 0 0 8)) 13 (va_cpy (g 4) (g 13) 0 0 8)) 14 (va_cpy (g 5) (g 14) 0 0 3)) 15 (va_cpy (g 6) (g 15) 0 0 6)) 17 (va_cpy (g 8) (g 17) 0 0 3)) 18 (va_cpy (g 9) (g 18) 0 0 16)) gl (va_up hh 16 nl) v tx)) : WP X d 45 (0, [some (.ref 10), some (.ref 1), none], [], Wd f fl g gl hh v tx) P := by
  refine b_yst_copy_10_1_0 (h := ?_) ..
  have key : ∀ i, i ≤ 6 → ∀ nl : Nat → Option Nat, (∀ t, t < i → nl t = (hh 7) t) → (∀ t, i ≤ t → nl t = (hh 16) t) → WP X d 45 (169, [some (.ref 10), some (.ref 1), some (.int (iI i))], [], Wd (va_up (va_up (va_up (va_up (va_up (va_up (va_up (va_up f 640 (f 64)) 644 (f 68)) 646 (f 70)) 647 (f 71)) 648 (f 72)) 650 (f 74)) 652 (f 76)) 654 (f 78)) fl (va_up (va_up (va_up (va_up (va_up (va_up (va_up g 11 (va_cpy (g 2) (g 11) 0 0 8)) 12 (va_cpy (g 3) (g 12) 0 0 8)) 13 (va_cpy (g 4) (g 13) 0 0 8)) 14 (va_cpy (g 5) (g 14) 0 0 3)) 15 (va_cpy (g 6) (g 15) 0 0 6)) 17 (va_cpy (g 8) (g 17) 0 0 3)) 18 (va_cpy (g 9) (g 18) 0 0 16)) gl (va_up hh 16 nl) v tx) P := by
    apply k_up (Q := fun i => ∀ nl : Nat → Option Nat, (∀ t, t < i → nl t = (hh 7) t) → (∀ t, i ≤ t → nl t = (hh 16) t) → WP X d 45 (169, [some (.ref 10), some (.ref 1), some (.int (iI i))], [], Wd (va_up (va_up (va_up (va_up (va_up (va_up (va_up (va_up f 640 (f 64)) 644 (f 68)) 646 (f 70)) 647 (f 71)) 648 (f 72)) 650 (f 74)) 652 (f 76)) 654 (f 78)) fl (va_up (va_up (va_up (va_up (va_up (va_up (va_up g 11 (va_cpy (g 2) (g 11) 0 0 8)) 12 (va_cpy (g 3) (g 12) 0 0 8)) 13 (va_cpy (g 4) (g 13) 0 0 8)) 14 (va_cpy (g 5) (g 14) 0 0 3)) 15 (va_cpy (g 6) (g 15) 0 0 6)) 17 (va_cpy (g 8) (g 17) 0 0 3)) 18 (va_cpy (g 9) (g 18) 0 0 16)) gl (va_up hh 16 nl) v tx) P)
    · intro nl h1 h2
      refine b_yst_copy_10_1_169 (h := ?_) ..
      simp (disch := omega) only [z_lit, z_litl, z_neg, z_negl, z_add, z_sub, z_mul, z_addl, z_subl, z_mull, z_cc, z_cl, z_cr, z_cm, z_cml, z_cmr, z_lt, z_le, z_eq, z_ltl, z_lel, z_eql, z_nat, z_i2l, z_l2i, z_div, z_sh, Int.toNat_natCast, z_ts, z_tsl]
      exact ⟨fun _ => h nl h1 h2, fun c => by omega⟩
    · intro i hi ih nl h1 h2
      refine b_yst_copy_10_1_169 (h := ?_) ..
      have e1 : va_up hh 16 nl 7 = (hh 7) := va_ne (by decide)
      have e2 : va_up hh 16 nl 16 = nl := va_s
      rw [e1, e2, show (iI (i : Int)).toNatClampNeg = i by rw [z_nat (by omega)]; omega]
      refine ⟨fun c => by simp (disch := omega) only [z_lit, z_litl, z_neg, z_negl, z_add, z_sub, z_mul, z_addl, z_subl, z_mull, z_cc, z_cl, z_cr, z_cm, z_cml, z_cmr, z_lt, z_le, z_eq, z_ltl, z_lel, z_eql, z_nat, z_i2l, z_l2i, z_div, z_sh, Int.toNat_natCast, z_ts, z_tsl] at c; omega, fun _ => ⟨by simp (disch := omega) only [z_lit, z_litl, z_neg, z_negl, z_add, z_sub, z_mul, z_addl, z_subl, z_mull, z_cc, z_cl, z_cr, z_cm, z_cml, z_cmr, z_lt, z_le, z_eq, z_ltl, z_lel, z_eql, z_nat, z_i2l, z_l2i, z_div, z_sh, Int.toNat_natCast, z_ts, z_tsl]; omega, by simp (disch := omega) only [z_lit, z_litl, z_neg, z_negl, z_add, z_sub, z_mul, z_addl, z_subl, z_mull, z_cc, z_cl, z_cr, z_cm, z_cml, z_cmr, z_lt, z_le, z_eq, z_ltl, z_lel, z_eql, z_nat, z_i2l, z_l2i, z_div, z_sh, Int.toNat_natCast, z_ts, z_tsl]; omega, fun o ho => ?_, ?_⟩⟩
      · obtain ⟨tt, fs, rfl, hfs⟩ := hl i o ho
        exact ⟨fs, hfs⟩
      · rw [va_tw, show iI (i : Int) + (1 : Int32) = iI ((i + 1 : Nat) : Int) by rw [show (1 : Int32) = iI 1 from rfl, z_add]; rfl]
        refine ih _ (fun t ht => ?_) fun t ht => ?_
        · by_cases e : t = i
          · rw [e, va_s]
          · rw [va_ne e]; exact h1 t (by omega)
        · rw [va_ne (by omega)]; exact h2 t (by omega)
  have := key 0 (by omega) (hh 16) (fun t ht => absurd ht (Nat.not_lt_zero t)) fun t _ => rfl
  rw [show va_up hh 16 (hh 16) = hh by
    funext j
    by_cases e : j = 16
    · rw [e, va_s]
    · rw [va_ne e]] at this
  exact this
theorem c_copy_1_10 {X : mm_X} {d : Nat} {f : Nat → Int32} {fl : Nat → Int64} {g : Nat → Nat → Int32} {gl : Nat → Nat → Int64} {hh : Nat → Nat → Option Nat} {v : Nat → Value} {tx : mm_W} {P : Option Value → mm_W → Prop} (hl : i_lw tx (hh 16)) (h : ∀ nl : Nat → Option Nat, (∀ t, t < 6 → nl t = (hh 16) t) → (∀ t, 6 ≤ t → nl t = (hh 7) t) → P none (Wd (va_up (va_up (va_up (va_up (va_up (va_up (va_up (va_up f 64 (f 640)) 68 (f 644)) 70 (f 646)) 71 (f 647)) 72 (f 648)) 74 (f 650)) 76 (f 652)) 78 (f 654)) fl (va_up (va_up (va_up (va_up (va_up (va_up (va_up g 2 (va_cpy (g 11) (g 2) 0 0 8)) 3 (va_cpy (g 12) (g 3) 0 0 8)) 4 (va_cpy (g 13) (g 4) 0 0 8)) 5 (va_cpy (g 14) (g 5) 0 0 3)) 6 (va_cpy (g 15) (g 6) 0 0 6)) 8 (va_cpy (g 17) (g 8) 0 0 3)) 9 (va_cpy (g 18) (g 9) 0 0 16)) gl (va_up hh 7 nl) v tx)) : WP X d 45 (0, [some (.ref 1), some (.ref 10), none], [], Wd f fl g gl hh v tx) P := by
  refine b_yst_copy_1_10_0 (h := ?_) ..
  have key : ∀ i, i ≤ 6 → ∀ nl : Nat → Option Nat, (∀ t, t < i → nl t = (hh 16) t) → (∀ t, i ≤ t → nl t = (hh 7) t) → WP X d 45 (169, [some (.ref 1), some (.ref 10), some (.int (iI i))], [], Wd (va_up (va_up (va_up (va_up (va_up (va_up (va_up (va_up f 64 (f 640)) 68 (f 644)) 70 (f 646)) 71 (f 647)) 72 (f 648)) 74 (f 650)) 76 (f 652)) 78 (f 654)) fl (va_up (va_up (va_up (va_up (va_up (va_up (va_up g 2 (va_cpy (g 11) (g 2) 0 0 8)) 3 (va_cpy (g 12) (g 3) 0 0 8)) 4 (va_cpy (g 13) (g 4) 0 0 8)) 5 (va_cpy (g 14) (g 5) 0 0 3)) 6 (va_cpy (g 15) (g 6) 0 0 6)) 8 (va_cpy (g 17) (g 8) 0 0 3)) 9 (va_cpy (g 18) (g 9) 0 0 16)) gl (va_up hh 7 nl) v tx) P := by
    apply k_up (Q := fun i => ∀ nl : Nat → Option Nat, (∀ t, t < i → nl t = (hh 16) t) → (∀ t, i ≤ t → nl t = (hh 7) t) → WP X d 45 (169, [some (.ref 1), some (.ref 10), some (.int (iI i))], [], Wd (va_up (va_up (va_up (va_up (va_up (va_up (va_up (va_up f 64 (f 640)) 68 (f 644)) 70 (f 646)) 71 (f 647)) 72 (f 648)) 74 (f 650)) 76 (f 652)) 78 (f 654)) fl (va_up (va_up (va_up (va_up (va_up (va_up (va_up g 2 (va_cpy (g 11) (g 2) 0 0 8)) 3 (va_cpy (g 12) (g 3) 0 0 8)) 4 (va_cpy (g 13) (g 4) 0 0 8)) 5 (va_cpy (g 14) (g 5) 0 0 3)) 6 (va_cpy (g 15) (g 6) 0 0 6)) 8 (va_cpy (g 17) (g 8) 0 0 3)) 9 (va_cpy (g 18) (g 9) 0 0 16)) gl (va_up hh 7 nl) v tx) P)
    · intro nl h1 h2
      refine b_yst_copy_1_10_169 (h := ?_) ..
      simp (disch := omega) only [z_lit, z_litl, z_neg, z_negl, z_add, z_sub, z_mul, z_addl, z_subl, z_mull, z_cc, z_cl, z_cr, z_cm, z_cml, z_cmr, z_lt, z_le, z_eq, z_ltl, z_lel, z_eql, z_nat, z_i2l, z_l2i, z_div, z_sh, Int.toNat_natCast, z_ts, z_tsl]
      exact ⟨fun _ => h nl h1 h2, fun c => by omega⟩
    · intro i hi ih nl h1 h2
      refine b_yst_copy_1_10_169 (h := ?_) ..
      have e1 : va_up hh 7 nl 16 = (hh 16) := va_ne (by decide)
      have e2 : va_up hh 7 nl 7 = nl := va_s
      rw [e1, e2, show (iI (i : Int)).toNatClampNeg = i by rw [z_nat (by omega)]; omega]
      refine ⟨fun c => by simp (disch := omega) only [z_lit, z_litl, z_neg, z_negl, z_add, z_sub, z_mul, z_addl, z_subl, z_mull, z_cc, z_cl, z_cr, z_cm, z_cml, z_cmr, z_lt, z_le, z_eq, z_ltl, z_lel, z_eql, z_nat, z_i2l, z_l2i, z_div, z_sh, Int.toNat_natCast, z_ts, z_tsl] at c; omega, fun _ => ⟨by simp (disch := omega) only [z_lit, z_litl, z_neg, z_negl, z_add, z_sub, z_mul, z_addl, z_subl, z_mull, z_cc, z_cl, z_cr, z_cm, z_cml, z_cmr, z_lt, z_le, z_eq, z_ltl, z_lel, z_eql, z_nat, z_i2l, z_l2i, z_div, z_sh, Int.toNat_natCast, z_ts, z_tsl]; omega, by simp (disch := omega) only [z_lit, z_litl, z_neg, z_negl, z_add, z_sub, z_mul, z_addl, z_subl, z_mull, z_cc, z_cl, z_cr, z_cm, z_cml, z_cmr, z_lt, z_le, z_eq, z_ltl, z_lel, z_eql, z_nat, z_i2l, z_l2i, z_div, z_sh, Int.toNat_natCast, z_ts, z_tsl]; omega, fun o ho => ?_, ?_⟩⟩
      · obtain ⟨tt, fs, rfl, hfs⟩ := hl i o ho
        exact ⟨fs, hfs⟩
      · rw [va_tw, show iI (i : Int) + (1 : Int32) = iI ((i + 1 : Nat) : Int) by rw [show (1 : Int32) = iI 1 from rfl, z_add]; rfl]
        refine ih _ (fun t ht => ?_) fun t ht => ?_
        · by_cases e : t = i
          · rw [e, va_s]
          · rw [va_ne e]; exact h1 t (by omega)
        · rw [va_ne (by omega)]; exact h2 t (by omega)
  have := key 0 (by omega) (hh 7) (fun t ht => absurd ht (Nat.not_lt_zero t)) fun t _ => rfl
  rw [show va_up hh 7 (hh 7) = hh by
    funext j
    by_cases e : j = 7
    · rw [e, va_s]
    · rw [va_ne e]] at this
  exact this
theorem cp_10 {X : mm_X} {d : Nat} {f : Nat → Int32} {fl : Nat → Int64} {g : Nat → Nat → Int32} {gl : Nat → Nat → Int64} {hh : Nat → Nat → Option Nat} {v : Nat → Value} {tx : mm_W} {P : Option Value → mm_W → Prop} {κ : Nat → Nat} (hl : i_lw tx (hh 7)) (hl2 : i_lw tx (hh 16)) (hw : wf κ) (hx : xs (f 64) (g 2) (g 3) (g 4) (f 68) (g 5) (f 70) (f 71) (f 72) (g 6) (f 74) (hh 7) (f 76) (g 8) tx κ) (h : ∀ (f' : Nat → Int32) (g' : Nat → Nat → Int32) (nl : Nat → Option Nat), (∀ x, ¬ (640 ≤ x ∧ x ≤ 654) → f' x = f x) → f' 654 = f 78 → (∀ x, ¬ (11 ≤ x ∧ x ≤ 18) → g' x = g x) → (∀ i, i < 16 → g' 18 i = g 9 i) → xs (f' 640) (g' 11) (g' 12) (g' 13) (f' 644) (g' 14) (f' 646) (f' 647) (f' 648) (g' 15) (f' 650) nl (f' 652) (g' 17) tx κ → i_lw tx nl → P none (Wd f' fl g' gl (va_up hh 16 nl) v tx)) : WP X d 45 (0, [some (.ref 10), some (.ref 1), none], [], Wd f fl g gl hh v tx) P := by
  refine c_copy_10_1 hl fun nl n1 n2 => ?_
  refine h _ _ nl (fun x hx => ?_) rfl (fun x hx => ?_) (fun i hi => cpy0 hi) ?_ (i_lw.copy hl hl2 n1 n2)
  · rw [va_ne (by omega), va_ne (by omega), va_ne (by omega), va_ne (by omega), va_ne (by omega), va_ne (by omega), va_ne (by omega), va_ne (by omega)]
  · rw [va_ne (by omega), va_ne (by omega), va_ne (by omega), va_ne (by omega), va_ne (by omega), va_ne (by omega), va_ne (by omega)]
  · exact xs_copy hx hw n1
theorem cp_1 {X : mm_X} {d : Nat} {f : Nat → Int32} {fl : Nat → Int64} {g : Nat → Nat → Int32} {gl : Nat → Nat → Int64} {hh : Nat → Nat → Option Nat} {v : Nat → Value} {tx : mm_W} {P : Option Value → mm_W → Prop} {κ : Nat → Nat} (hl : i_lw tx (hh 16)) (hl2 : i_lw tx (hh 7)) (hw : wf κ) (hx : xs (f 640) (g 11) (g 12) (g 13) (f 644) (g 14) (f 646) (f 647) (f 648) (g 15) (f 650) (hh 16) (f 652) (g 17) tx κ) (h : ∀ (f' : Nat → Int32) (g' : Nat → Nat → Int32) (nl : Nat → Option Nat), (∀ x, ¬ (64 ≤ x ∧ x ≤ 78) → f' x = f x) → f' 78 = f 654 → (∀ x, ¬ (2 ≤ x ∧ x ≤ 9) → g' x = g x) → (∀ i, i < 16 → g' 9 i = g 18 i) → xs (f' 64) (g' 2) (g' 3) (g' 4) (f' 68) (g' 5) (f' 70) (f' 71) (f' 72) (g' 6) (f' 74) nl (f' 76) (g' 8) tx κ → i_lw tx nl → P none (Wd f' fl g' gl (va_up hh 7 nl) v tx)) : WP X d 45 (0, [some (.ref 1), some (.ref 10), none], [], Wd f fl g gl hh v tx) P := by
  refine c_copy_1_10 hl fun nl n1 n2 => ?_
  refine h _ _ nl (fun x hx => ?_) rfl (fun x hx => ?_) (fun i hi => cpy0 hi) ?_ (i_lw.copy hl hl2 n1 n2)
  · rw [va_ne (by omega), va_ne (by omega), va_ne (by omega), va_ne (by omega), va_ne (by omega), va_ne (by omega), va_ne (by omega), va_ne (by omega)]
  · rw [va_ne (by omega), va_ne (by omega), va_ne (by omega), va_ne (by omega), va_ne (by omega), va_ne (by omega), va_ne (by omega)]
  · exact xs_copy hx hw n1
/-- the copies of what could be undone: there and back -/
theorem c_m_lay98 {X : mm_X} {d : Nat} {f : Nat → Int32} {fl : Nat → Int64} {g : Nat → Nat → Int32} {gl : Nat → Nat → Int64} {hh : Nat → Nat → Option Nat} {v : Nat → Value} {tx : mm_W} {P : Option Value → mm_W → Prop} (h : ∀ b' : Nat → Int32, (∀ i, i < 384 → b' i = g 97 i) → WP X d 173 (0, [some (.ref 74), some (.int 6), none], [], Wd f fl (va_up g 98 b') gl hh v tx) (fun rv w2 => WP X (d + 1) 245 (63, [some (.ref 74), some (.int (f 4777)), none, none, none], rv.toList ++ [], w2) P)) : WP X (d + 1) 245 (27, [some (.ref 74), some (.int 0), none, none, none], [], Wd f fl g gl hh v tx) P := by
  have loop : ∀ i, i ≤ 384 → ∀ b : Nat → Int32, (∀ x, x < i → b x = g 97 x) → WP X (d + 1) 245 (27, [some (.ref 74), some (.int (iI (i : Int))), none, none, none], [], Wd f fl (va_up g 98 b) gl hh v tx) P := by
    refine k_up (Q := fun i => ∀ b : Nat → Int32, (∀ x, x < i → b x = g 97 x) → WP X (d + 1) 245 (27, [some (.ref 74), some (.int (iI (i : Int))), none, none, none], [], Wd f fl (va_up g 98 b) gl hh v tx) P) (fun b hb => ?_) fun i hi ih b hb => ?_
    · refine b_m_orders_27 (h := ⟨fun _ => h b hb, fun c => absurd (by decide) c⟩) ..
    · have k2 : (iI (i : Int)).toNatClampNeg = i := by rw [z_nat (by omega)]; omega
      refine b_m_orders_27 (h := ?_) ..
      rw [k2, va_tw, va_s, i1N, va_ne (by decide)]
      refine ⟨fun c => by simp (disch := omega) only [z_lit, z_litl, z_neg, z_negl, z_add, z_sub, z_mul, z_addl, z_subl, z_mull, z_cc, z_cl, z_cr, z_cm, z_cml, z_cmr, z_lt, z_le, z_eq, z_ltl, z_lel, z_eql, z_nat, z_i2l, z_l2i, z_div, z_sh, Int.toNat_natCast, z_ts, z_tsl] at c; omega, fun _ => ⟨by simp (disch := omega) only [z_lit, z_litl, z_neg, z_negl, z_add, z_sub, z_mul, z_addl, z_subl, z_mull, z_cc, z_cl, z_cr, z_cm, z_cml, z_cmr, z_lt, z_le, z_eq, z_ltl, z_lel, z_eql, z_nat, z_i2l, z_l2i, z_div, z_sh, Int.toNat_natCast, z_ts, z_tsl]; omega, by simp (disch := omega) only [z_lit, z_litl, z_neg, z_negl, z_add, z_sub, z_mul, z_addl, z_subl, z_mull, z_cc, z_cl, z_cr, z_cm, z_cml, z_cmr, z_lt, z_le, z_eq, z_ltl, z_lel, z_eql, z_nat, z_i2l, z_l2i, z_div, z_sh, Int.toNat_natCast, z_ts, z_tsl]; omega, ih _ fun x hx => ?_⟩⟩
      by_cases e : x = i
      · rw [e, upd_s]
      · rw [upd_ne e]; exact hb x (by omega)
  have := loop 0 (by omega) (g 98) fun x hx => absurd hx (Nat.not_lt_zero x)
  rw [va_id (f := g) rfl] at this
  exact this
theorem c_m_back98 {X : mm_X} {d : Nat} {f : Nat → Int32} {fl : Nat → Int64} {g : Nat → Nat → Int32} {gl : Nat → Nat → Int64} {hh : Nat → Nat → Option Nat} {v : Nat → Value} {tx : mm_W} {P : Option Value → mm_W → Prop} {l1 l3 : Int32} (h : ∀ b : Nat → Int32, (∀ i, i < 384 → b i = g 98 i) → P (some (.int (-3))) (Wd (va_up (va_up (va_up f 4777 l1) 4778 l3) 4736 (-3 : Int32)) fl (va_up (va_up g 97 b) 75 (upd (g 75) 3 (g 75 3 + (1 : Int32)))) gl hh v tx)) : WP X (d + 1) 245 (122, [some (.ref 74), some (.int l1), none, some (.int l3), some (.int 0)], [], Wd f fl g gl hh v tx) P := by
  have loop : ∀ i, i ≤ 384 → ∀ b : Nat → Int32, (∀ x, x < i → b x = g 98 x) → WP X (d + 1) 245 (122, [some (.ref 74), some (.int l1), none, some (.int l3), some (.int (iI (i : Int)))], [], Wd f fl (va_up g 97 b) gl hh v tx) P := by
    refine k_up (Q := fun i => ∀ b : Nat → Int32, (∀ x, x < i → b x = g 98 x) → WP X (d + 1) 245 (122, [some (.ref 74), some (.int l1), none, some (.int l3), some (.int (iI (i : Int)))], [], Wd f fl (va_up g 97 b) gl hh v tx) P) (fun b hb => ?_) fun i hi ih b hb => ?_
    · refine b_m_orders_122 (h := ⟨fun _ => h b hb, fun c => absurd (by decide) c⟩) ..
    · have k2 : (iI (i : Int)).toNatClampNeg = i := by rw [z_nat (by omega)]; omega
      refine b_m_orders_122 (h := ?_) ..
      rw [k2, va_tw, va_s, i1N, va_ne (by decide)]
      refine ⟨fun c => by simp (disch := omega) only [z_lit, z_litl, z_neg, z_negl, z_add, z_sub, z_mul, z_addl, z_subl, z_mull, z_cc, z_cl, z_cr, z_cm, z_cml, z_cmr, z_lt, z_le, z_eq, z_ltl, z_lel, z_eql, z_nat, z_i2l, z_l2i, z_div, z_sh, Int.toNat_natCast, z_ts, z_tsl] at c; omega, fun _ => ⟨by simp (disch := omega) only [z_lit, z_litl, z_neg, z_negl, z_add, z_sub, z_mul, z_addl, z_subl, z_mull, z_cc, z_cl, z_cr, z_cm, z_cml, z_cmr, z_lt, z_le, z_eq, z_ltl, z_lel, z_eql, z_nat, z_i2l, z_l2i, z_div, z_sh, Int.toNat_natCast, z_ts, z_tsl]; omega, by simp (disch := omega) only [z_lit, z_litl, z_neg, z_negl, z_add, z_sub, z_mul, z_addl, z_subl, z_mull, z_cc, z_cl, z_cr, z_cm, z_cml, z_cmr, z_lt, z_le, z_eq, z_ltl, z_lel, z_eql, z_nat, z_i2l, z_l2i, z_div, z_sh, Int.toNat_natCast, z_ts, z_tsl]; omega, ih _ fun x hx => ?_⟩⟩
      by_cases e : x = i
      · rw [e, upd_s]; exact congrFun (va_ne (by decide)) i
      · rw [upd_ne e]; exact hb x (by omega)
  have := loop 0 (by omega) (g 97) fun x hx => absurd hx (Nat.not_lt_zero x)
  rw [va_id (f := g) rfl] at this
  exact this
/-! the row with the orders' tokens -/
theorem lk6 {κ : Nat → Nat} {N : Nat} {c u : Nat → Nat} : (∀ i, i < 66 → lkK κ 6 N c u N i = κ i) ∧ lkK κ 6 N c u N 66 = N := by
  refine ⟨fun i hi => ?_, ?_⟩
  · unfold lkK
    rw [if_neg (by omega), if_neg (by omega), if_neg (by omega)]
  · unfold lkK
    rw [if_pos rfl]
theorem lk6_tk {κ : Nat → Nat} {b : Nat → Nat} {n N : Nat} (hN : N ≤ 400) (hE : ts b n N = n) : tkC (lkK κ 6 N (tcK b n) (tvK b n) N) 6 = tcK b n ∧ tkV (lkK κ 6 N (tcK b n) (tvK b n) N) 6 = tvK b n := by
  have tc0 : ∀ k, N ≤ k → tcK b n k = 0 ∧ tvK b n k = 0 := fun k hk => by
    have := ts_end hE (k - N)
    rw [show N + (k - N) = k by omega] at this
    refine ⟨?_, ?_⟩
    · show tc b n (ts b n k) = 0
      rw [this, tc, if_pos (Nat.le_refl _)]
    · show tv b n (ts b n k) = 0
      rw [this, tv, if_pos (Nat.le_refl _)]
  have e66 : lkK κ 6 N (tcK b n) (tvK b n) N (60 + 6) = N := lk6.2
  refine ⟨funext fun k => ?_, funext fun k => ?_⟩
  · unfold tkC
    rw [e66]
    by_cases c : k < N
    · rw [if_pos c]
      unfold lkK
      rw [if_neg (by omega), if_pos (by omega)]
      rw [show 67 + 400 * 6 + k - (67 + 400 * 6) = k by omega]
    · rw [if_neg c, (tc0 k (by omega)).1]
  · unfold tkV
    rw [e66]
    by_cases c : k < N
    · rw [if_pos c]
      unfold lkK
      rw [if_neg (by omega), if_neg (by omega), if_pos (by omega)]
      rw [show 2867 + 400 * 6 + k - (2867 + 400 * 6) = k by omega]
    · rw [if_neg c, (tc0 k (by omega)).2]
theorem lk6_wf {κ : Nat → Nat} {b : Nat → Nat} {n N : Nat} (hb : ∀ i, b i < 256) (hN : N ≤ 400) (h : wf κ) : wf (lkK κ 6 N (tcK b n) (tvK b n) N) := by
  obtain ⟨h1, h2, h3, h4, h5, h6, h7⟩ := h
  have lo := (lk6 (κ := κ) (N := N) (c := tcK b n) (u := tvK b n)).1
  refine ⟨h1.cg fun i hi => lo i (by omega), h2.cg fun i hi => lo i (by omega), h3.cg fun i hi => lo i (by omega), h4.cg fun i hi => lo i (by omega), h5.cg fun i hi => lo i (by omega), h6.cg fun i hi => lo i (by omega), fun i => ?_⟩
  unfold lkK
  split
  · omega
  · split
    · have := tc_lt hb n (ts b n (i - (67 + 400 * 6)))
      show tc b n _ < _
      omega
    · split
      · exact tv_lt hb n _
      · exact h7 i
theorem lk6_xs {f : Nat → Int32} {g : Nat → Nat → Int32} {hh : Nat → Nat → Option Nat} {tx : mm_W} {κ : Nat → Nat} {c u : Nat → Nat} {N : Nat} (hN : N ≤ 400) (hw : wf κ) (hx : xs (f 64) (g 2) (g 3) (g 4) (f 68) (g 5) (f 70) (f 71) (f 72) (g 6) (f 74) (hh 7) (f 76) (g 8) tx κ) : xs (f 64) (g 2) (g 3) (g 4) (f 68) (g 5) (f 70) (f 71) (f 72) (g 6) (f 74) (hh 7) (f 76) (g 8) tx (lkK κ 6 N c u N) := by
  obtain ⟨h1, h2, h3, h4, h5, h6, h7⟩ := hw
  obtain ⟨xS, xH, xL, xD, xW, xT⟩ := hx
  have lo := (lk6 (κ := κ) (N := N) (c := c) (u := u)).1
  have b58 := h5.1
  refine ⟨xS.cg h1.1 fun i hi => lo i (by omega), xH.cg h2.1 fun i hi => lo i (by omega), xL.cg h3.1 fun i hi => lo i (by omega), xD.cg h4.1 fun i hi => lo i (by omega), ⟨by rw [lo 58 (by omega)]; exact xW.1, by rw [lo 59 (by omega)]; exact xW.2.1, fun t ht => ?_⟩, xT.cg fun i hi => lo i (by omega)⟩
  rw [lo 58 (by omega)] at ht
  have ho := xW.2.2 t ht
  have h400 : κ (60 + t) ≤ 400 := by
    obtain ⟨tt, tc, th, n, cs, ac, ah, q0, q1, q2, q3, q4, -⟩ := ho
    exact q4
  refine ho.cg (lo _ (by omega)) fun k hk => ⟨?_, ?_⟩
  · unfold lkK; rw [if_neg (by omega), if_neg (by omega), if_neg (by omega)]
  · unfold lkK; rw [if_neg (by omega), if_neg (by omega), if_neg (by omega)]
theorem rfX_cg {κ κ' : Nat → Nat} {F : Nat} {cs : List pC} (e : ∀ i, 23 ≤ i → κ' i = κ i) (h : rfX κ F cs) : rfX κ' F cs := by
  rcases h with h | ⟨t, n, h1, h2, h3, h4⟩
  · exact Or.inl h
  · refine Or.inr ⟨t, n, h1, h2, by rw [e _ (by omega)]; exact h3, ?_⟩
    have c1 : tkC κ' t = tkC κ t := funext fun k => by unfold tkC; rw [e _ (by omega), e _ (by omega)]
    have c2 : tkV κ' t = tkV κ t := funext fun k => by unfold tkV; rw [e _ (by omega), e _ (by omega)]
    rw [c1, c2, e _ (by omega)]
    exact h4
/-- what both leave as it was -/
def okq (a : Nat) : Bool := decide (a ≠ 6 ∧ a ≠ 14 ∧ a ≠ 16 ∧ a ≠ 18 ∧ ¬ (64 ≤ a ∧ a ≤ 78) ∧ ¬ (640 ≤ a ∧ a ≤ 654) ∧ ¬ (1985 ≤ a ∧ a ≤ 1993) ∧ a ≠ 2048 ∧ a ≠ 2049 ∧ ¬ (2437 ≤ a ∧ a ≤ 2440) ∧ a ≠ 4736 ∧ ¬ (4744 ≤ a ∧ a ≤ 4764) ∧ ¬ (4777 ≤ a ∧ a ≤ 4784))
def okr (a : Nat) : Bool := decide (¬ (2 ≤ a ∧ a ≤ 18) ∧ a ≠ 33 ∧ a ≠ 34 ∧ a ≠ 37 ∧ ¬ (41 ≤ a ∧ a ≤ 44) ∧ a ≠ 55 ∧ a ≠ 75 ∧ a ≠ 76 ∧ a ≠ 79 ∧ ¬ (83 ≤ a ∧ a ≤ 90) ∧ a ≠ 97 ∧ a ≠ 98)
theorem ord_inv {κ κ' : Nat → Nat} {f f' : Nat → Int32} {g g' : Nat → Nat → Int32} {hh : Nat → Nat → Option Nat} {tx : mm_W} {nl l7 : Nat → Option Nat} (h : k_InvB κ f g hh tx) (hf : ∀ a, okq a = true → f' a = f a) (hg : ∀ a, okr a = true → g' a = g a) (hw : wf κ') (hm : ms (g' 76) κ') (hx : xs (f' 64) (g' 2) (g' 3) (g' 4) (f' 68) (g' 5) (f' 70) (f' 71) (f' 72) (g' 6) (f' 74) l7 (f' 76) (g' 8) tx κ') (h14 : f' 14 = f' 4750) (h16 : f' 16 = f' 4778) (h18 : f' 18 = f' 4736) (h55 : ∀ j, j < 7 → g' 55 j = g' 75 j) (h6 : f' 6 = 0) (h49 : f' 4749 = 0) (ha : i_acts (f' 78) (f' 4777) (g' 9) (g' 97) κ') (hl7 : i_lw tx l7) (hnl : i_lw tx nl) : k_InvB κ' f' g' (va_up (va_up hh 16 nl) 7 l7) tx := by
  obtain ⟨-, -, -, he, -, -, hi0, hi1, hd, ⟨r1, r2, r3, r4, r5, r6, r7⟩⟩ := h
  refine ⟨hw, hm, hx, ⟨h14, ?_, h16, h18, h55⟩, ⟨0, fun _ => 0, by omega, h6, h49, fun i hi => absurd hi (Nat.not_lt_zero i)⟩, ha, ?_, ?_, ?_, ⟨r1, r2, hl7, hnl, r5, r6, r7⟩⟩
  · simp (disch := decide) only [hf]
    exact he.2.1
  · simp (disch := decide) only [hf, hg]
    exact hi0
  · simp (disch := decide) only [hf, hg]
    exact hi1
  · simp (disch := decide) only [hf, hg]
    exact hd
theorem o_orders : k_op12 k_Inv := by
  intro X f fl g gl hh v tx hI
  obtain ⟨κ, hB⟩ := hI
  have hB : k_InvB κ f g hh tx := hB
  have hB' := hB
  obtain ⟨hw, hm, hx, he, ht, ha, hi0, hi1, hd, hr⟩ := hB'
  obtain ⟨n, N, b, t1, t2, t3, hb, hx30, hx81, hNn, hE, hlt, uniq⟩ := tape_b ht
  have h80 : g 80 = k_g 80 := hd.2
  have hX : CX g b n N := ⟨t1, hb, hx30, hNn, hE, hlt⟩
  have hN4 : N ≤ 400 := by omega
  obtain ⟨tkc, tkv⟩ := lk6_tk (κ := κ) hN4 hE
  have hw1 := lk6_wf (κ := κ) (n := n) (N := N) hb hN4 hw
  have hx1 := lk6_xs (c := tcK b n) (u := tvK b n) hN4 hw hx
  obtain ⟨lo, e66⟩ := lk6 (κ := κ) (N := N) (c := tcK b n) (u := tvK b n)
  have hlay : ∀ K, ms K (lkK κ 6 N (tcK b n) (tvK b n) N) → ms K (lkK κ 6 N (tcK b n) (tvK b n) N) := fun _ h => h
  have ha1 : i_acts (f 78) (f 4777) (g 9) (g 97) (lkK κ 6 N (tcK b n) (tvK b n) N) := ha.cg fun i hi => lo i (by omega)
  generalize hκ1 : lkK κ 6 N (tcK b n) (tvK b n) N = κ1 at tkc tkv hw1 hx1 lo e66 hlay ha1
  obtain ⟨lw, hok, hR, hF⟩ := force_X hx1.2.2.2.2.1 hw1.2.2.2.2.1
  obtain ⟨a, c, R, hxa, hma, hO, hxA, hmA⟩ := of_acts hw1 ha1
  have ha16 : a ≤ 16 := hO.2.2.1
  have hlw7 : i_lw tx (hh 7) := hr.2.2.1
  have hlw16 : i_lw tx (hh 16) := hr.2.2.2.1
  refine b_x_orders_0 (d := 1998) (h := ?_) ..
  rw [t2]
  refine c_x_parse (K := 1991) (sec := true) (f := va_up (va_up f 6 0) 16 (-1)) (by decide) hX (fun cs f1 a33 a34 hcs hs1 p85 p48 p49 hph hcd => ?_) fun k f1 a33 a34 hk hs1 p85 => ?_
  · -- it was read
    obtain ⟨pk, l12, l400, -⟩ := pt_ok hX.c0 _ _ _ _ _ (Nat.zero_le _) (Nat.zero_le _) hcs
    have hT : oTX (tcK b n) (tvK b n) N cs := ⟨hX.c0, pk, l12, by omega, pt_k2 _ _ _ _ _ hcs⟩
    have s1 : ∀ x, (x < 1985 ∨ (1993 < x ∧ x ≠ 2048 ∧ x ≠ 2049)) → x ≠ 6 → x ≠ 16 → f1 x = f x := fun x h1 h2 h3 => (hs1 x h1).trans ((va_ne h3).trans (va_ne h2))
    have s6 : f1 6 = 0 := hs1 6 (by omega)
    have s16 : f1 16 = -1 := hs1 16 (by omega)
    refine b_x_orders_28 (d := 1997) (h := ⟨fun _ => ?_, fun c => absurd c (by decide)⟩) ..
    rw [p85]
    refine cp_10 (f := va_up f1 14 (-1)) (κ := κ1) hlw7 hlw16 hw1 (by
      show xs (f1 64) (g 2) (g 3) (g 4) (f1 68) (g 5) (f1 70) (f1 71) (f1 72) (g 6) (f1 74) (hh 7) (f1 76) (g 8) tx κ1
      rw [s1 64 (by omega) (by omega) (by omega), s1 68 (by omega) (by omega) (by omega), s1 70 (by omega) (by omega) (by omega), s1 71 (by omega) (by omega) (by omega), s1 72 (by omega) (by omega) (by omega), s1 74 (by omega) (by omega) (by omega), s1 76 (by omega) (by omega) (by omega)]
      exact hx1) fun f3 g3 nl e3 e654 e3g e18 hxs10 hnl => ?_
    refine b_x_orders_62 (h := ?_) ..
    have s3 : ∀ x, ¬ (640 ≤ x ∧ x ≤ 654) → x ≠ 14 → (x < 1985 ∨ (1993 < x ∧ x ≠ 2048 ∧ x ≠ 2049)) → x ≠ 6 → x ≠ 16 → f3 x = f x := fun x h1 h2 h3 h4 h5 => (e3 x h1).trans ((va_ne h2).trans (s1 x h3 h4 h5))
    have s3_6 : f3 6 = 0 := (e3 6 (by omega)).trans s6
    have s3_14 : f3 14 = -1 := (e3 14 (by omega)).trans va_s
    have s3_16 : f3 16 = -1 := (e3 16 (by omega)).trans s16
    have s3_48 : f3 2048 = iI (cs.length : Int) := (e3 2048 (by omega)).trans p48
    have g3e : ∀ x, ¬ (11 ≤ x ∧ x ≤ 18) → x ≠ 33 → x ≠ 34 → g3 x = g x := fun x h1 h2 h3 => (e3g x h1).trans ((va_ne h3).trans (va_ne h2))
    have g3_33 : g3 33 = a33 := (e3g 33 (by omega)).trans ((va_ne (by decide)).trans va_s)
    have g3_34 : g3 34 = a34 := (e3g 34 (by omega)).trans va_s
    have g3_18 : ∀ i, i < 16 → g3 18 i = g 9 i := e18
    have f3_654 : f3 654 = iI (a : Int) := e654.trans ((s1 78 (by omega) (by omega) (by omega)).trans hxa)
    have hxs3 : xs (f3 64) (g3 2) (g3 3) (g3 4) (f3 68) (g3 5) (f3 70) (f3 71) (f3 72) (g3 6) (f3 74) (hh 7) (f3 76) (g3 8) tx κ1 := by
      simp (disch := omega) only [s3, g3e]
      exact hx1
    -- the reference, from any world in which the class has done its part
    have ref : ∀ (f5 : Nat → Int32) (g5 : Nat → Nat → Int32) (gl5 : Nat → Nat → Int64) (hh5 : Nat → Nat → Option Nat) (v5 : Nat → Value) (Q : Option Value → mm_W → Prop), (∀ x, 4736 ≤ x → f5 x = f x) → (∀ x, 75 ≤ x → g5 x = g x) →
        (∀ σ2, oRun lw cs 0 (κ1, a, c, R, 0, -1) = .inl σ2 → oOK κ1 240 σ2 → ∀ (F : Nat → Int32) (fl' : Nat → Int64) (G : Nat → Nat → Int32) (v' : Nat → Value), (∀ x, x < 4736 → F x = f5 x) → (∀ x, okq x = true → 4736 ≤ x → F x = f x) → (∀ x, x < 75 → G x = g5 x) → (∀ x, okr x = true → 75 ≤ x → G x = g x) → G 75 = g 75 → ms (G 76) σ2.1 → F 4777 = iI (σ2.2.1 : Int) → mA (G 97) σ2 → F 4749 = 0 → F 4750 = -1 → F 4778 = -1 → F 4736 = 0 → Q (some (.int (iI (σ2.2.2.2.2.1 : Int)))) (Wd F fl' G gl5 hh5 v5 tx)) →
        (∀ k, oRun lw cs 0 (κ1, a, c, R, 0, -1) = .inr k → ∀ (F : Nat → Int32) (fl' : Nat → Int64) (G : Nat → Nat → Int32) (v' : Nat → Value), (∀ x, x < 4736 → F x = f5 x) → (∀ x, okq x = true → 4736 ≤ x → F x = f x) → (∀ x, x < 75 → G x = g5 x) → (∀ x, okr x = true → 75 ≤ x → G x = g x) → G 75 = upd (g 75) 3 (g 75 3 + (1 : Int32)) → ms (G 76) κ1 → F 4777 = iI (a : Int) → mA (G 97) (κ1, a, c, R, 0, -1) → F 4749 = 0 → F 4750 = -1 → F 4778 = iI (k : Int) → F 4736 = -3 → Q (some (.int (-3))) (Wd F fl' G gl5 hh5 v5 tx)) →
        WP X 1999 245 (0, [some (.ref 74), none, none, none, none], [], Wd f5 fl g5 gl5 hh5 v5 tx) Q := by
      intro f5 g5 gl5 hh5 v5 Q hf5 hg5 h1 h0
      refine b_m_orders_0 (d := 1998) (h := ?_) ..
      refine c_m_readsAs (K := 1984) (sec := true) (by decide) t1 hb (by rw [hg5 81 (by omega)]; exact hx81) (by rw [hg5 80 (by omega)]; exact h80) ((va_ne (by decide)).trans ((hf5 4749 (by omega)).trans t3)) (fun N2 cs2 f6 a83 a84 a85 hN2 hE2 hlt2 hOK hcs2 hs6 q49 q50 q54 => ?_) fun N2 k f6 a83 a84 a85 hN2 hE2 hlt2 hOK hk2 hs6 q49 q50 => ?_
      · have eN := uniq N2 hE2 hlt2
        subst eN
        rw [hcs] at hcs2
        cases hcs2
        have h6 : ∀ x, (x < 4744 ∨ x = 4747 ∨ x = 4748 ∨ (4751 ≤ x ∧ x < 4754) ∨ 4758 ≤ x) → x ≠ 4778 → f6 x = f5 x := fun x h1 h2 => (hs6 x h1).trans (va_ne h2)
        have h6e : f6 4778 = -1 := (hs6 4778 (by omega)).trans va_s
        refine b_m_orders_10 (d := 1998) (h := ⟨fun _ => ?_, fun c => absurd c (by decide)⟩) ..
        refine c_m_aside1 fun a79 h79 => ?_
        refine b_m_orders_25 (h := ?_) ..
        refine c_m_lay98 (d := 1998) fun b98 h98 => ?_
        refine c_m_lays (κ := κ) (t := 6) (N := N2) (c := tcK b n) (u := tvK b n) (by omega) hN4 q54 (fun k hk => ?_) (by
          rw [va_ne (by decide), va_ne (by decide), va_ne (by decide), va_ne (by decide), va_ne (by decide), hg5 76 (by omega)]
          exact hm) fun K hK => ?_
        · obtain ⟨o1, o2, o3⟩ := hOK k (by omega)
          exact ⟨o1, o2⟩
        rw [hκ1] at hK
        refine b_m_orders_63 (h := ?_) ..
        have eK66 : (2400 : Int32) + (va_up (va_up (va_up (va_up (va_up (va_up g5 83 a83) 84 a84) 85 a85) 79 a79) 98 b98) 76 K) 76 66 = iI ((2400 + κ1 66 : Nat) : Int) := by
          rw [va_s, hK.1 66 (by decide)]
          simp (disch := omega) only [z_lit, z_litl, z_neg, z_negl, z_add, z_sub, z_mul, z_addl, z_subl, z_mull, z_cc, z_cl, z_cr, z_cm, z_cml, z_cmr, z_lt, z_le, z_eq, z_ltl, z_lel, z_eql, z_nat, z_i2l, z_l2i, z_div, z_sh, Int.toNat_natCast, z_ts, z_tsl]
        rw [eK66]
        have g0e : ∀ x, x ≠ 83 → x ≠ 84 → x ≠ 85 → x ≠ 79 → x ≠ 98 → x ≠ 76 → (va_up (va_up (va_up (va_up (va_up (va_up g5 83 a83) 84 a84) 85 a85) 79 a79) 98 b98) 76 K) x = g5 x := fun x r1 r2 r3 r4 r5 r6 => by rw [va_ne r6, va_ne r5, va_ne r4, va_ne r3, va_ne r2, va_ne r1]
        have f0e : ∀ x, x ≠ 4763 → x ≠ 4764 → x ≠ 4779 → (va_up (va_up (va_up f6 4763 0) 4764 (-1)) 4779 2400) x = f6 x := fun x r1 r2 r3 => by rw [va_ne r3, va_ne r2, va_ne r1]
        have e4777 : f6 4777 = iI (a : Int) := (h6 4777 (by omega) (by decide)).trans ((hf5 4777 (by omega)).trans hma)
        -- what is left as it was
        have keepF : ∀ F : Nat → Int32, fmO F (va_up (va_up (va_up f6 4763 0) 4764 (-1)) 4779 2400) → (∀ x, x < 4744 → F x = f5 x) ∧ (∀ x, okq x = true → 4736 ≤ x → F x = f x) ∧ F 4749 = 0 ∧ F 4750 = -1 ∧ F 4778 = -1 := by
          intro F hF
          refine ⟨fun x hx => ?_, fun x hx hx2 => ?_, ?_, ?_, ?_⟩
          · rw [hF x (by omega) (by omega) (by omega), f0e x (by omega) (by omega) (by omega)]
            exact h6 x (by omega) (by omega)
          · have hx := of_decide_eq_true hx
            rw [hF x (by omega) (by omega) (by omega), f0e x (by omega) (by omega) (by omega), h6 x (by omega) (by omega)]
            exact hf5 x hx2
          · rw [hF 4749 (by omega) (by omega) (by omega), f0e _ (by decide) (by decide) (by decide)]; exact q49
          · rw [hF 4750 (by omega) (by omega) (by omega), f0e _ (by decide) (by decide) (by decide)]; exact q50
          · rw [hF 4778 (by omega) (by omega) (by omega), f0e _ (by decide) (by decide) (by decide)]; exact h6e
        have keepG : ∀ G : Nat → Nat → Int32, gmO G (va_up (va_up (va_up (va_up (va_up (va_up g5 83 a83) 84 a84) 85 a85) 79 a79) 98 b98) 76 K) → (∀ x, x < 75 → G x = g5 x) ∧ (∀ x, okr x = true → 75 ≤ x → G x = g x) ∧ G 75 = g 75 ∧ G 79 = a79 ∧ G 98 = b98 := by
          intro G hG
          refine ⟨fun x hx => ?_, fun x hx hx2 => ?_, ?_, ?_, ?_⟩
          · rw [hG x (by omega) (by omega) (by omega)]
            exact g0e x (by omega) (by omega) (by omega) (by omega) (by omega) (by omega)
          · have hx := of_decide_eq_true hx
            rw [hG x (by omega) (by omega) (by omega), g0e x (by omega) (by omega) (by omega) (by omega) (by omega) (by omega)]
            exact hg5 x hx2
          · rw [hG 75 (by omega) (by omega) (by omega), g0e _ (by decide) (by decide) (by decide) (by decide) (by decide) (by decide)]
            exact hg5 75 (by omega)
          · rw [hG 79 (by omega) (by omega) (by omega)]; rfl
          · rw [hG 98 (by omega) (by omega) (by omega)]; rfl
        refine mo_run (K := 1981) (κ0 := κ1) (lw := lw) (n := 4900) (by omega) hok (fun κ2 h2 => by rw [h2 59 (by decide)]; exact rfX_cg h2 hR) (by decide) 12 0 0 0 cs 0 (κ1, a, c, R, 0, -1) _ _ _ (by rw [tkc, tkv, e66]; exact hcs) (Nat.zero_le _) (Nat.zero_le _) rfl hO ⟨fun _ _ _ _ => rfl, fun _ _ _ _ => rfl, by rw [va_s]; exact hK, (f0e _ (by decide) (by decide) (by decide)).trans e4777, ?_, rfl, rfl⟩ rfl (fun σ2 hr2 hO2 F fl' G hx2 => ?_) fun k hr2 F fl' G hF hG h76 => ?_
        · rw [g0e 97 (by decide) (by decide) (by decide) (by decide) (by decide) (by decide), hg5 97 (by omega)]
          exact hmA
        · obtain ⟨w1, w2, w3, w4, w5, w6, w7⟩ := hx2
          obtain ⟨kf1, kf2, kf3, kf4, kf5⟩ := keepF F w1
          obtain ⟨kg1, kg2, kg3, kg4, kg5⟩ := keepG G w2
          refine h1 σ2 hr2 hO2 _ fl' G v5 (fun x hx => (va_ne (by omega)).trans (kf1 x (by omega))) (fun x hx hx2 => (va_ne (by have := of_decide_eq_true hx; omega)).trans (kf2 x hx hx2)) kg1 kg2 kg3 w3 ((va_ne (by decide)).trans w4) w5 ((va_ne (by decide)).trans kf3) ((va_ne (by decide)).trans kf4) ((va_ne (by decide)).trans kf5) va_s
        · obtain ⟨kf1, kf2, kf3, kf4, kf5⟩ := keepF F hF
          obtain ⟨kg1, kg2, kg3, kg4, kg5⟩ := keepG G hG
          refine c_m_takeBack1 fun K2 hK2 hK3 => ?_
          refine b_m_orders_119 (h := ?_) ..
          refine c_m_back98 (d := 1998) fun b2 hb2 => ?_
          refine h0 k hr2 _ fl' _ v5 (fun x hx => ?_) (fun x hx hx2 => ?_) (fun x hx => ?_) (fun x hx hx2 => ?_) ?_ ?_ ?_ ?_ ?_ ?_ ?_ va_s
          · rw [va_ne (by omega), va_ne (by omega), va_ne (by omega)]; exact kf1 x (by omega)
          · have hx3 := of_decide_eq_true hx
            rw [va_ne (by omega), va_ne (by omega), va_ne (by omega)]; exact kf2 x hx hx2
          · rw [va_ne (by omega), va_ne (by omega), va_ne (by omega)]; exact kg1 x hx
          · have hx3 := of_decide_eq_true hx
            rw [va_ne (by omega), va_ne (by omega), va_ne (by omega)]; exact kg2 x hx hx2
          · rw [va_s, va_ne (by decide), kg3]
          · rw [va_ne (by decide), va_ne (by decide), va_s]
            refine ⟨fun i hi => ?_, ?_⟩
            · by_cases c23 : i < 23
              · rw [hK2 i c23, kg4, h79 i c23, va_ne (by decide), va_ne (by decide), va_ne (by decide), hg5 76 (by omega), hm.1 i hi, lo i (by omega)]
              · rw [hK3 i (by omega)]; exact h76.1 i (by omega) hi
            · rw [hK3 59 (by omega)]; exact h76.2
          · rw [va_ne (by decide), va_ne (by decide), va_s]; exact e4777
          · rw [va_ne (by decide), va_s]
            intro j hj
            have hj : j < a := hj
            obtain ⟨w1, w2⟩ := hmA j hj
            have eb : ∀ x, x < 384 → b2 x = g 97 x := fun x hx => by
              rw [hb2 x hx, va_ne (by decide), kg5, h98 x hx, va_ne (by decide), va_ne (by decide), va_ne (by decide), va_ne (by decide), hg5 97 (by omega)]
            exact ⟨fun i hi => by rw [eb _ (by omega)]; exact w1 i hi, by rw [eb _ (by omega)]; exact w2⟩
          · rw [va_ne (by decide), va_ne (by decide), va_ne (by decide)]; exact kf3
          · rw [va_ne (by decide), va_ne (by decide), va_ne (by decide)]; exact kf4
          · rw [va_ne (by decide), va_s]
      · have eN := uniq N2 hE2 hlt2
        subst eN
        rw [hcs] at hk2
        cases hk2
    refine xo_run (K := 1991) (κ0 := κ1) (lw := lw) (ws := cs) hT (by rw [g3_33]; exact hph) (by rw [g3_34]; exact hcd) s3_48 hok (by exact hF) cs [] (κ1, a, c, R, 0, -1) f3 g3 _ _ rfl hO ⟨fun _ _ _ _ _ => rfl, fun _ _ _ _ _ _ => rfl, hxs3, (s3 78 (by omega) (by omega) (by omega) (by omega) (by omega)).trans hxa, by rw [g3e 9 (by omega) (by omega) (by omega)]; exact hxA⟩ (fun σ' hrun hO' f4 g4 gl4 v4 hx4 => ?_) fun k hrun f4 g4 gl4 v4 l4 l5 l7 l8 l9 l12 hf4 hg4 => ?_
    · -- all was run
      obtain ⟨w1, w2, w3, w4, w5⟩ := hx4
      have f4e : ∀ x, okq x = true → f4 x = f x := fun x hx => by
        have hx := of_decide_eq_true hx
        exact (w1 x (by omega) (by omega) (by omega) (by omega)).trans (s3 x (by omega) (by omega) (by omega) (by omega) (by omega))
      have g4e : ∀ x, okr x = true → g4 x = g x := fun x hx => by
        have hx := of_decide_eq_true hx
        exact (w2 x (by omega) (by omega) (by omega) (by omega) (by omega)).trans (g3e x (by omega) (by omega) (by omega))
      have f4h : ∀ x, 4736 ≤ x → f4 x = f x := fun x hx => (w1 x (by omega) (by omega) (by omega) (by omega)).trans (s3 x (by omega) (by omega) (by omega) (by omega) (by omega))
      have g4h : ∀ x, 45 ≤ x → g4 x = g x := fun x hx => (w2 x (by omega) (by omega) (by omega) (by omega) (by omega)).trans (g3e x (by omega) (by omega) (by omega))
      refine k_mid (ref (va_up f4 18 0) g4 gl4 (va_up hh 16 nl) v4 _ (fun x hx => (va_ne (by omega)).trans (f4h x hx)) (fun x hx => g4h x (by omega)) (fun σ2 hr2 hO2 F fl' G v' F1 F2 G1 G2 G75 hms f77 hmA2 f49 f50 f78 f36 => ?_) fun k hr2 => ?_)
      · have eσ : σ2 = σ' := by
          have := hr2.symm.trans hrun
          exact Sum.inl.inj this
        subst eσ
        have hin := ord_inv (κ' := σ2.1) (f' := F) (g' := G) (nl := nl) (l7 := hh 7) hB (fun x hx => ?_) (fun x hx => ?_) hO2.1 hms ?_ ?_ ?_ ?_ (fun j hj => ?_) ?_ f49 ?_ hlw7 hnl
        · rw [show va_up (va_up hh 16 nl) 7 (hh 7) = va_up hh 16 nl from va_id rfl] at hin
          exact k_fin0 rfl hin.inv
        · by_cases c2 : x < 4736
          · have hx3 := of_decide_eq_true hx
            rw [F1 x c2, va_ne (by omega)]; exact f4e x hx
          · exact F2 x hx (by omega)
        · by_cases c2 : x < 75
          · rw [G1 x c2]; exact g4e x hx
          · exact G2 x hx (by omega)
        · simp (disch := decide) only [F1, G1, va_ne]
          exact w3
        · rw [F1 14 (by decide), va_ne (by decide), f50, w1 14 (by omega) (by omega) (by omega) (by omega)]; exact s3_14
        · rw [F1 16 (by decide), va_ne (by decide), f78, w1 16 (by omega) (by omega) (by omega) (by omega)]; exact s3_16
        · rw [F1 18 (by decide), va_s, f36]
        · rw [G1 55 (by decide), G75, g4h 55 (by omega)]; exact he.2.2.2.2 j hj
        · rw [F1 6 (by decide), va_ne (by decide), w1 6 (by omega) (by omega) (by omega) (by omega)]; exact s3_6
        · rw [F1 78 (by decide), va_ne (by decide), w4, f77, G1 9 (by decide)]
          exact acts_of hO2 w5 hmA2
      · have := hr2.symm.trans hrun
        cases this
    · -- one could not be
      have f4e : ∀ x, okq x = true → f4 x = f x := fun x hx => by
        have hx := of_decide_eq_true hx
        exact (hf4 x (by omega) (by omega) (by omega) (by omega)).trans (s3 x (by omega) (by omega) (by omega) (by omega) (by omega))
      have g4e : ∀ x, okr x = true → g4 x = g x := fun x hx => by
        have hx := of_decide_eq_true hx
        exact (hg4 x (by omega) (by omega) (by omega) (by omega) (by omega)).trans (g3e x (by omega) (by omega) (by omega))
      have f4h : ∀ x, 4736 ≤ x → f4 x = f x := fun x hx => (hf4 x (by omega) (by omega) (by omega) (by omega)).trans (s3 x (by omega) (by omega) (by omega) (by omega) (by omega))
      have g4h : ∀ x, 45 ≤ x → g4 x = g x := fun x hx => (hg4 x (by omega) (by omega) (by omega) (by omega) (by omega)).trans (g3e x (by omega) (by omega) (by omega))
      have hxs4 : xs (f4 640) (g4 11) (g4 12) (g4 13) (f4 644) (g4 14) (f4 646) (f4 647) (f4 648) (g4 15) (f4 650) nl (f4 652) (g4 17) tx κ1 := by
        rw [hf4 640 (by omega) (by omega) (by omega) (by omega), hf4 644 (by omega) (by omega) (by omega) (by omega), hf4 646 (by omega) (by omega) (by omega) (by omega), hf4 647 (by omega) (by omega) (by omega) (by omega), hf4 648 (by omega) (by omega) (by omega) (by omega), hf4 650 (by omega) (by omega) (by omega) (by omega), hf4 652 (by omega) (by omega) (by omega) (by omega), hg4 11 (by omega) (by omega) (by omega) (by omega) (by omega), hg4 12 (by omega) (by omega) (by omega) (by omega) (by omega), hg4 13 (by omega) (by omega) (by omega) (by omega) (by omega), hg4 14 (by omega) (by omega) (by omega) (by omega) (by omega), hg4 15 (by omega) (by omega) (by omega) (by omega) (by omega), hg4 17 (by omega) (by omega) (by omega) (by omega) (by omega)]
        exact hxs10
      refine cp_1 (κ := κ1) (by exact hnl) (by exact hlw7) hw1 (by exact hxs4) fun f6 g6 n7 e6 e78 e6g e9 hxs6 hn7 => ?_
      refine b_x_orders_228 (d := 1997) (h := ?_) ..
      have e55 : g6 55 = g 55 := (e6g 55 (by omega)).trans (g4h 55 (by omega))
      rw [e55]
      refine k_mid (ref _ _ _ _ _ _ (fun x hx => ?_) (fun x hx => ?_) (fun σ2 hr2 => ?_) fun k2 hr2 F fl' G v' F1 F2 G1 G2 G75 hms f77 hmA2 f49 f50 f78 f36 => ?_)
      · rw [va_ne (by omega), va_ne (by omega), e6 x (by omega)]; exact f4h x hx
      · rw [va_ne (by omega), e6g x (by omega)]; exact g4h x (by omega)
      · have := hr2.symm.trans hrun
        cases this
      · have ek : k2 = k := by
          have := hr2.symm.trans hrun
          exact Sum.inr.inj this
        subst ek
        have hin := ord_inv (κ' := κ1) (f' := F) (g' := G) (nl := nl) (l7 := n7) hB (fun x hx => ?_) (fun x hx => ?_) hw1 hms ?_ ?_ ?_ ?_ (fun j hj => ?_) ?_ f49 ?_ hn7 hnl
        · exact k_fin0 rfl hin.inv
        · by_cases c2 : x < 4736
          · have hx3 := of_decide_eq_true hx
            rw [F1 x c2, va_ne (by omega), va_ne (by omega), e6 x (by omega)]; exact f4e x hx
          · exact F2 x hx (by omega)
        · by_cases c2 : x < 75
          · have hx3 := of_decide_eq_true hx
            rw [G1 x c2, va_ne (by omega), e6g x (by omega)]; exact g4e x hx
          · exact G2 x hx (by omega)
        · simp (disch := decide) only [F1, G1, va_ne]
          exact hxs6
        · rw [F1 14 (by decide), va_ne (by decide), va_ne (by decide), f50, e6 14 (by omega), hf4 14 (by omega) (by omega) (by omega) (by omega)]; exact s3_14
        · rw [F1 16 (by decide), va_ne (by decide), va_s, f78]
        · rw [F1 18 (by decide), va_s, f36]
        · rw [G1 55 (by decide), va_s, G75]; exact eqs_up he.2.2.2.2 (k := 3) (by decide) 1 j hj
        · rw [F1 6 (by decide), va_ne (by decide), va_ne (by decide), e6 6 (by omega), hf4 6 (by omega) (by omega) (by omega) (by omega)]; exact s3_6
        · rw [F1 78 (by decide), va_ne (by decide), va_ne (by decide), e78, hf4 654 (by omega) (by omega) (by omega) (by omega), f3_654, f77, G1 9 (by decide), va_ne (by decide)]
          refine acts_of hO (fun j hj => ?_) hmA2
          have hj : j < a := hj
          rw [e9 j (by omega), hg4 18 (by omega) (by omega) (by omega) (by omega) (by omega), g3_18 j (by omega)]
          exact hxA j hj
  · -- it could not be read
    have s1 : ∀ x, (x < 1985 ∨ (1993 < x ∧ x ≠ 2048 ∧ x ≠ 2049)) → x ≠ 6 → x ≠ 16 → f1 x = f x := fun x h1 h2 h3 => (hs1 x h1).trans ((va_ne h3).trans (va_ne h2))
    have s6 : f1 6 = 0 := hs1 6 (by omega)
    have s16 : f1 16 = -1 := hs1 16 (by omega)
    refine b_x_orders_28 (d := 1997) (h := ⟨fun c => absurd rfl c, fun _ => ?_⟩) ..
    rw [p85]
    refine k_mid ?_
    refine b_m_orders_0 (d := 1998) (h := ?_) ..
    refine c_m_readsAs (K := 1984) (sec := true) (by decide) t1 hb (by exact hx81) (by exact h80) ((va_ne (by decide)).trans ((va_ne (by decide)).trans ((va_ne (by decide)).trans ((s1 4749 (by omega) (by omega) (by omega)).trans t3)))) (fun N2 cs2 f2 a83 a84 a85 hN2 hE2 hlt2 hOK hcs2 hs2 q49 q50 q54 => ?_) fun N2 k2 f2 a83 a84 a85 hN2 hE2 hlt2 hOK hk2 hs2 q49 q50 => ?_
    · have eN := uniq N2 hE2 hlt2
      subst eN
      rw [hk] at hcs2
      cases hcs2
    · have eN := uniq N2 hE2 hlt2
      subst eN
      rw [hk] at hk2
      cases hk2
      refine b_m_orders_10 (d := 1998) (h := ⟨fun c => absurd rfl c, fun _ => ?_⟩) ..
      have f2e : ∀ x, (x < 4744 ∨ x = 4747 ∨ x = 4748 ∨ (4751 ≤ x ∧ x < 4754) ∨ 4758 ≤ x) → x ≠ 4778 → x ≠ 18 → x ≠ 14 → f2 x = f1 x := fun x h1 h2 h3 h4 => (hs2 x h1).trans ((va_ne h2).trans ((va_ne h3).trans (va_ne h4)))
      have hin := ord_inv (κ' := κ) (f' := va_up f2 4736 (-6)) (g' := va_up (va_up (va_up (va_up (va_up (va_up (va_up g 33 a33) 34 a34) 55 (upd (g 55) 6 (g 55 6 + (1 : Int32)))) 83 a83) 84 a84) 85 a85) 75 (upd (g 75) 6 (g 75 6 + (1 : Int32)))) (nl := hh 16) (l7 := hh 7) hB (fun x hx => ?_) (fun x hx => ?_) hw (by exact hm) ?_ ?_ ?_ ?_ (fun j hj => ?_) ?_ ?_ ?_ hlw7 hlw16
      · rw [show va_up (va_up hh 16 (hh 16)) 7 (hh 7) = hh by rw [va_id (f := hh) rfl, va_id rfl]] at hin
        exact k_fin0 rfl hin.inv
      · have hx3 := of_decide_eq_true hx
        rw [va_ne (by omega), f2e x (by omega) (by omega) (by omega) (by omega)]
        exact s1 x (by omega) (by omega) (by omega)
      · have hx3 := of_decide_eq_true hx
        rw [va_ne (by omega), va_ne (by omega), va_ne (by omega), va_ne (by omega), va_ne (by omega), va_ne (by omega), va_ne (by omega)]
      · have q : ∀ x, 64 ≤ x → x ≤ 78 → va_up f2 4736 (-6) x = f x := fun x h1 h2 => by
          rw [va_ne (by omega), f2e x (by omega) (by omega) (by omega) (by omega)]
          exact s1 x (by omega) (by omega) (by omega)
        rw [q 64 (by omega) (by omega), q 68 (by omega) (by omega), q 70 (by omega) (by omega), q 71 (by omega) (by omega), q 72 (by omega) (by omega), q 74 (by omega) (by omega), q 76 (by omega) (by omega)]
        exact hx
      · rw [va_ne (by decide), va_ne (by decide), q50, hs2 14 (by omega)]; rfl
      · rw [va_ne (by decide), va_ne (by decide), hs2 4778 (by omega), hs2 16 (by omega)]; exact s16
      · rw [va_ne (by decide), va_s, hs2 18 (by omega)]; rfl
      · exact eqs_up he.2.2.2.2 (k := 6) (by decide) 1 j hj
      · rw [va_ne (by decide), hs2 6 (by omega)]; exact s6
      · rw [va_ne (by decide)]; exact q49
      · have q : ∀ x, x = 78 ∨ x = 4777 → va_up f2 4736 (-6) x = f x := fun x h => by
          rw [va_ne (by omega), f2e x (by omega) (by omega) (by omega) (by omega)]
          exact s1 x (by omega) (by omega) (by omega)
        rw [q 78 (Or.inl rfl), q 4777 (Or.inr rfl)]
        exact ha
