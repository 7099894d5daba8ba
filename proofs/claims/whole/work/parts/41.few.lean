/-! few -/
def fQ (D : Nat) (a : Nat → Int64) (i : Nat) : Int64 := if i = 0 then a 0 * lI (10 - (D : Int)) / lI 10 else a i * lI (10 - (D : Int)) / lI 10 + a (i - 1) * lI (D : Int) / lI 10
def fz (D : Nat) : Nat → Nat → Int64
  | 0 => fun i => if i = 0 then lI 1000000000000 else lI 0
  | c + 1 => fQ D (fz D c)
theorem fz_0 {D i : Nat} : fz D 0 i = if i = 0 then lI 1000000000000 else lI 0 := rfl
theorem fz_s {D c i : Nat} : fz D (c + 1) i = fQ D (fz D c) i := rfl
theorem c_fill54 {X : mm_X} {d : Nat} {f : Nat → Int32} {fl : Nat → Int64} {g : Nat → Nat → Int32} {gl : Nat → Nat → Int64} {hh : Nat → Nat → Option Nat} {v : Nat → Value} {tx : mm_W} {P : Option Value → mm_W → Prop} {x : Int64} (h : ∀ a : Nat → Int64, (∀ i, i < 21 → a i = x) → P none (Wd f fl g (va_up gl 54 a) hh v tx)) : WP X d 257 (0, [some (.ref 54), some (.long x), none, none, none], [], Wd f fl g gl hh v tx) P := by
  refine b_j_fill_257_54_0 (h := ?_) ..
  have key : ∀ i, i ≤ 21 → ∀ a : Nat → Int64, (∀ y, y < i → a y = x) → WP X d 257 (6, [some (.ref 54), some (.long x), none, some (.int (iI i)), some (.int (iI 21))], [], Wd f fl g (va_up gl 54 a) hh v tx) P := by
    apply k_up (Q := fun i => ∀ a : Nat → Int64, (∀ y, y < i → a y = x) → WP X d 257 (6, [some (.ref 54), some (.long x), none, some (.int (iI i)), some (.int (iI 21))], [], Wd f fl g (va_up gl 54 a) hh v tx) P)
    · intro a ha
      refine b_j_fill_257_54_6 (h := ?_) ..
      simp (disch := omega) only [z_lit, z_litl, z_neg, z_negl, z_add, z_sub, z_mul, z_addl, z_subl, z_mull, z_cc, z_cl, z_cr, z_cm, z_cml, z_cmr, z_lt, z_le, z_eq, z_ltl, z_lel, z_eql, z_nat, z_i2l, z_l2i, z_div, z_sh, Int.toNat_natCast, z_ts, z_tsl]
      exact ⟨fun _ => h a ha, fun c => by omega⟩
    · intro i hi ih a ha
      refine b_j_fill_257_54_6 (h := ?_) ..
      simp (disch := omega) only [z_lit, z_litl, z_neg, z_negl, z_add, z_sub, z_mul, z_addl, z_subl, z_mull, z_cc, z_cl, z_cr, z_cm, z_cml, z_cmr, z_lt, z_le, z_eq, z_ltl, z_lel, z_eql, z_nat, z_i2l, z_l2i, z_div, z_sh, Int.toNat_natCast, z_ts, z_tsl, va_s, va_tw]
      refine ⟨fun c => by omega, fun _ => ⟨by omega, ?_⟩⟩
      refine ih _ fun y hy => ?_
      by_cases e : y = i
      · rw [e, vL_s]
      · rw [vL_ne e]; exact ha y (by omega)
  have := key 0 (by omega) (gl 54) fun y hy => absurd hy (Nat.not_lt_zero y)
  rw [show va_up gl 54 (gl 54) = gl by
    funext j
    by_cases e : j = 54
    · rw [e, va_s]
    · rw [va_ne e]] at this
  exact this
theorem c_x_few {X : mm_X} {d : Nat} {f : Nat → Int32} {fl : Nat → Int64} {g : Nat → Nat → Int32} {gl : Nat → Nat → Int64} {hh : Nat → Nat → Option Nat} {v : Nat → Value} {tx : mm_W} {P : Option Value → mm_W → Prop} {κ : Nat → Nat} (hwT : wT κ) (hxT : xT (g 8) κ) {k n : Nat} (hk : 1 ≤ k ∧ k ≤ 20) (hn : n ≤ 99) (h : ∀ a, P (some (.long (sL (fz (κ 53) n) k))) (Wd f fl g (va_up gl 54 a) hh v tx)) : WP X (d + 1) 91 (0, [some (.ref 0), some (.int (iI k)), some (.int (iI n)), none, none, none, none], [], Wd f fl g gl hh v tx) P := by
  have b53 := hwT.2.1
  refine b_x_few_0 (h := ?_) ..
  rw [hxT.2.1]
  simp (disch := omega) only [z_lit, z_litl, z_neg, z_negl, z_add, z_sub, z_mul, z_addl, z_subl, z_mull, z_cc, z_cl, z_cr, z_cm, z_cml, z_cmr, z_lt, z_le, z_eq, z_ltl, z_lel, z_eql, z_nat, z_i2l, z_l2i, z_div, z_sh, Int.toNat_natCast, z_ts, z_tsl]
  repeat (first | refine ⟨fun c9 => by omega, fun _ => ?_⟩ | refine ⟨fun _ => ?_, fun c9 => by omega⟩ | refine ⟨by omega, ?_⟩ | refine ⟨fun c9 => absurd trivial c9, fun _ => ?_⟩ | refine ⟨fun _ => ?_, fun c9 => absurd trivial c9⟩)
  refine c_fill54 fun a0 ha0 => ?_
  refine b_x_few_43 (h := ?_) ..
  simp (disch := omega) only [z_lit, z_litl, z_neg, z_negl, z_add, z_sub, z_mul, z_addl, z_subl, z_mull, z_cc, z_cl, z_cr, z_cm, z_cml, z_cmr, z_lt, z_le, z_eq, z_ltl, z_lel, z_eql, z_nat, z_i2l, z_l2i, z_div, z_sh, Int.toNat_natCast, z_ts, z_tsl, va_s, va_tw]
  have sums : ∀ i, i ≤ k → ∀ a : Nat → Int64, (∀ x, x < k → a x = fz (κ 53) n x) → WP X (d + 1) 91 (152, [some (.ref 0), some (.int (iI k)), none, none, some (.long (sL (fz (κ 53) n) i)), none, some (.int (iI i))], [], Wd f fl g (va_up gl 54 a) hh v tx) P := by
    apply k_up (Q := fun i => ∀ a : Nat → Int64, (∀ x, x < k → a x = fz (κ 53) n x) → WP X (d + 1) 91 (152, [some (.ref 0), some (.int (iI k)), none, none, some (.long (sL (fz (κ 53) n) i)), none, some (.int (iI i))], [], Wd f fl g (va_up gl 54 a) hh v tx) P)
    · intro a ha
      refine b_x_few_152 (h := ?_) ..
      simp (disch := omega) only [z_lit, z_litl, z_neg, z_negl, z_add, z_sub, z_mul, z_addl, z_subl, z_mull, z_cc, z_cl, z_cr, z_cm, z_cml, z_cmr, z_lt, z_le, z_eq, z_ltl, z_lel, z_eql, z_nat, z_i2l, z_l2i, z_div, z_sh, Int.toNat_natCast, z_ts, z_tsl]
      exact ⟨fun _ => h a, fun c => by omega⟩
    · intro i hi ih a ha
      refine b_x_few_152 (h := ?_) ..
      simp (disch := omega) only [z_lit, z_litl, z_neg, z_negl, z_add, z_sub, z_mul, z_addl, z_subl, z_mull, z_cc, z_cl, z_cr, z_cm, z_cml, z_cmr, z_lt, z_le, z_eq, z_ltl, z_lel, z_eql, z_nat, z_i2l, z_l2i, z_div, z_sh, Int.toNat_natCast, z_ts, z_tsl, va_s]
      refine ⟨fun c => by omega, fun _ => ⟨by omega, ?_⟩⟩
      have := ih a ha
      rw [sL, ← ha i hi] at this
      exact this
  have cl : ∀ c, c ≤ n → ∀ a : Nat → Int64, (∀ x, x < k → a x = fz (κ 53) c x) → WP X (d + 1) 91 (55, [some (.ref 0), some (.int (iI k)), some (.int (iI n)), some (.int (iI (κ 53))), some (.int (iI c)), none, none], [], Wd f fl g (va_up gl 54 a) hh v tx) P := by
    apply k_up (Q := fun c => ∀ a : Nat → Int64, (∀ x, x < k → a x = fz (κ 53) c x) → WP X (d + 1) 91 (55, [some (.ref 0), some (.int (iI k)), some (.int (iI n)), some (.int (iI (κ 53))), some (.int (iI c)), none, none], [], Wd f fl g (va_up gl 54 a) hh v tx) P)
    · intro a ha
      refine b_x_few_55 (h := ?_) ..
      simp (disch := omega) only [z_lit, z_litl, z_neg, z_negl, z_add, z_sub, z_mul, z_addl, z_subl, z_mull, z_cc, z_cl, z_cr, z_cm, z_cml, z_cmr, z_lt, z_le, z_eq, z_ltl, z_lel, z_eql, z_nat, z_i2l, z_l2i, z_div, z_sh, Int.toNat_natCast, z_ts, z_tsl]
      exact ⟨fun _ => sums 0 (by omega) a ha, fun c => by omega⟩
    · intro c hc ih a ha
      refine b_x_few_55 (h := ?_) ..
      simp (disch := omega) only [z_lit, z_litl, z_neg, z_negl, z_add, z_sub, z_mul, z_addl, z_subl, z_mull, z_cc, z_cl, z_cr, z_cm, z_cml, z_cmr, z_lt, z_le, z_eq, z_ltl, z_lel, z_eql, z_nat, z_i2l, z_l2i, z_div, z_sh, Int.toNat_natCast, z_ts, z_tsl]
      refine ⟨fun c => by omega, fun _ => ?_⟩
      have inner : ∀ s, s ≤ k - 1 → ∀ b : Nat → Int64, (∀ x, k - 1 - s < x → x < k → b x = fQ (κ 53) (fz (κ 53) c) x) → (∀ x, x ≤ k - 1 - s → b x = fz (κ 53) c x) → WP X (d + 1) 91 (66, [some (.ref 0), some (.int (iI k)), some (.int (iI n)), some (.int (iI (κ 53))), some (.int (iI c)), some (.int (iI ((k - 1 - s : Nat) : Int))), none], [], Wd f fl g (va_up gl 54 b) hh v tx) P := by
        apply k_up (Q := fun s => ∀ b : Nat → Int64, (∀ x, k - 1 - s < x → x < k → b x = fQ (κ 53) (fz (κ 53) c) x) → (∀ x, x ≤ k - 1 - s → b x = fz (κ 53) c x) → WP X (d + 1) 91 (66, [some (.ref 0), some (.int (iI k)), some (.int (iI n)), some (.int (iI (κ 53))), some (.int (iI c)), some (.int (iI ((k - 1 - s : Nat) : Int))), none], [], Wd f fl g (va_up gl 54 b) hh v tx) P)
        · intro b h1 h2
          refine b_x_few_66 (h := ?_) ..
          simp (disch := omega) only [z_lit, z_litl, z_neg, z_negl, z_add, z_sub, z_mul, z_addl, z_subl, z_mull, z_cc, z_cl, z_cr, z_cm, z_cml, z_cmr, z_lt, z_le, z_eq, z_ltl, z_lel, z_eql, z_nat, z_i2l, z_l2i, z_div, z_sh, Int.toNat_natCast, z_ts, z_tsl, va_s, va_tw]
          refine ⟨fun _ => ?_, fun c => by omega⟩
          refine ih _ fun x hx => ?_
          by_cases e : x = 0
          · rw [e, vL_s, fz_s, fQ, if_pos rfl, h2 0 (by omega)]
          · rw [vL_ne e, fz_s]; exact h1 x (by omega) hx
        · intro s hs ih2 b h1 h2
          refine b_x_few_66 (h := ?_) ..
          simp (disch := omega) only [z_lit, z_litl, z_neg, z_negl, z_add, z_sub, z_mul, z_addl, z_subl, z_mull, z_cc, z_cl, z_cr, z_cm, z_cml, z_cmr, z_lt, z_le, z_eq, z_ltl, z_lel, z_eql, z_nat, z_i2l, z_l2i, z_div, z_sh, Int.toNat_natCast, z_ts, z_tsl, va_s, va_tw]
          refine ⟨fun c => by omega, fun _ => ⟨by omega, by omega, by omega, ?_⟩⟩
          rw [show ((k - 1 - s : Nat) : Int) + -1 = ((k - 1 - (s + 1) : Nat) : Int) by omega]
          refine ih2 _ (fun x hx hx2 => ?_) fun x hx => ?_
          · by_cases e : x = k - 1 - s
            · rw [e, vL_s, fQ, if_neg (by omega), h2 _ (by omega), h2 _ (by omega)]
            · rw [vL_ne e]; exact h1 x (by omega) hx2
          · rw [vL_ne (by omega)]; exact h2 x (by omega)
      have := inner 0 (by omega) a (fun x hx hx2 => by omega) fun x hx => ha x (by omega)
      rw [show ((k - 1 - 0 : Nat) : Int) = (k : Int) - 1 by omega] at this
      exact this
  refine cl 0 (by omega) _ fun x hx => ?_
  by_cases e : x = 0
  · rw [e, vL_s, fz_0, if_pos rfl]
  · rw [vL_ne e, ha0 x (by omega), fz_0, if_neg e]
theorem c_m_few {X : mm_X} {d : Nat} {f : Nat → Int32} {fl : Nat → Int64} {g : Nat → Nat → Int32} {gl : Nat → Nat → Int64} {hh : Nat → Nat → Option Nat} {v : Nat → Value} {tx : mm_W} {P : Option Value → mm_W → Prop} {κ : Nat → Nat} (hm : ms (g 76) κ) (hwT : wT κ) {k n : Nat} (hk : 1 ≤ k ∧ k ≤ 20) (hn : n ≤ 99) (h : ∀ a, P (some (.long (sL (fz (κ 53) n) k))) (Wd f fl g (va_up gl 96 a) hh v tx)) : WP X (d + 1) 231 (0, [some (.ref 74), some (.int (iI k)), some (.int (iI n)), none, none, none], [], Wd f fl g gl hh v tx) P := by
  have b53 := hwT.2.1
  have e53 := hm.1 53 (by decide)
  refine b_m_few_0 (h := ?_) ..
  simp (disch := omega) only [z_lit, z_litl, z_neg, z_negl, z_add, z_sub, z_mul, z_addl, z_subl, z_mull, z_cc, z_cl, z_cr, z_cm, z_cml, z_cmr, z_lt, z_le, z_eq, z_ltl, z_lel, z_eql, z_nat, z_i2l, z_l2i, z_div, z_sh, Int.toNat_natCast, z_ts, z_tsl]
  repeat (first | refine ⟨fun c9 => by omega, fun _ => ?_⟩ | refine ⟨fun _ => ?_, fun c9 => by omega⟩ | refine ⟨by omega, ?_⟩ | refine ⟨fun c9 => absurd trivial c9, fun _ => ?_⟩ | refine ⟨fun _ => ?_, fun c9 => absurd trivial c9⟩)
  have sums : ∀ i, i ≤ k → ∀ a : Nat → Int64, (∀ x, x < k → a x = fz (κ 53) n x) → WP X (d + 1) 231 (151, [some (.ref 74), some (.int (iI k)), none, some (.long (sL (fz (κ 53) n) i)), none, some (.int (iI i))], [], Wd f fl g (va_up gl 96 a) hh v tx) P := by
    apply k_up (Q := fun i => ∀ a : Nat → Int64, (∀ x, x < k → a x = fz (κ 53) n x) → WP X (d + 1) 231 (151, [some (.ref 74), some (.int (iI k)), none, some (.long (sL (fz (κ 53) n) i)), none, some (.int (iI i))], [], Wd f fl g (va_up gl 96 a) hh v tx) P)
    · intro a ha
      refine b_m_few_151 (h := ?_) ..
      simp (disch := omega) only [z_lit, z_litl, z_neg, z_negl, z_add, z_sub, z_mul, z_addl, z_subl, z_mull, z_cc, z_cl, z_cr, z_cm, z_cml, z_cmr, z_lt, z_le, z_eq, z_ltl, z_lel, z_eql, z_nat, z_i2l, z_l2i, z_div, z_sh, Int.toNat_natCast, z_ts, z_tsl]
      exact ⟨fun _ => h a, fun c => by omega⟩
    · intro i hi ih a ha
      refine b_m_few_151 (h := ?_) ..
      simp (disch := omega) only [z_lit, z_litl, z_neg, z_negl, z_add, z_sub, z_mul, z_addl, z_subl, z_mull, z_cc, z_cl, z_cr, z_cm, z_cml, z_cmr, z_lt, z_le, z_eq, z_ltl, z_lel, z_eql, z_nat, z_i2l, z_l2i, z_div, z_sh, Int.toNat_natCast, z_ts, z_tsl, va_s]
      refine ⟨fun c => by omega, fun _ => ⟨by omega, ?_⟩⟩
      have := ih a ha
      rw [sL, ← ha i hi] at this
      exact this
  have cl : ∀ c, c ≤ n → ∀ a : Nat → Int64, (∀ x, x < k → a x = fz (κ 53) c x) → WP X (d + 1) 231 (57, [some (.ref 74), some (.int (iI k)), some (.int (iI n)), some (.int (iI c)), none, none], [], Wd f fl g (va_up gl 96 a) hh v tx) P := by
    apply k_up (Q := fun c => ∀ a : Nat → Int64, (∀ x, x < k → a x = fz (κ 53) c x) → WP X (d + 1) 231 (57, [some (.ref 74), some (.int (iI k)), some (.int (iI n)), some (.int (iI c)), none, none], [], Wd f fl g (va_up gl 96 a) hh v tx) P)
    · intro a ha
      refine b_m_few_57 (h := ?_) ..
      simp (disch := omega) only [z_lit, z_litl, z_neg, z_negl, z_add, z_sub, z_mul, z_addl, z_subl, z_mull, z_cc, z_cl, z_cr, z_cm, z_cml, z_cmr, z_lt, z_le, z_eq, z_ltl, z_lel, z_eql, z_nat, z_i2l, z_l2i, z_div, z_sh, Int.toNat_natCast, z_ts, z_tsl]
      exact ⟨fun _ => sums 0 (by omega) a ha, fun c => by omega⟩
    · intro c hc ih a ha
      refine b_m_few_57 (h := ?_) ..
      simp (disch := omega) only [z_lit, z_litl, z_neg, z_negl, z_add, z_sub, z_mul, z_addl, z_subl, z_mull, z_cc, z_cl, z_cr, z_cm, z_cml, z_cmr, z_lt, z_le, z_eq, z_ltl, z_lel, z_eql, z_nat, z_i2l, z_l2i, z_div, z_sh, Int.toNat_natCast, z_ts, z_tsl]
      refine ⟨fun c => by omega, fun _ => ?_⟩
      have inner : ∀ s, s ≤ k → ∀ b : Nat → Int64, (∀ x, k - s < x → x < k → b x = fQ (κ 53) (fz (κ 53) c) x) → (1 ≤ s → s < k + 1 → k - s < k → b (k - s) = fz (κ 53) c (k - s) * lI (10 - (κ 53 : Int)) / lI 10) → (∀ x, x < k - s → b x = fz (κ 53) c x) → WP X (d + 1) 231 (67, [some (.ref 74), some (.int (iI k)), some (.int (iI n)), some (.int (iI c)), some (.int (iI ((k : Int) - (s : Int) - 1))), none], [], Wd f fl g (va_up gl 96 b) hh v tx) P := by
        apply k_up (Q := fun s => ∀ b : Nat → Int64, (∀ x, k - s < x → x < k → b x = fQ (κ 53) (fz (κ 53) c) x) → (1 ≤ s → s < k + 1 → k - s < k → b (k - s) = fz (κ 53) c (k - s) * lI (10 - (κ 53 : Int)) / lI 10) → (∀ x, x < k - s → b x = fz (κ 53) c x) → WP X (d + 1) 231 (67, [some (.ref 74), some (.int (iI k)), some (.int (iI n)), some (.int (iI c)), some (.int (iI ((k : Int) - (s : Int) - 1))), none], [], Wd f fl g (va_up gl 96 b) hh v tx) P)
        · intro b h1 h2 h3
          refine b_m_few_67 (h := ?_) ..
          simp (disch := omega) only [z_lit, z_litl, z_neg, z_negl, z_add, z_sub, z_mul, z_addl, z_subl, z_mull, z_cc, z_cl, z_cr, z_cm, z_cml, z_cmr, z_lt, z_le, z_eq, z_ltl, z_lel, z_eql, z_nat, z_i2l, z_l2i, z_div, z_sh, Int.toNat_natCast, z_ts, z_tsl]
          refine ⟨fun _ => ?_, fun c => by omega⟩
          refine ih _ fun x hx => ?_
          have q2 := h2 (by omega) (by omega) (by omega)
          rw [Nat.sub_self] at q2
          by_cases e : x = 0
          · rw [e, fz_s, fQ, if_pos rfl]; exact q2
          · rw [fz_s]; exact h1 x (by omega) hx
        · intro s hs ih2 b h1 h2 h3
          rw [show (k : Int) - (s : Int) - 1 = ((k - s - 1 : Nat) : Int) by omega]
          refine b_m_few_67 (h := ?_) ..
          simp (disch := omega) only [z_lit, z_litl, z_neg, z_negl, z_add, z_sub, z_mul, z_addl, z_subl, z_mull, z_cc, z_cl, z_cr, z_cm, z_cml, z_cmr, z_lt, z_le, z_eq, z_ltl, z_lel, z_eql, z_nat, z_i2l, z_l2i, z_div, z_sh, Int.toNat_natCast, z_ts, z_tsl, e53, va_s, va_tw]
          refine ⟨fun c => by omega, fun _ => ⟨by omega, by omega, by omega, by omega, by omega, ?_⟩⟩
          rw [show ((k - s - 1 : Nat) : Int) + -1 = (k : Int) - ((s + 1 : Nat) : Int) - 1 by omega, show k - s - 1 + 1 = k - s by omega]
          refine ih2 _ (fun x hx hx2 => ?_) (fun _ _ _ => ?_) fun x hx => ?_
          · rw [vL_ne (by omega)]
            by_cases e : x = k - s
            · rw [e, vL_s, fQ, if_neg (by omega), h2 (by omega) (by omega) (by omega), h3 _ (by omega), show k - s - 1 = k - s - 1 from rfl]
            · rw [vL_ne e]; exact h1 x (by omega) hx2
          · rw [show k - (s + 1) = k - s - 1 by omega, vL_s, vL_ne (by omega), h3 _ (by omega)]
          · rw [vL_ne (by omega), vL_ne (by omega)]; exact h3 x (by omega)
      have := inner 0 (by omega) a (fun x hx hx2 => by omega) (fun h => by omega) fun x hx => ha x (by omega)
      rw [show (k : Int) - ((0 : Nat) : Int) - 1 = (k : Int) - 1 by omega] at this
      exact this
  have ini : ∀ i, i ≤ 21 → ∀ a : Nat → Int64, (∀ x, x < i → a x = fz (κ 53) 0 x) → WP X (d + 1) 231 (26, [some (.ref 74), some (.int (iI k)), some (.int (iI n)), some (.int (iI i)), none, none], [], Wd f fl g (va_up gl 96 a) hh v tx) P := by
    apply k_up (Q := fun i => ∀ a : Nat → Int64, (∀ x, x < i → a x = fz (κ 53) 0 x) → WP X (d + 1) 231 (26, [some (.ref 74), some (.int (iI k)), some (.int (iI n)), some (.int (iI i)), none, none], [], Wd f fl g (va_up gl 96 a) hh v tx) P)
    · intro a ha
      refine b_m_few_26 (h := ?_) ..
      simp (disch := omega) only [z_lit, z_litl, z_neg, z_negl, z_add, z_sub, z_mul, z_addl, z_subl, z_mull, z_cc, z_cl, z_cr, z_cm, z_cml, z_cmr, z_lt, z_le, z_eq, z_ltl, z_lel, z_eql, z_nat, z_i2l, z_l2i, z_div, z_sh, Int.toNat_natCast, z_ts, z_tsl]
      exact ⟨fun _ => cl 0 (by omega) a fun x hx => ha x (by omega), fun c => by omega⟩
    · intro i hi ih a ha
      refine b_m_few_26 (h := ?_) ..
      simp (disch := omega) only [z_lit, z_litl, z_neg, z_negl, z_add, z_sub, z_mul, z_addl, z_subl, z_mull, z_cc, z_cl, z_cr, z_cm, z_cml, z_cmr, z_lt, z_le, z_eq, z_ltl, z_lel, z_eql, z_nat, z_i2l, z_l2i, z_div, z_sh, Int.toNat_natCast, z_ts, z_tsl, va_s, va_tw]
      refine ⟨fun c => by omega, fun _ => ⟨fun c => ⟨by omega, ?_⟩, fun c => ⟨by omega, ?_⟩⟩⟩
      all_goals refine ih _ fun x hx => ?_
      all_goals by_cases e : x = i
      · rw [e, vL_s, fz_0, if_neg (by omega)]
      · rw [vL_ne e]; exact ha x (by omega)
      · rw [e, vL_s, fz_0, if_pos (by omega)]
      · rw [vL_ne e]; exact ha x (by omega)
  have := ini 0 (by omega) (gl 96) fun x hx => absurd hx (Nat.not_lt_zero x)
  rw [show va_up gl 96 (gl 96) = gl by
    funext j
    by_cases e : j = 96
    · rw [e, va_s]
    · rw [va_ne e]] at this
  exact this
theorem o_few : k_op33 k_Inv := by
  intro a0 a1 X f fl g gl hh v tx hI
  have hI' := hI
  obtain ⟨κ, ⟨wS, wH, wL, wD, wW, wT, wB⟩, hm, ⟨xS, xH, xL, xD, xW, xT⟩, he, ht, ha, hi0, hi1, hd, hr⟩ := hI
  obtain ⟨z, hz, rfl⟩ := z_ex a0
  obtain ⟨y, hy, rfl⟩ := z_ex a1
  by_cases hin : (1 ≤ z ∧ z ≤ 20) ∧ (0 ≤ y ∧ y ≤ 99)
  · obtain ⟨k, rfl⟩ : ∃ j : Nat, z = j := ⟨z.toNat, by omega⟩
    obtain ⟨n, rfl⟩ : ∃ j : Nat, y = j := ⟨y.toNat, by omega⟩
    refine c_x_few wT xT (by omega) (by omega) fun a => ?_
    refine k_midl ?_
    refine c_m_few (κ := κ) (by exact hm) wT (by omega) (by omega) fun b => ?_
    exact k_finl0 rfl hI'
  · refine b_x_few_0 (h := ?_) ..
    simp (disch := omega) only [z_lit, z_litl, z_neg, z_negl, z_add, z_sub, z_mul, z_addl, z_subl, z_mull, z_cc, z_cl, z_cr, z_cm, z_cml, z_cmr, z_lt, z_le, z_eq, z_ltl, z_lel, z_eql, z_nat, z_i2l, z_l2i, z_div, z_sh, Int.toNat_natCast, z_ts, z_tsl]
    refine ⟨fun c => ?_, fun c0 => ⟨fun c => ?_, fun c1 => ⟨fun c => ?_, fun c2 => ⟨fun c => by omega, fun c => ?_⟩⟩⟩⟩
    all_goals refine k_midl (b_m_few_0 (h := ?_) ..)
    all_goals simp (disch := omega) only [z_lit, z_litl, z_neg, z_negl, z_add, z_sub, z_mul, z_addl, z_subl, z_mull, z_cc, z_cl, z_cr, z_cm, z_cml, z_cmr, z_lt, z_le, z_eq, z_ltl, z_lel, z_eql, z_nat, z_i2l, z_l2i, z_div, z_sh, Int.toNat_natCast, z_ts, z_tsl]
    · repeat (first | exact k_finl0 rfl hI' | refine ⟨fun c9 => by omega, fun _ => ?_⟩ | refine ⟨fun _ => ?_, fun c9 => by omega⟩ | refine ⟨by omega, ?_⟩ | refine ⟨fun c9 => absurd trivial c9, fun _ => ?_⟩ | refine ⟨fun _ => ?_, fun c9 => absurd trivial c9⟩)
    · repeat (first | exact k_finl0 rfl hI' | refine ⟨fun c9 => by omega, fun _ => ?_⟩ | refine ⟨fun _ => ?_, fun c9 => by omega⟩ | refine ⟨by omega, ?_⟩ | refine ⟨fun c9 => absurd trivial c9, fun _ => ?_⟩ | refine ⟨fun _ => ?_, fun c9 => absurd trivial c9⟩)
    · by_cases h : 1 ≤ z ∧ z ≤ 20
      · repeat (first | exact k_finl0 rfl hI' | refine ⟨fun c9 => by omega, fun _ => ?_⟩ | refine ⟨fun _ => ?_, fun c9 => by omega⟩ | refine ⟨by omega, ?_⟩ | refine ⟨fun c9 => absurd trivial c9, fun _ => ?_⟩ | refine ⟨fun _ => ?_, fun c9 => absurd trivial c9⟩)
      · repeat (first | exact k_finl0 rfl hI' | refine ⟨fun c9 => by omega, fun _ => ?_⟩ | refine ⟨fun _ => ?_, fun c9 => by omega⟩ | refine ⟨by omega, ?_⟩ | refine ⟨fun c9 => absurd trivial c9, fun _ => ?_⟩ | refine ⟨fun _ => ?_, fun c9 => absurd trivial c9⟩)
    · by_cases h : 1 ≤ z ∧ z ≤ 20
      · repeat (first | exact k_finl0 rfl hI' | refine ⟨fun c9 => by omega, fun _ => ?_⟩ | refine ⟨fun _ => ?_, fun c9 => by omega⟩ | refine ⟨by omega, ?_⟩ | refine ⟨fun c9 => absurd trivial c9, fun _ => ?_⟩ | refine ⟨fun _ => ?_, fun c9 => absurd trivial c9⟩)
      · repeat (first | exact k_finl0 rfl hI' | refine ⟨fun c9 => by omega, fun _ => ?_⟩ | refine ⟨fun _ => ?_, fun c9 => by omega⟩ | refine ⟨by omega, ?_⟩ | refine ⟨fun c9 => absurd trivial c9, fun _ => ?_⟩ | refine ⟨fun _ => ?_, fun c9 => absurd trivial c9⟩)
