/-! operation row -/
theorem va_id {α : Type} {f : Nat → α} {k : Nat} {x : α} (h : f k = x) : va_up f k x = f := by
  funext j
  unfold va_up
  split
  · rename_i e; rw [e]; exact h.symm
  · rfl
def rkG (κ b : Nat → Nat) (mn : Nat) : Prop := κ 55 < 8 ∧ mn ≤ 5 ∧ ∃ l, vld b l ∧ ¬ tkD κ (digF (b_1 b) l)
def lenB (b : Nat → Nat) : Nat := if b 0 = 0 then 0 else if b 1 = 0 then 1 else if b 2 = 0 then 2 else if b 3 = 0 then 3 else 4
theorem vld.len {b : Nat → Nat} {l : Nat} (h : vld b l) : lenB b = l := by
  obtain ⟨h1, h2, h3, h4⟩ := h
  unfold lenB
  rcases one4 h1 h2 with rfl | rfl | rfl | rfl
  · have a0 := h3 0 (by omega)
    have a1 := h4 1 (by omega) (by omega)
    rw [if_neg (by omega), if_pos a1]
  · have a0 := h3 0 (by omega)
    have a1 := h3 1 (by omega)
    have a2 := h4 2 (by omega) (by omega)
    rw [if_neg (by omega), if_neg (by omega), if_pos a2]
  · have a0 := h3 0 (by omega)
    have a1 := h3 1 (by omega)
    have a2 := h3 2 (by omega)
    have a3 := h4 3 (by omega) (by omega)
    rw [if_neg (by omega), if_neg (by omega), if_neg (by omega), if_pos a3]
  · have a0 := h3 0 (by omega)
    have a1 := h3 1 (by omega)
    have a2 := h3 2 (by omega)
    have a3 := h3 3 (by omega)
    rw [if_neg (by omega), if_neg (by omega), if_neg (by omega), if_neg (by omega)]
def rB (b : Nat → Nat) (q : Nat) : Nat → Nat := fun k => b (5 * q + 1 + k)
noncomputable def rkS (b : Nat → Nat) (q : Nat) (r : (Nat → Nat) × Nat × Nat) : (Nat → Nat) × Nat × Nat :=
  @ite _ (rkG r.1 (rB b q) (b (5 * q))) (Classical.propDecidable _) (addS r.1 (digF (b_1 (rB b q)) (lenB (rB b q))) (lenB (rB b q)) (b (5 * q)), r.2.1 + 1, r.2.2) (r.1, r.2.1, r.2.2 + 1)
noncomputable def rk (b κ : Nat → Nat) : Nat → (Nat → Nat) × Nat × Nat
  | 0 => (κ, 0, 0)
  | q + 1 => rkS b q (rk b κ q)
theorem rkS_pos {b : Nat → Nat} {q l : Nat} {r : (Nat → Nat) × Nat × Nat} (h8 : r.1 55 < 8) (hm : b (5 * q) ≤ 5) (hv : vld (rB b q) l) (ht : ¬ tkD r.1 (digF (b_1 (rB b q)) l)) : rkS b q r = (addS r.1 (digF (b_1 (rB b q)) l) l (b (5 * q)), r.2.1 + 1, r.2.2) := by
  rw [rkS, if_pos ⟨h8, hm, l, hv, ht⟩, hv.len]
theorem rkS_neg {b : Nat → Nat} {q : Nat} {r : (Nat → Nat) × Nat × Nat} (h : ¬ rkG r.1 (rB b q) (b (5 * q))) : rkS b q r = (r.1, r.2.1, r.2.2 + 1) := by
  rw [rkS, if_neg h]
theorem rk_ok {b κ : Nat → Nat} (hw : wS κ) (hB : wB κ) : ∀ q, wS (rk b κ q).1 ∧ wB (rk b κ q).1 ∧ (∀ i, (i < 23 ∨ 47 ≤ i) → i ≠ 55 → (rk b κ q).1 i = κ i) ∧ (rk b κ q).2.1 + (rk b κ q).2.2 = q
  | 0 => ⟨hw, hB, fun _ _ _ => rfl, rfl⟩
  | q + 1 => by
    obtain ⟨h1, h2, h3, h4⟩ := rk_ok (b := b) hw hB q
    rw [show rk b κ (q + 1) = rkS b q (rk b κ q) from rfl]
    by_cases c : rkG (rk b κ q).1 (rB b q) (b (5 * q))
    · obtain ⟨c1, c2, l, c3, c4⟩ := c
      have hlt := digF_lt (c := b_1 (rB b q)) c3.1 c3.2.1 fun k hk => c3.le hk
      have hl := c3.2.1
      rw [rkS_pos c1 c2 c3 c4]
      refine ⟨addS_w h1 c1 c3.1 c3.2.1 (fun k hk => c3.le hk) c2 c4, addS_B h2 (by omega) (by omega) (by omega) c1, fun i hi hi2 => ?_, by show (rk b κ q).2.1 + 1 + (rk b κ q).2.2 = _; omega⟩
      show addS _ _ _ _ i = _
      rw [addS_o hi2 (by omega) (by omega) (by omega)]
      exact h3 i hi hi2
    · rw [rkS_neg c]
      exact ⟨h1, h2, h3, by show (rk b κ q).2.1 + ((rk b κ q).2.2 + 1) = _; omega⟩
theorem c_x_row {X : mm_X} {d : Nat} {f : Nat → Int32} {fl : Nat → Int64} {g : Nat → Nat → Int32} {gl : Nat → Nat → Int64} {hh : Nat → Nat → Option Nat} {v : Nat → Value} {tx : mm_W} {P : Option Value → mm_W → Prop} {κ b : Nat → Nat} {n : Nat} (hn : n ≤ 400) (hn0 : n ≠ 0) (hf : f 6 = iI n) (hb : ∀ i, i < n → b i < 256 ∧ g 30 i = iI (b i)) (hwS : wS κ) (hwB : wB κ) (hxS : xS (f 64) (g 2) (g 3) (g 4) κ)
    (h : ∀ x a1 a2 a3, xS x a1 a2 a3 (rk b κ (n / 5)).1 → P (some (.int (iI (rk b κ (n / 5)).2.1))) (Wd (va_up (va_up (va_up (va_up f 6 (iI 0)) 15 (iI (((rk b κ (n / 5)).2.2 + (if n % 5 = 0 then 0 else 1) : Nat) : Int))) 18 (iI 0)) 64 x) fl (va_up (va_up (va_up g 2 a1) 3 a2) 4 a3) gl hh v tx)) : WP X (d + 2) 67 (0, [some (.ref 0), none, none, none, none], [], Wd f fl g gl hh v tx) P := by
  have fin : ∀ (x : Int32) a1 a2 a3 (s i : Nat), xS x a1 a2 a3 (rk b κ (n / 5)).1 → s = (rk b κ (n / 5)).2.2 + (if n % 5 = 0 then 0 else 1) → n ≤ i → i ≤ 405 → WP X (d + 2) 67 (23, [some (.ref 0), some (.int (iI (rk b κ (n / 5)).2.1)), some (.int (iI i)), none, none], [], Wd (va_up (va_up f 15 (iI s)) 64 x) fl (va_up (va_up (va_up g 2 a1) 3 a2) 4 a3) gl hh v tx) P := by
    intro x a1 a2 a3 s i hx hs hi hi2
    refine b_x_row_23 (h := ?_) ..
    have v6 : va_up (va_up f 15 (iI s)) 64 x 6 = iI n := by rw [va_ne (by decide), va_ne (by decide)]; exact hf
    rw [v6]
    simp (disch := omega) only [z_lit, z_litl, z_neg, z_negl, z_add, z_sub, z_mul, z_addl, z_subl, z_mull, z_cc, z_cl, z_cr, z_cm, z_cml, z_cmr, z_lt, z_le, z_eq, z_ltl, z_lel, z_eql, z_nat, z_i2l, z_l2i, z_div, z_sh, Int.toNat_natCast, z_ts, z_tsl]
    refine ⟨fun _ => ?_, fun c => by omega⟩
    have := h x a1 a2 a3 hx
    rw [← hs] at this
    simp (disch := decide) only [va_cm] at this ⊢
    exact this
  have key : ∀ q, q ≤ n / 5 → ∀ (x : Int32) a1 a2 a3, xS x a1 a2 a3 (rk b κ q).1 → WP X (d + 2) 67 (23, [some (.ref 0), some (.int (iI (rk b κ q).2.1)), some (.int (iI ((5 * q : Nat) : Int))), none, none], [], Wd (va_up (va_up f 15 (iI (rk b κ q).2.2)) 64 x) fl (va_up (va_up (va_up g 2 a1) 3 a2) 4 a3) gl hh v tx) P := by
    apply k_up (Q := fun q => ∀ (x : Int32) a1 a2 a3, xS x a1 a2 a3 (rk b κ q).1 → WP X (d + 2) 67 (23, [some (.ref 0), some (.int (iI (rk b κ q).2.1)), some (.int (iI ((5 * q : Nat) : Int))), none, none], [], Wd (va_up (va_up f 15 (iI (rk b κ q).2.2)) 64 x) fl (va_up (va_up (va_up g 2 a1) 3 a2) 4 a3) gl hh v tx) P)
    · intro x a1 a2 a3 hx
      by_cases c0 : n % 5 = 0
      · exact fin x a1 a2 a3 _ _ hx (by rw [if_pos c0]; rfl) (by omega) (by omega)
      · have hok := (rk_ok (b := b) hwS hwB (n / 5)).2.2.2
        refine b_x_row_23 (h := ?_) ..
        have v6 : va_up (va_up f 15 (iI (rk b κ (n / 5)).2.2)) 64 x 6 = iI n := by rw [va_ne (by decide), va_ne (by decide)]; exact hf
        have v15 : va_up (va_up f 15 (iI (rk b κ (n / 5)).2.2)) 64 x 15 = iI (rk b κ (n / 5)).2.2 := by rw [va_ne (by decide), va_s]
        rw [v6, v15]
        simp (disch := omega) only [z_lit, z_litl, z_neg, z_negl, z_add, z_sub, z_mul, z_addl, z_subl, z_mull, z_cc, z_cl, z_cr, z_cm, z_cml, z_cmr, z_lt, z_le, z_eq, z_ltl, z_lel, z_eql, z_nat, z_i2l, z_l2i, z_div, z_sh, Int.toNat_natCast, z_ts, z_tsl]
        refine ⟨fun c => by omega, fun _ => ⟨fun _ => ?_, fun c => by omega⟩⟩
        simp (disch := decide) only [va_cm, va_tw]
        exact fin x a1 a2 a3 _ _ hx (by rw [if_neg c0]) (by omega) (by omega)
    · intro q hq ih x a1 a2 a3 hx
      obtain ⟨k1, k2, k3, k4⟩ := rk_ok (b := b) hwS hwB q
      obtain ⟨b0, t0⟩ := hb (5 * q) (by omega)
      obtain ⟨b1, t1⟩ := hb (5 * q + 1) (by omega)
      obtain ⟨b2, t2⟩ := hb (5 * q + 2) (by omega)
      obtain ⟨b3, t3⟩ := hb (5 * q + 3) (by omega)
      obtain ⟨b4, t4⟩ := hb (5 * q + 4) (by omega)
      have k55 := k1.1
      have v6 : va_up (va_up f 15 (iI (rk b κ q).2.2)) 64 x 6 = iI n := by rw [va_ne (by decide), va_ne (by decide)]; exact hf
      have v30 : va_up (va_up (va_up g 2 a1) 3 a2) 4 a3 30 = g 30 := by rw [va_ne (by decide), va_ne (by decide), va_ne (by decide)]
      have hlt : ∀ k, k < 4 → rB b q k < 256 := by
        intro k hk
        exact (hb (5 * q + 1 + k) (by omega)).1
      refine b_x_row_23 (h := ?_) ..
      rw [v6, v30]
      simp (disch := omega) only [z_lit, z_litl, z_neg, z_negl, z_add, z_sub, z_mul, z_addl, z_subl, z_mull, z_cc, z_cl, z_cr, z_cm, z_cml, z_cmr, z_lt, z_le, z_eq, z_ltl, z_lel, z_eql, z_nat, z_i2l, z_l2i, z_div, z_sh, Int.toNat_natCast, z_ts, z_tsl, t0, t1, t2, t3, t4]
      refine ⟨fun c => by omega, fun _ => ⟨fun c => by omega, fun _ => ⟨by omega, by omega, by omega, by omega, by omega, ?_⟩⟩⟩
      have soap : ¬ rkG (rk b κ q).1 (rB b q) (b (5 * q)) → ∀ l3 l4 s0 : Int32, s0 < 0 → WP X (d + 2) 67 (105, [some (.ref 0), some (.int (iI (rk b κ q).2.1)), some (.int (iI ((5 * q : Nat) : Int))), some (.int l3), some (.int l4)], [.int s0], Wd (va_up (va_up f 15 (iI (rk b κ q).2.2)) 64 x) fl (va_up (va_up (va_up g 2 a1) 3 a2) 4 a3) gl hh v tx) P := by
        intro hn l3 l4 s0 hs
        refine b_x_row_105 (h := ?_) ..
        have v15 : va_up (va_up f 15 (iI (rk b κ q).2.2)) 64 x 15 = iI (rk b κ q).2.2 := by rw [va_ne (by decide), va_s]
        refine ⟨fun c => absurd hs (Int32.not_lt.mpr c), fun _ => ?_⟩
        rw [v15]
        simp (disch := omega) only [z_lit, z_litl, z_neg, z_negl, z_add, z_sub, z_mul, z_addl, z_subl, z_mull, z_cc, z_cl, z_cr, z_cm, z_cml, z_cmr, z_lt, z_le, z_eq, z_ltl, z_lel, z_eql, z_nat, z_i2l, z_l2i, z_div, z_sh, Int.toNat_natCast, z_ts, z_tsl]
        simp (disch := decide) only [va_cm, va_tw]
        have e : rk b κ (q + 1) = ((rk b κ q).1, (rk b κ q).2.1, (rk b κ q).2.2 + 1) := rkS_neg hn
        have := ih x a1 a2 a3 (by rw [e]; exact hx)
        rw [e] at this
        exact this
      refine c_enter (κ := (rk b κ q).1) (mn := (b (5 * q) : Int)) (b := rB b q) k1 (by exact hx) hlt (tb_of hlt (row_or b1 b2 b3 b4)) (by omega) (fun c => ?_) (fun l hv c1 c2 ht => ?_) (fun l hv c1 c2 ht h8 => ?_) fun l hv c1 c2 ht h8 => ?_
      · refine soap ?_ _ _ _ (by decide)
        rintro ⟨g1, g2, l, g3, g4⟩
        rcases c with c | c
        · exact c ⟨by omega, by omega⟩
        · exact c l g3
      · refine soap ?_ _ _ _ (by decide)
        rintro ⟨g1, g2, l', g3, g4⟩
        rw [g3.one hv] at g4
        exact g4 ((tkn_D k1 hv).mp ht)
      · refine soap ?_ _ _ _ (by decide)
        rintro ⟨g1, -⟩
        omega
      · rw [tkn_D k1 hv] at ht
        have e : rk b κ (q + 1) = (addS (rk b κ q).1 (digF (b_1 (rB b q)) l) l (b (5 * q)), (rk b κ q).2.1 + 1, (rk b κ q).2.2) := rkS_pos h8 (by omega) hv ht
        refine b_x_row_105 (h := ?_) ..
        simp (disch := omega) only [z_lit, z_litl, z_neg, z_negl, z_add, z_sub, z_mul, z_addl, z_subl, z_mull, z_cc, z_cl, z_cr, z_cm, z_cml, z_cmr, z_lt, z_le, z_eq, z_ltl, z_lel, z_eql, z_nat, z_i2l, z_l2i, z_div, z_sh, Int.toNat_natCast, z_ts, z_tsl]
        refine ⟨fun _ => ?_, fun c => by omega⟩
        simp (disch := decide) only [va_ne, va_s, va_cm, va_tw]
        have hx' := addS_x (mn := b (5 * q)) hx h8 hv.2.1 (c := b_1 (rB b q)) fun k hk => hv.le hk
        have := ih _ _ _ _ (by rw [e]; exact hx')
        rw [e] at this
        exact this
  refine b_x_row_0 (h := ?_) ..
  rw [hf]
  simp (disch := omega) only [z_lit, z_litl, z_neg, z_negl, z_add, z_sub, z_mul, z_addl, z_subl, z_mull, z_cc, z_cl, z_cr, z_cm, z_cml, z_cmr, z_lt, z_le, z_eq, z_ltl, z_lel, z_eql, z_nat, z_i2l, z_l2i, z_div, z_sh, Int.toNat_natCast, z_ts, z_tsl]
  refine ⟨fun _ => ?_, fun c => by omega⟩
  have := key 0 (Nat.zero_le _) (f 64) (g 2) (g 3) (g 4) hxS
  rw [va_id (f := g) rfl, va_id (f := g) rfl, va_id (f := g) rfl, va_id (f := va_up f 15 _) (k := 64) (by rw [va_ne (by decide)])] at this
  exact this
theorem c_m_clothsAt {X : mm_X} {d : Nat} {f : Nat → Int32} {fl : Nat → Int64} {g : Nat → Nat → Int32} {gl : Nat → Nat → Int64} {hh : Nat → Nat → Option Nat} {v : Nat → Value} {tx : mm_W} {P : Option Value → mm_W → Prop} {at_ : Nat} (ha : at_ + 4 ≤ 400) {b : Nat → Nat} (hb : ∀ k, k < 4 → b k < 256 ∧ g 81 (at_ + k) = iI (if b k < 128 then (b k : Int) else (b k : Int) - 256)) (h1 : ∀ l, vld b l → P (some (.int (iI (digF (b_1 b) l)))) (Wd f fl g gl hh v tx)) (h0 : (∀ l, ¬ vld b l) → P (some (.int (iI (-1)))) (Wd f fl g gl hh v tx)) : WP X (d + 1) 146 (0, [some (.ref 74), some (.int (iI at_)), none, none, none, none], [], Wd f fl g gl hh v tx) P := by
  have bad : (∀ l, ¬ vld b l) → ∀ k : Nat, k ≤ 4 → ∀ l2 : Int32, WP X (d + 1) 146 (7, [some (.ref 74), some (.int (iI at_)), some (.int l2), some (.int (iI 0)), some (.int (iI k)), none], [], Wd f fl g gl hh v tx) P := by
    intro hn
    apply k_up (Q := fun k => ∀ l2, WP X (d + 1) 146 (7, [some (.ref 74), some (.int (iI at_)), some (.int l2), some (.int (iI 0)), some (.int (iI k)), none], [], Wd f fl g gl hh v tx) P)
    · intro l2
      refine b_m_clothsAt_7 (h := ?_) ..
      refine ⟨fun _ => ⟨fun _ => h0 hn, fun c => absurd rfl c⟩, fun c => absurd (Int32.le_refl _) c⟩
    · intro k hk ih l2
      refine b_m_clothsAt_7 (h := ?_) ..
      refine ⟨fun c => by simp (disch := omega) only [z_lit, z_litl, z_neg, z_negl, z_add, z_sub, z_mul, z_addl, z_subl, z_mull, z_cc, z_cl, z_cr, z_cm, z_cml, z_cmr, z_lt, z_le, z_eq, z_ltl, z_lel, z_eql, z_nat, z_i2l, z_l2i, z_div, z_sh, Int.toNat_natCast, z_ts, z_tsl] at c; omega, fun _ => ⟨by simp (disch := omega) only [z_lit, z_litl, z_neg, z_negl, z_add, z_sub, z_mul, z_addl, z_subl, z_mull, z_cc, z_cl, z_cr, z_cm, z_cml, z_cmr, z_lt, z_le, z_eq, z_ltl, z_lel, z_eql, z_nat, z_i2l, z_l2i, z_div, z_sh, Int.toNat_natCast, z_ts, z_tsl]; omega, fun _ => ?_, fun c => absurd rfl c⟩⟩
      refine b_m_clothsAt_66 (h := ?_) ..
      refine b_m_clothsAt_67 (h := ?_) ..
      refine ⟨fun _ => ?_, fun c => absurd rfl c⟩
      rw [show iI (k : Int) + (1 : Int32) = iI ((k + 1 : Nat) : Int) by rw [show (1 : Int32) = iI 1 from rfl, z_add]; rfl]
      exact ih l2
  have good : ∀ k, k ≤ 4 → ∀ s, s ≤ k → (∀ i, i < s → 1 ≤ b i ∧ b i ≤ 4) → (∀ i, s ≤ i → i < k → b i = 0) → WP X (d + 1) 146 (7, [some (.ref 74), some (.int (iI at_)), some (.int (iI (digF (b_1 b) s))), some (.int (iI 1)), some (.int (iI k)), none], [], Wd f fl g gl hh v tx) P := by
    apply k_up (Q := fun k => ∀ s, s ≤ k → (∀ i, i < s → 1 ≤ b i ∧ b i ≤ 4) → (∀ i, s ≤ i → i < k → b i = 0) → WP X (d + 1) 146 (7, [some (.ref 74), some (.int (iI at_)), some (.int (iI (digF (b_1 b) s))), some (.int (iI 1)), some (.int (iI k)), none], [], Wd f fl g gl hh v tx) P)
    · intro s hs q1 q2
      refine b_m_clothsAt_7 (h := ?_) ..
      refine ⟨fun _ => ⟨fun c => absurd c (by decide), fun _ => ⟨fun c => ?_, fun c => ?_⟩⟩, fun c => absurd (Int32.le_refl _) c⟩
      · refine h0 fun l hv => ?_
        have z0 := hv.2.2.1 0 hv.1
        by_cases e : s = 0
        · subst e
          have := q2 0 (Nat.le_refl _) (by omega)
          omega
        · have hlt := digF_lt (c := b_1 b) (l := s) (by omega) hs fun k hk => by
            have := q1 k hk
            show b k - 1 ≤ 3
            omega
          simp (disch := omega) only [z_lit, z_litl, z_neg, z_negl, z_add, z_sub, z_mul, z_addl, z_subl, z_mull, z_cc, z_cl, z_cr, z_cm, z_cml, z_cmr, z_lt, z_le, z_eq, z_ltl, z_lel, z_eql, z_nat, z_i2l, z_l2i, z_div, z_sh, Int.toNat_natCast, z_ts, z_tsl] at c
          omega
      · by_cases e : s = 0
        · subst e
          exact absurd (Int32.le_refl _) c
        · exact h1 s ⟨by omega, hs, q1, q2⟩
    · intro k hk ih s hs q1 q2
      obtain ⟨hk1, hk2⟩ := hb k hk
      have hds : digF (b_1 b) s ≤ 4444 := by
        by_cases e : s = 0
        · subst e; exact Nat.zero_le _
        · exact (digF_lt (c := b_1 b) (l := s) (by omega) (by omega) fun k hk => by
            have := q1 k hk
            show b k - 1 ≤ 3
            omega).2.2
      have to66 : (∀ l, ¬ vld b l) → ∀ l5 : Int32, WP X (d + 1) 146 (66, [some (.ref 74), some (.int (iI at_)), some (.int (iI (digF (b_1 b) s))), none, some (.int (iI k)), some (.int l5)], [], Wd f fl g gl hh v tx) P := by
        intro hn l5
        refine b_m_clothsAt_66 (h := ?_) ..
        refine b_m_clothsAt_67 (h := ?_) ..
        refine ⟨fun _ => ?_, fun c => absurd rfl c⟩
        rw [show iI (k : Int) + (1 : Int32) = iI ((k + 1 : Nat) : Int) by rw [show (1 : Int32) = iI 1 from rfl, z_add]; rfl]
        exact bad hn (k + 1) (by omega) _
      have to62 : b k ≤ 4 → (b k = 0 ∨ s = k) → WP X (d + 1) 146 (62, [some (.ref 74), some (.int (iI at_)), some (.int (iI (digF (b_1 b) s))), none, some (.int (iI k)), some (.int (iI (b k)))], [], Wd f fl g gl hh v tx) P := by
        intro h4 hor
        refine b_m_clothsAt_62 (h := ?_) ..
        refine b_m_clothsAt_67 (h := ?_) ..
        simp (disch := omega) only [z_lit, z_litl, z_neg, z_negl, z_add, z_sub, z_mul, z_addl, z_subl, z_mull, z_cc, z_cl, z_cr, z_cm, z_cml, z_cmr, z_lt, z_le, z_eq, z_ltl, z_lel, z_eql, z_nat, z_i2l, z_l2i, z_div, z_sh, Int.toNat_natCast, z_ts, z_tsl]
        refine ⟨fun c => by omega, fun _ => ⟨fun c => ?_, fun c => ?_⟩⟩
        · refine ih s (by omega) q1 fun i i1 i2 => ?_
          by_cases e : i = k
          · rw [e]; omega
          · exact q2 i i1 (by omega)
        · have e : s = k := by omega
          subst e
          have := ih (s + 1) (Nat.le_refl _) (fun i hi => by
            by_cases e : i = s
            · rw [e]; omega
            · exact q1 i (by omega)) fun i i1 i2 => by omega
          rw [digF, show b_1 b s + 1 = b s by show b s - 1 + 1 = b s; omega] at this
          exact this
      refine b_m_clothsAt_7 (h := ?_) ..
      simp (disch := omega) only [z_lit, z_litl, z_neg, z_negl, z_add, z_sub, z_mul, z_addl, z_subl, z_mull, z_cc, z_cl, z_cr, z_cm, z_cml, z_cmr, z_lt, z_le, z_eq, z_ltl, z_lel, z_eql, z_nat, z_i2l, z_l2i, z_div, z_sh, Int.toNat_natCast, z_ts, z_tsl, hk2]
      refine ⟨fun c => by omega, fun _ => ⟨by omega, fun c => by omega, fun _ => ?_⟩⟩
      by_cases h4 : b k ≤ 4
      · rw [if_pos (by omega)]
        try simp (disch := omega) only [z_lit, z_litl, z_neg, z_negl, z_add, z_sub, z_mul, z_addl, z_subl, z_mull, z_cc, z_cl, z_cr, z_cm, z_cml, z_cmr, z_lt, z_le, z_eq, z_ltl, z_lel, z_eql, z_nat, z_i2l, z_l2i, z_div, z_sh, Int.toNat_natCast, z_ts, z_tsl]
        refine ⟨fun _ => ⟨fun c => to62 h4 (Or.inl (by omega)), fun c => ⟨fun c2 => to62 h4 (Or.inr (by omega)), fun c2 => ⟨by omega, fun c3 => ?_, fun c3 => ?_⟩⟩⟩, fun c => by omega⟩
        · obtain ⟨p1, p2⟩ := hb (k - 1) (by omega)
          rw [show at_ + (k - 1) = at_ + k - 1 by omega] at p2
          rw [p2] at c3
          by_cases e : s = k
          · have := q1 (k - 1) (by omega)
            rw [if_pos (by omega)] at c3
            simp (disch := omega) only [z_lit, z_litl, z_neg, z_negl, z_add, z_sub, z_mul, z_addl, z_subl, z_mull, z_cc, z_cl, z_cr, z_cm, z_cml, z_cmr, z_lt, z_le, z_eq, z_ltl, z_lel, z_eql, z_nat, z_i2l, z_l2i, z_div, z_sh, Int.toNat_natCast, z_ts, z_tsl] at c3
            omega
          · have z0 := q2 s (Nat.le_refl _) (by omega)
            refine to66 (fun l hv => ?_) _
            by_cases x : k < l
            · have := hv.2.2.1 s (by omega); omega
            · have := hv.2.2.2 k (by omega) (by omega); omega
        · obtain ⟨p1, p2⟩ := hb (k - 1) (by omega)
          rw [show at_ + (k - 1) = at_ + k - 1 by omega] at p2
          rw [p2] at c3
          by_cases e : s = k
          · exact to62 h4 (Or.inr e)
          · have z0 := q2 (k - 1) (by omega) (by omega)
            rw [if_pos (by omega)] at c3
            simp (disch := omega) only [z_lit, z_litl, z_neg, z_negl, z_add, z_sub, z_mul, z_addl, z_subl, z_mull, z_cc, z_cl, z_cr, z_cm, z_cml, z_cmr, z_lt, z_le, z_eq, z_ltl, z_lel, z_eql, z_nat, z_i2l, z_l2i, z_div, z_sh, Int.toNat_natCast, z_ts, z_tsl] at c3
            omega
      · have hn : ∀ l, ¬ vld b l := fun l hv => by
          by_cases x : k < l
          · have := hv.2.2.1 k x; omega
          · have := hv.2.2.2 k (by omega) (by omega); omega
        split
        · try simp (disch := omega) only [z_lit, z_litl, z_neg, z_negl, z_add, z_sub, z_mul, z_addl, z_subl, z_mull, z_cc, z_cl, z_cr, z_cm, z_cml, z_cmr, z_lt, z_le, z_eq, z_ltl, z_lel, z_eql, z_nat, z_i2l, z_l2i, z_div, z_sh, Int.toNat_natCast, z_ts, z_tsl]
          exact ⟨fun c => by omega, fun _ => to66 hn _⟩
        · try simp (disch := omega) only [z_lit, z_litl, z_neg, z_negl, z_add, z_sub, z_mul, z_addl, z_subl, z_mull, z_cc, z_cl, z_cr, z_cm, z_cml, z_cmr, z_lt, z_le, z_eq, z_ltl, z_lel, z_eql, z_nat, z_i2l, z_l2i, z_div, z_sh, Int.toNat_natCast, z_ts, z_tsl]
          exact ⟨fun c => by omega, fun _ => to66 hn _⟩
  refine b_m_clothsAt_0 (h := ?_) ..
  exact good 0 (by omega) 0 (Nat.le_refl _) (fun i hi => absurd hi (Nat.not_lt_zero i)) fun i _ hi => absurd hi (Nat.not_lt_zero i)
theorem c_m_row {X : mm_X} {d : Nat} {f : Nat → Int32} {fl : Nat → Int64} {g : Nat → Nat → Int32} {gl : Nat → Nat → Int64} {hh : Nat → Nat → Option Nat} {v : Nat → Value} {tx : mm_W} {P : Option Value → mm_W → Prop} {κ b : Nat → Nat} {n : Nat} (hn : n ≤ 400) (hn0 : n ≠ 0) (hf : f 4749 = iI n) (hb : ∀ i, i < n → b i < 256 ∧ g 81 i = iI (if b i < 128 then (b i : Int) else (b i : Int) - 256)) (hwS : wS κ) (hwB : wB κ) (hm : ms (g 76) κ)
    (h : ∀ K, ms K (rk b κ (n / 5)).1 → P (some (.int (iI (rk b κ (n / 5)).2.1))) (Wd (va_up (va_up (va_up f 4736 (iI 0)) 4742 (iI (((rk b κ (n / 5)).2.2 + (if n % 5 = 0 then 0 else 1) : Nat) : Int))) 4749 (iI 0)) fl (va_up g 76 K) gl hh v tx)) : WP X (d + 4) 147 (0, [some (.ref 74), none, none, none, none], [], Wd f fl g gl hh v tx) P := by
  have key : ∀ q, q ≤ n / 5 → ∀ K, ms K (rk b κ q).1 → WP X (d + 4) 147 (40, [some (.ref 74), some (.int (iI n)), some (.int (iI (rk b κ q).2.1)), some (.int (iI ((5 * q : Nat) : Int))), none], [], Wd (va_up (va_up f 4742 (iI (((rk b κ q).2.2 + (if n % 5 = 0 then 0 else 1) : Nat) : Int))) 4749 (iI 0)) fl (va_up g 76 K) gl hh v tx) P := by
    apply k_up (Q := fun q => ∀ K, ms K (rk b κ q).1 → WP X (d + 4) 147 (40, [some (.ref 74), some (.int (iI n)), some (.int (iI (rk b κ q).2.1)), some (.int (iI ((5 * q : Nat) : Int))), none], [], Wd (va_up (va_up f 4742 (iI (((rk b κ q).2.2 + (if n % 5 = 0 then 0 else 1) : Nat) : Int))) 4749 (iI 0)) fl (va_up g 76 K) gl hh v tx) P)
    · intro K hK
      refine b_m_row_40 (h := ?_) ..
      simp (disch := omega) only [z_lit, z_litl, z_neg, z_negl, z_add, z_sub, z_mul, z_addl, z_subl, z_mull, z_cc, z_cl, z_cr, z_cm, z_cml, z_cmr, z_lt, z_le, z_eq, z_ltl, z_lel, z_eql, z_nat, z_i2l, z_l2i, z_div, z_sh, Int.toNat_natCast, z_ts, z_tsl]
      refine ⟨fun _ => ?_, fun c => by omega⟩
      have := h K hK
      simp (disch := decide) only [va_cm] at this ⊢
      exact this
    · intro q hq ih K hK
      obtain ⟨k1, k2, k3, k4⟩ := rk_ok (b := b) hwS hwB q
      have k55 := k1.1
      have e55 : K 55 = iI ((rk b κ q).1 55) := hK.1 55 (by decide)
      obtain ⟨b0, t0⟩ := hb (5 * q) (by omega)
      obtain ⟨E, hE⟩ : ∃ E, E = (if n % 5 = 0 then 0 else 1 : Nat) := ⟨_, rfl⟩
      have hE2 : E ≤ 1 := by rw [hE]; split <;> omega
      rw [← hE] at ih ⊢
      have hbr : ∀ k, k < 4 → rB b q k < 256 ∧ va_up g 76 K 81 (5 * q + 1 + k) = iI (if rB b q k < 128 then (rB b q k : Int) else (rB b q k : Int) - 256) := by
        intro k hk
        rw [va_ne (by decide)]
        exact hb (5 * q + 1 + k) (by omega)
      have v42 : va_up (va_up f 4742 (iI (((rk b κ q).2.2 + E : Nat) : Int))) 4749 (iI 0) 4742 = iI (((rk b κ q).2.2 + E : Nat) : Int) := by rw [va_ne (by decide), va_s]
      have soapW : ¬ rkG (rk b κ q).1 (rB b q) (b (5 * q)) → WP X (d + 4) 147 (40, [some (.ref 74), some (.int (iI n)), some (.int (iI (rk b κ q).2.1)), some (.int (iI ((5 * q + 5 : Nat) : Int))), none], [], Wd (va_up (va_up f 4742 (iI (((rk b κ q).2.2 + E + 1 : Nat) : Int))) 4749 (iI 0)) fl (va_up g 76 K) gl hh v tx) P := by
        intro hn
        have e : rk b κ (q + 1) = ((rk b κ q).1, (rk b κ q).2.1, (rk b κ q).2.2 + 1) := rkS_neg hn
        have := ih K (by rw [e]; exact hK)
        rw [e] at this
        rw [show (rk b κ q).2.2 + E + 1 = (rk b κ q).2.2 + 1 + E by omega]
        exact this
      refine b_m_row_40 (h := ?_) ..
      rw [v42]
      simp (disch := omega) only [z_lit, z_litl, z_neg, z_negl, z_add, z_sub, z_mul, z_addl, z_subl, z_mull, z_cc, z_cl, z_cr, z_cm, z_cml, z_cmr, z_lt, z_le, z_eq, z_ltl, z_lel, z_eql, z_nat, z_i2l, z_l2i, z_div, z_sh, Int.toNat_natCast, z_ts, z_tsl, va_s, va_ne, e55, Int.add_zero]
      refine ⟨fun c => by omega, fun _ => ⟨fun c => ?_, fun c => ⟨by omega, ?_⟩⟩⟩
      · simp (disch := decide) only [va_cm, va_tw]
        exact soapW fun ⟨g1, _⟩ => by omega
      · rw [t0]
        by_cases h5 : b (5 * q) ≤ 5
        · rw [if_pos (by omega)]
          simp (disch := omega) only [z_lit, z_litl, z_neg, z_negl, z_add, z_sub, z_mul, z_addl, z_subl, z_mull, z_cc, z_cl, z_cr, z_cm, z_cml, z_cmr, z_lt, z_le, z_eq, z_ltl, z_lel, z_eql, z_nat, z_i2l, z_l2i, z_div, z_sh, Int.toNat_natCast, z_ts, z_tsl]
          refine ⟨fun _ => ?_, fun c => by omega⟩
          refine c_m_clothsAt (at_ := 5 * q + 1) (b := rB b q) (by omega) hbr (fun l hv => ?_) fun hn => ?_
          · have hlt := digF_lt (c := b_1 (rB b q)) hv.1 hv.2.1 fun k hk => hv.le hk
            refine b_m_row_77 (h := ?_) ..
            simp (disch := omega) only [z_lit, z_litl, z_neg, z_negl, z_add, z_sub, z_mul, z_addl, z_subl, z_mull, z_cc, z_cl, z_cr, z_cm, z_cml, z_cmr, z_lt, z_le, z_eq, z_ltl, z_lel, z_eql, z_nat, z_i2l, z_l2i, z_div, z_sh, Int.toNat_natCast, z_ts, z_tsl]
            refine ⟨fun c => by omega, fun _ => ?_⟩
            refine c_m_clothsAt (at_ := 5 * q + 1) (b := rB b q) (by omega) hbr (fun l' hv' => ?_) fun hn => absurd hv (hn l)
            rw [hv'.one hv]
            refine b_m_row_89 (h := ?_) ..
            refine c_m_isTaken (κ := (rk b κ q).1) (by exact hK) k1 k2 (by omega) (fun ht => ?_) fun ht => ?_
            · refine b_m_row_92 (h := ?_) ..
              rw [v42]
              simp (disch := omega) only [z_lit, z_litl, z_neg, z_negl, z_add, z_sub, z_mul, z_addl, z_subl, z_mull, z_cc, z_cl, z_cr, z_cm, z_cml, z_cmr, z_lt, z_le, z_eq, z_ltl, z_lel, z_eql, z_nat, z_i2l, z_l2i, z_div, z_sh, Int.toNat_natCast, z_ts, z_tsl, Int.add_zero]
              refine ⟨fun _ => ?_, fun c => by omega⟩
              simp (disch := decide) only [va_cm, va_tw]
              refine soapW ?_
              rintro ⟨g1, g2, l2, g3, g4⟩
              rw [g3.one hv] at g4
              exact g4 ht
            · refine b_m_row_92 (h := ?_) ..
              simp (disch := omega) only [z_lit, z_litl, z_neg, z_negl, z_add, z_sub, z_mul, z_addl, z_subl, z_mull, z_cc, z_cl, z_cr, z_cm, z_cml, z_cmr, z_lt, z_le, z_eq, z_ltl, z_lel, z_eql, z_nat, z_i2l, z_l2i, z_div, z_sh, Int.toNat_natCast, z_ts, z_tsl]
              refine ⟨fun c => absurd trivial c, fun _ => ?_⟩
              refine c_m_clothsAt (at_ := 5 * q + 1) (b := rB b q) (by omega) hbr (fun l' hv' => ?_) fun hn => absurd hv (hn l)
              rw [hv'.one hv]
              refine b_m_row_115 (h := ?_) ..
              rw [show (iI ((5 * q : Nat) : Int)).toNatClampNeg = 5 * q by rw [z_nat (by omega)]; omega, show va_up g 76 K 81 = g 81 from va_ne (by decide), t0, if_pos (by omega)]
              refine ⟨by simp (disch := omega) only [z_lit, z_litl, z_neg, z_negl, z_add, z_sub, z_mul, z_addl, z_subl, z_mull, z_cc, z_cl, z_cr, z_cm, z_cml, z_cmr, z_lt, z_le, z_eq, z_ltl, z_lel, z_eql, z_nat, z_i2l, z_l2i, z_div, z_sh, Int.toNat_natCast, z_ts, z_tsl]; omega, ?_⟩
              refine c_m_adds (κ := (rk b κ q).1) (mn := b (5 * q)) (by exact hK) (by omega) hv.1 hv.2.1 (fun k hk => hv.le hk) ?_
              have e : rk b κ (q + 1) = (addS (rk b κ q).1 (digF (b_1 (rB b q)) l) l (b (5 * q)), (rk b κ q).2.1 + 1, (rk b κ q).2.2) := rkS_pos (by omega) h5 hv ht
              refine b_m_row_124 (h := ?_) ..
              rw [v42]
              simp (disch := omega) only [z_lit, z_litl, z_neg, z_negl, z_add, z_sub, z_mul, z_addl, z_subl, z_mull, z_cc, z_cl, z_cr, z_cm, z_cml, z_cmr, z_lt, z_le, z_eq, z_ltl, z_lel, z_eql, z_nat, z_i2l, z_l2i, z_div, z_sh, Int.toNat_natCast, z_ts, z_tsl, Int.add_zero, va_s, va_tw]
              refine ⟨fun c => by omega, fun _ => ⟨fun c => by omega, fun _ => ?_⟩⟩
              simp (disch := decide) only [va_cm, va_tw]
              have := ih _ (by rw [e]; exact addS_ms hK (by omega) (digF (b_1 (rB b q)) l) l (b (5 * q)))
              rw [e] at this
              exact this
          · refine b_m_row_77 (h := ?_) ..
            rw [v42]
            simp (disch := omega) only [z_lit, z_litl, z_neg, z_negl, z_add, z_sub, z_mul, z_addl, z_subl, z_mull, z_cc, z_cl, z_cr, z_cm, z_cml, z_cmr, z_lt, z_le, z_eq, z_ltl, z_lel, z_eql, z_nat, z_i2l, z_l2i, z_div, z_sh, Int.toNat_natCast, z_ts, z_tsl, Int.add_zero]
            refine ⟨fun _ => ?_, fun c => absurd trivial c⟩
            simp (disch := decide) only [va_cm, va_tw]
            refine soapW ?_
            rintro ⟨g1, g2, l2, g3, g4⟩
            exact hn l2 g3
        · have hs : ¬ rkG (rk b κ q).1 (rB b q) (b (5 * q)) := fun ⟨_, g2, _⟩ => by omega
          split
          · try simp (disch := omega) only [z_lit, z_litl, z_neg, z_negl, z_add, z_sub, z_mul, z_addl, z_subl, z_mull, z_cc, z_cl, z_cr, z_cm, z_cml, z_cmr, z_lt, z_le, z_eq, z_ltl, z_lel, z_eql, z_nat, z_i2l, z_l2i, z_div, z_sh, Int.toNat_natCast, z_ts, z_tsl]
            refine ⟨fun c => by omega, fun _ => ?_⟩
            simp (disch := decide) only [va_cm, va_tw]
            exact soapW hs
          · try simp (disch := omega) only [z_lit, z_litl, z_neg, z_negl, z_add, z_sub, z_mul, z_addl, z_subl, z_mull, z_cc, z_cl, z_cr, z_cm, z_cml, z_cmr, z_lt, z_le, z_eq, z_ltl, z_lel, z_eql, z_nat, z_i2l, z_l2i, z_div, z_sh, Int.toNat_natCast, z_ts, z_tsl]
            refine ⟨fun c => by omega, fun _ => ?_⟩
            simp (disch := decide) only [va_cm, va_tw]
            exact soapW hs
  have k0 := key 0 (Nat.zero_le _) (g 76) hm
  rw [va_id (f := g) rfl] at k0
  refine b_m_row_0 (h := ?_) ..
  rw [hf]
  have e5 : (n : Int) / 5 * 5 = ((n / 5 * 5 : Nat) : Int) := by omega
  simp (disch := omega) only [z_lit, z_litl, z_neg, z_negl, z_add, z_sub, z_mul, z_addl, z_subl, z_mull, z_cc, z_cl, z_cr, z_cm, z_cml, z_cmr, z_lt, z_le, z_eq, z_ltl, z_lel, z_eql, z_nat, z_i2l, z_l2i, z_div, z_sh, Int.toNat_natCast, z_ts, z_tsl, e5]
  refine ⟨fun _ => ⟨fun c => ?_, fun c => ?_⟩, fun c => by omega⟩
  · rw [if_neg (by omega)] at k0
    rw [va_cm (by decide)]
    exact k0
  · rw [if_pos (by omega)] at k0
    rw [va_cm (by decide)]
    exact k0
theorem o_row : k_op9 k_Inv := by
  intro X f fl g gl hh v tx hI
  have hI' := hI
  obtain ⟨κ, ⟨wS, wH, wL, wD, wW, wT, wB⟩, hm, ⟨xS, xH, xL, xD, xW, xT⟩, he, ⟨n, b, t1, t2, t3, t4⟩, ha, hi0, hi1, hd, hr⟩ := hI
  by_cases hn : n = 0
  · subst hn
    refine b_x_row_0 (h := ?_) ..
    rw [t2]
    simp (disch := omega) only [z_lit, z_litl, z_neg, z_negl, z_add, z_sub, z_mul, z_addl, z_subl, z_mull, z_cc, z_cl, z_cr, z_cm, z_cml, z_cmr, z_lt, z_le, z_eq, z_ltl, z_lel, z_eql, z_nat, z_i2l, z_l2i, z_div, z_sh, Int.toNat_natCast, z_ts, z_tsl]
    refine ⟨fun c => absurd rfl c, fun _ => ?_⟩
    refine k_mid (b_m_row_0 (h := ?_) ..)
    simp (disch := omega) only [z_lit, z_litl, z_neg, z_negl, z_add, z_sub, z_mul, z_addl, z_subl, z_mull, z_cc, z_cl, z_cr, z_cm, z_cml, z_cmr, z_lt, z_le, z_eq, z_ltl, z_lel, z_eql, z_nat, z_i2l, z_l2i, z_div, z_sh, Int.toNat_natCast, z_ts, z_tsl, va_ne, t3]
    refine ⟨fun c => absurd rfl c, fun _ => ?_⟩
    have := hI'.rf (iI (-6)) 6 (by decide)
    rw [show va_up (va_up f 18 (iI (-6))) 4749 (iI 0) = va_up f 18 (iI (-6)) from va_id (by rw [va_ne (by decide)]; exact t3)]
    exact k_fin0 rfl this
  · obtain ⟨k1, k2, k3, k4⟩ := rk_ok (b := b) wS wB (n / 5)
    refine c_x_row (κ := κ) (b := b) t1 hn t2 (fun i hi => ⟨(t4 i hi).1, (t4 i hi).2.1⟩) wS wB xS fun x a1 a2 a3 hx => ?_
    refine k_mid ?_
    refine c_m_row (κ := κ) (b := b) t1 hn (by exact t3) (fun i hi => ⟨(t4 i hi).1, (t4 i hi).2.2⟩) wS wB (by exact hm) fun K hK => ?_
    obtain ⟨c1, c2, c3, c4, c5, c6, c7⟩ := sgn_cl (f := f) (fl := fl) (g := g) (gl := gl) (hh := hh) (v := v) (tx := tx) ⟨wS, wH, wL, wD, wW, wT, wB⟩ k1 k2 k3
    exact k_fin0 rfl ⟨_, c1, hK, ⟨hx, c2 xH, c3 xL, c4 xD, c5 xW, c6 xT⟩, ⟨he.1, rfl, he.2.2.1, rfl, he.2.2.2.2⟩, ⟨0, b, by omega, rfl, rfl, fun i hi => absurd hi (Nat.not_lt_zero i)⟩, c7 ha, hi0, hi1, hd, hr⟩
