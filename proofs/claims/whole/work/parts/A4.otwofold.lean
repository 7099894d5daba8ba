/-! twofold, struck -/
theorem all_b : ∀ J : Nat, J < 9 → ((1 : Int32) <<< (iI (J : Int) &&& (31 : Int32)) : Int32) - (1 : Int32) = iI ((2 ^ J - 1 : Nat) : Int) := by decide +kernel
theorem all_x : ∀ J : Nat, J < 9 → ∀ b : Nat, b < 256 → b < 2 ^ J → (iI ((2 ^ J - 1 : Nat) : Int) &&& (iI (b : Int) ^^^ (-1 : Int32))) = iI (((2 ^ J - 1) ^^^ b : Nat) : Int) ∧ (iI ((2 ^ J - 1 : Nat) : Int) ^^^ iI (b : Int)) = iI (((2 ^ J - 1) ^^^ b : Nat) : Int) ∧ (2 ^ J - 1) ^^^ b < 256 := by decide +kernel
theorem all_p : ∀ J : Nat, J < 9 → ∀ b : Nat, b < 256 → b < 2 ^ J → pop8 b ≤ J ∧ (b ≠ 2 ^ J - 1 → pop8 b < pop8 (2 ^ J - 1)) := by decide +kernel
theorem all_2 : ∀ J : Nat, J < 9 → 2 ^ J ≤ 256 ∧ 1 ≤ 2 ^ J ∧ (2 ^ J - 1) ^^^ (2 ^ J - 1) = 0 := by decide +kernel
theorem o_twofold : k_op27 k_Inv := by
  intro X f fl g gl hh v tx hI
  obtain ⟨κ, hB⟩ := hI
  have hB : k_InvB κ f g hh tx := hB
  have hB' := hB
  obtain ⟨hw, hm, ⟨xS, xH, xL, xD, xW, xT⟩, he, ht, ha, hi0, hi1, hd, hr⟩ := hB'
  have hwS := hw.1
  have b55 := hwS.1
  have e2 := all_2 (κ 55) (by omega)
  refine b_x_twofold_0 (d := 1998) (h := ?_) ..
  rw [xS.1, all_b (κ 55) (by omega)]
  refine c_fewest (d := 1994) (κ := κ) (kept := 2 ^ κ 55 - 1) hwS (by exact xS) (by omega) fun r f1 g1 hT hf hg => ?_
  have hrm := hT.1
  have hB1 : ∀ g2, g93 g2 g1 → k_InvB κ f1 g2 hh tx := fun g2 hg2 => by
    have hF : ∀ a, a ≠ 3203 → f1 a = f a := hf
    have hG : ∀ a, a ≠ 51 → a ≠ 52 → a ≠ 53 → a ≠ 93 → g2 a = g a := fun a h1 h2 h3 h4 => (hg2 a h4).trans (hg a h1 h2 h3)
    unfold k_InvB
    simp (disch := decide) only [hF, hG]
    exact hB
  have fin : ∀ e : Int32, (∀ r2 : Nat, r2 = r → e = if r2 = 1000000 then -1 else iI (r2 : Int)) → WP X 1999 225 (0, [some (.ref 74), none], [], Wd f1 fl g1 gl hh v tx) (k_fn (.int e) k_Inv tx) := by
    intro e hee
    have hm1 : ms (g1 76) κ := by rw [hg 76 (by decide) (by decide) (by decide)]; exact hm
    refine b_m_twofold_0 (d := 1998) (h := ?_) ..
    rw [hm1.1 55 (by decide), all_b (κ 55) (by omega)]
    refine c_twofoldOf (d := 1994) (κ := κ) (kept := 2 ^ κ 55 - 1) hm1 hwS (by omega) fun r2 g2 hT2 hg2 => ?_
    have hr2 := hT2.uniq hT
    have he := hee r2 hr2
    have hI2 := (hB1 g2 hg2).inv (fl := fl) (gl := gl) (v := v)
    refine b_m_twofold_12 (h := ⟨fun c => ?_, fun c => ?_⟩) ..
    · rw [if_neg fun h => c (by rw [h]; rfl)] at he
      exact k_fin0 he.symm hI2
    · have c : iI (r2 : Int) = iI 1000000 := c
      rw [z_eq (by omega) (by omega)] at c
      rw [if_pos (by omega)] at he
      exact k_fin0 he.symm hI2
  refine b_x_twofold_22 (h := ⟨fun c => ?_, fun c => ?_⟩) ..
  · have c : r = 1000000 := by simp (disch := omega) only [z_lit, z_litl, z_neg, z_negl, z_add, z_sub, z_mul, z_addl, z_subl, z_mull, z_cc, z_cl, z_cr, z_cm, z_cml, z_cmr, z_lt, z_le, z_eq, z_ltl, z_lel, z_eql, z_nat, z_i2l, z_l2i, z_div, z_sh, Int.toNat_natCast, z_ts, z_tsl] at c; omega
    exact k_mid (fin _ fun r2 h2 => (if_pos (h2.trans c)).symm)
  · have c : r ≠ 1000000 := by simp (disch := omega) only [z_lit, z_litl, z_neg, z_negl, z_add, z_sub, z_mul, z_addl, z_subl, z_mull, z_cc, z_cl, z_cr, z_cm, z_cml, z_cmr, z_lt, z_le, z_eq, z_ltl, z_lel, z_eql, z_nat, z_i2l, z_l2i, z_div, z_sh, Int.toNat_natCast, z_ts, z_tsl] at c; omega
    exact k_mid (fin _ fun r2 h2 => by rw [if_neg (by omega), h2])
/-! the fewest to strike -/
def FrS (κ : Nat → Nat) (b : Nat) : Prop := Tw (sgS κ ((2 ^ κ 55 - 1) ^^^ b)) 1000000
def isBs (κ : Nat → Nat) (b : Nat) : Prop := b < 2 ^ κ 55 ∧ FrS κ b ∧ ∀ b', b' < 2 ^ κ 55 → FrS κ b' → pop8 b < pop8 b' ∨ (pop8 b = pop8 b' ∧ b ≤ b')
theorem isBs.uniq {κ : Nat → Nat} {b b' : Nat} (h : isBs κ b) (h' : isBs κ b') : b = b' := by
  have h1 := h.2.2 b' h'.1 h'.2.1
  have h2 := h'.2.2 b h.1 h.2.1
  omega
theorem FrS.all {κ : Nat → Nat} (h : κ 55 ≤ 8) : FrS κ (2 ^ κ 55 - 1) := by
  unfold FrS
  rw [(all_2 (κ 55) (by omega)).2.2]
  have no : ∀ a, ¬ sgS κ 0 a := fun a ⟨j, _, hb, _⟩ => by rw [Nat.zero_div] at hb; exact absurd hb (by decide)
  exact ⟨Nat.le_refl _, fun hlt => by omega, fun a c ha => absurd ha (no a)⟩
def psB (b : Nat) : Nat → Nat
  | 0 => 0
  | i + 1 => psB b i + b / 2 ^ i % 2
theorem psB_8 : ∀ b : Nat, b < 256 → psB b 8 = pop8 b := by decide +kernel
theorem psB_le (b : Nat) : ∀ i, psB b i ≤ i
  | 0 => Nat.le_refl _
  | i + 1 => by
    have := psB_le b i
    rw [psB]
    omega
theorem bit_v {k j : Nat} (hk : k < 2147483648) (hj : j < 32) : ((iI (k : Int) >>> (iI (j : Int) &&& (31 : Int32)) : Int32) &&& (1 : Int32)) = iI ((k / 2 ^ j % 2 : Nat) : Int) := by
  have hd : k / 2 ^ j ≤ k := Nat.div_le_self _ _
  rw [show (iI (j : Int) &&& (31 : Int32)) = iI (j : Int) from z_sh (by omega), z_shr (by omega) (by omega), Int.toNat_natCast]
  have e : ((k : Int) / 2 ^ j) = ((k / 2 ^ j : Nat) : Int) := by
    rw [Int.natCast_ediv, Int.natCast_pow]
    rfl
  rw [e]
  generalize k / 2 ^ j = q at hd ⊢
  rw [show (1 : Int32) = iI 1 from rfl, z_and (by omega) (by omega), Int.toNat_natCast, show (1 : Int).toNat = 1 from rfl, Nat.and_one_is_mod]
theorem c_ones {X : mm_X} {d : Nat} {f : Nat → Int32} {fl : Nat → Int64} {g : Nat → Nat → Int32} {gl : Nat → Nat → Int64} {hh : Nat → Nat → Option Nat} {v : Nat → Value} {tx : mm_W} {P : Option Value → mm_W → Prop} {b : Nat} (hb : b < 256) (h : P (some (.int (iI (pop8 b : Nat)))) (Wd f fl g gl hh v tx)) : WP X d 123 (0, [some (.int (iI (b : Int))), none, none], [], Wd f fl g gl hh v tx) P := by
  refine b_m_ones_0 (h := ?_) ..
  have loop : ∀ i, i ≤ 8 → WP X d 123 (4, [some (.int (iI (b : Int))), some (.int (iI (psB b i : Nat))), some (.int (iI (i : Int)))], [], Wd f fl g gl hh v tx) P := by
    refine k_up (Q := fun i => WP X d 123 (4, [some (.int (iI (b : Int))), some (.int (iI (psB b i : Nat))), some (.int (iI (i : Int)))], [], Wd f fl g gl hh v tx) P) ?_ fun i hi ih => ?_
    · refine b_m_ones_4 (h := ⟨fun _ => ?_, fun c => absurd (by decide) c⟩) ..
      rw [psB_8 b hb]
      exact h
    · refine b_m_ones_4 (h := ?_) ..
      rw [bit_v (by omega) (by omega), i1N]
      refine ⟨fun c => by simp (disch := omega) only [z_lit, z_litl, z_neg, z_negl, z_add, z_sub, z_mul, z_addl, z_subl, z_mull, z_cc, z_cl, z_cr, z_cm, z_cml, z_cmr, z_lt, z_le, z_eq, z_ltl, z_lel, z_eql, z_nat, z_i2l, z_l2i, z_div, z_sh, Int.toNat_natCast, z_ts, z_tsl] at c; omega, fun _ => ?_⟩
      have e : iI (psB b i : Nat) + iI ((b / 2 ^ i % 2 : Nat) : Int) = iI (psB b (i + 1) : Nat) := by
        rw [z_add, psB]
        congr 1
      rw [e]
      exact ih
  exact loop 0 (by omega)
theorem c_x_struck {X : mm_X} {d : Nat} {f : Nat → Int32} {fl : Nat → Int64} {g : Nat → Nat → Int32} {gl : Nat → Nat → Int64} {hh : Nat → Nat → Option Nat} {v : Nat → Value} {tx : mm_W} {P : Option Value → mm_W → Prop} {κ : Nat → Nat} {y : Int} (hwS : wS κ) (hxS : xS (f 64) (g 2) (g 3) (g 4) κ) (hy : 0 ≤ y ∧ y ≤ 1)
    (h : ∀ (b : Nat) (f' : Nat → Int32) (g' : Nat → Nat → Int32), isBs κ b → fcb f' f → g51 g' g → P (some (.int (if y = 0 then iI (pop8 b : Nat) else iI (b : Int)))) (Wd f' fl g' gl hh v tx)) :
    WP X (d + 5) 86 (0, [some (.ref 0), some (.int (iI y)), none, none, none], [], Wd f fl g gl hh v tx) P := by
  have b55 := hwS.1
  obtain ⟨p2, p1, -⟩ := all_2 (κ 55) (by omega)
  have outer : ∀ u m : Nat, ∀ (f1 : Nat → Int32) (g1 : Nat → Nat → Int32), u + m = κ 55 + 1 → fcb f1 f → g51 g1 g → (∀ b', b' < 2 ^ κ 55 → pop8 b' < m → ¬ FrS κ b') → WP X (d + 5) 86 (25, [some (.ref 0), some (.int (iI y)), some (.int (iI ((2 ^ κ 55 - 1 : Nat) : Int))), some (.int (iI (m : Int))), none], [], Wd f1 fl g1 gl hh v tx) P := by
    intro u
    induction u with
    | zero =>
      intro m f1 g1 hu hf hg hno
      have := (all_p (κ 55) (by omega) (2 ^ κ 55 - 1) (by omega) (by omega)).1
      exact absurd (FrS.all b55) (hno _ (by omega) (by omega))
    | succ u ihu =>
      intro m f1 g1 hu hf hg hno
      have inner : ∀ w s : Nat, ∀ (f2 : Nat → Int32) (g2 : Nat → Nat → Int32), w + s = 2 ^ κ 55 → fcb f2 f → g51 g2 g → (∀ b', b' < s → pop8 b' = m → ¬ FrS κ b') → WP X (d + 5) 86 (39, [some (.ref 0), some (.int (iI y)), some (.int (iI ((2 ^ κ 55 - 1 : Nat) : Int))), some (.int (iI (m : Int))), some (.int (iI (s : Int)))], [], Wd f2 fl g2 gl hh v tx) P := by
        intro w
        induction w with
        | zero =>
          intro s f2 g2 hs hf2 hg2 hn2
          refine b_x_struck_39 (d := d + 4) (h := ⟨fun _ => ?_, fun c => by simp (disch := omega) only [z_lit, z_litl, z_neg, z_negl, z_add, z_sub, z_mul, z_addl, z_subl, z_mull, z_cc, z_cl, z_cr, z_cm, z_cml, z_cmr, z_lt, z_le, z_eq, z_ltl, z_lel, z_eql, z_nat, z_i2l, z_l2i, z_div, z_sh, Int.toNat_natCast, z_ts, z_tsl] at c; omega⟩) ..
          rw [i1N]
          refine ihu (m + 1) f2 g2 (by omega) hf2 hg2 fun b' h1 h2 => ?_
          by_cases e : pop8 b' = m
          · exact hn2 b' (by omega) e
          · exact hno b' h1 (by omega)
        | succ w ihw =>
          intro s f2 g2 hs hf2 hg2 hn2
          have hsl : s < 2 ^ κ 55 := by omega
          obtain ⟨x1, x2, x3⟩ := all_x (κ 55) (by omega) s (by omega) hsl
          have pl := (all_p (κ 55) (by omega) s (by omega) hsl).1
          refine b_x_struck_39 (d := d + 4) (h := ⟨fun c => by simp (disch := omega) only [z_lit, z_litl, z_neg, z_negl, z_add, z_sub, z_mul, z_addl, z_subl, z_mull, z_cc, z_cl, z_cr, z_cm, z_cml, z_cmr, z_lt, z_le, z_eq, z_ltl, z_lel, z_eql, z_nat, z_i2l, z_l2i, z_div, z_sh, Int.toNat_natCast, z_ts, z_tsl] at c; omega, fun _ => ?_⟩) ..
          refine c_bit (by omega) ?_
          refine b_x_struck_50 (d := d + 4) (h := ?_) ..
          rw [x1, i1N]
          have skip : (pop8 s = m → ¬ FrS κ s) → ∀ (f3 : Nat → Int32) (g3 : Nat → Nat → Int32), fcb f3 f → g51 g3 g → WP X (d + 5) 86 (39, [some (.ref 0), some (.int (iI y)), some (.int (iI ((2 ^ κ 55 - 1 : Nat) : Int))), some (.int (iI (m : Int))), some (.int (iI ((s + 1 : Nat) : Int)))], [], Wd f3 fl g3 gl hh v tx) P := fun hn f3 g3 hf3 hg3 =>
            ihw (s + 1) f3 g3 (by omega) hf3 hg3 fun b' h1 h2 => by
              by_cases e : b' = s
              · subst e; exact hn h2
              · exact hn2 b' (by omega) h2
          refine ⟨fun c => skip (fun e => absurd (by rw [e]) c) f2 g2 hf2 hg2, fun c => ?_⟩
          have c : pop8 s = m := by simp (disch := omega) only [z_lit, z_litl, z_neg, z_negl, z_add, z_sub, z_mul, z_addl, z_subl, z_mull, z_cc, z_cl, z_cr, z_cm, z_cml, z_cmr, z_lt, z_le, z_eq, z_ltl, z_lel, z_eql, z_nat, z_i2l, z_l2i, z_div, z_sh, Int.toNat_natCast, z_ts, z_tsl] at c; omega
          have hxS2 : xS (f2 64) (g2 2) (g2 3) (g2 4) κ := by rw [hf2 64 (by decide), hg2 2 (by decide) (by decide) (by decide), hg2 3 (by decide) (by decide) (by decide), hg2 4 (by decide) (by decide) (by decide)]; exact hxS
          refine c_fewest (d := d) (κ := κ) (kept := (2 ^ κ 55 - 1) ^^^ s) hwS hxS2 x3 fun r f3 g3 hT hf3 hg3 => ?_
          have hrm := hT.1
          have hf4 : fcb f3 f := fun a h1 => (hf3 a h1).trans (hf2 a h1)
          have hg4 : g51 g3 g := fun a h1 h2 h3 => (hg3 a h1 h2 h3).trans (hg2 a h1 h2 h3)
          refine b_x_struck_71 (h := ⟨fun c2 => ?_, fun c2 => ?_⟩) ..
          · rw [i1N]
            have c2 : r < 1000000 := by simp (disch := omega) only [z_lit, z_litl, z_neg, z_negl, z_add, z_sub, z_mul, z_addl, z_subl, z_mull, z_cc, z_cl, z_cr, z_cm, z_cml, z_cmr, z_lt, z_le, z_eq, z_ltl, z_lel, z_eql, z_nat, z_i2l, z_l2i, z_div, z_sh, Int.toNat_natCast, z_ts, z_tsl] at c2; omega
            exact skip (fun _ h2 => by have := hT.uniq h2; omega) f3 g3 hf4 hg4
          · have c2 : r = 1000000 := by simp (disch := omega) only [z_lit, z_litl, z_neg, z_negl, z_add, z_sub, z_mul, z_addl, z_subl, z_mull, z_cc, z_cl, z_cr, z_cm, z_cml, z_cmr, z_lt, z_le, z_eq, z_ltl, z_lel, z_eql, z_nat, z_i2l, z_l2i, z_div, z_sh, Int.toNat_natCast, z_ts, z_tsl] at c2; omega
            subst c2
            have hb : isBs κ s := ⟨hsl, hT, fun b' h1 h2 => by
              by_cases e : pop8 b' < m
              · exact absurd h2 (hno b' h1 e)
              · by_cases e2 : pop8 b' = m
                · by_cases e3 : b' < s
                  · exact absurd h2 (hn2 b' e3 e2)
                  · exact Or.inr ⟨by omega, by omega⟩
                · exact Or.inl (by omega)⟩
            have hP := h s f3 g3 hb hf4 hg4
            refine ⟨fun c3 => ?_, fun c3 => ?_⟩
            · rw [if_neg fun e => c3 (by rw [e]; rfl)] at hP
              exact hP
            · have c3 : iI y = iI 0 := c3
              rw [z_eq (by omega) (by omega)] at c3
              rw [if_pos c3, c] at hP
              exact hP
      refine b_x_struck_25 (h := ?_) ..
      rw [show f1 64 = iI (κ 55 : Int) from (hf 64 (by decide)).trans hxS.1]
      exact ⟨fun c => by simp (disch := omega) only [z_lit, z_litl, z_neg, z_negl, z_add, z_sub, z_mul, z_addl, z_subl, z_mull, z_cc, z_cl, z_cr, z_cm, z_cml, z_cmr, z_lt, z_le, z_eq, z_ltl, z_lel, z_eql, z_nat, z_i2l, z_l2i, z_div, z_sh, Int.toNat_natCast, z_ts, z_tsl] at c; omega, fun _ => inner (2 ^ κ 55) 0 f1 g1 rfl hf hg fun b' h1 => absurd h1 (Nat.not_lt_zero b')⟩
  have go := outer (κ 55 + 1) 0 f g rfl (fun _ _ => rfl) (fun _ _ _ _ => rfl) fun b' _ h1 => absurd h1 (Nat.not_lt_zero _)
  refine b_x_struck_0 (h := ?_) ..
  rw [hxS.1, all_b (κ 55) (by omega)]
  refine ⟨fun _ => go, fun c => ⟨fun _ => go, fun c2 => ?_⟩⟩
  by_cases e : y = 0
  · exact absurd (by rw [e]; rfl) c
  · exact absurd (by rw [show y = 1 by omega]; rfl) c2
theorem o_struck : k_op28 k_Inv := by
  intro a0 X f fl g gl hh v tx hI
  have hI0 := hI
  obtain ⟨κ, hB⟩ := hI
  have hB : k_InvB κ f g hh tx := hB
  have hB' := hB
  obtain ⟨hw, hm, ⟨xS, xH, xL, xD, xW, xT⟩, he, ht, ha, hi0, hi1, hd, hr⟩ := hB'
  have hwS := hw.1
  have b55 := hwS.1
  obtain ⟨p2, p1, -⟩ := all_2 (κ 55) (by omega)
  obtain ⟨y, hy, rfl⟩ := z_ex a0
  by_cases hin : 0 ≤ y ∧ y ≤ 1
  · -- the reference, once the class has answered
    have ref : ∀ (b : Nat) (f1 : Nat → Int32) (g1 : Nat → Nat → Int32), isBs κ b → fcb f1 f → g51 g1 g → WP X 1999 226 (0, [some (.ref 74), some (.int (iI y)), none, none, none], [], Wd f1 fl g1 gl hh v tx) (k_fn (.int (if y = 0 then iI (pop8 b : Nat) else iI (b : Int))) k_Inv tx) := by
      intro b f1 g1 hb hf hg
      have e76 : g1 76 = g 76 := hg 76 (by decide) (by decide) (by decide)
      have done : ∀ g2 : Nat → Nat → Int32, g93 g2 g1 → k_Inv f1 fl g2 gl hh v tx := fun g2 hg2 => by
        have hF : ∀ a, a ≠ 3203 → f1 a = f a := hf
        have hG : ∀ a, a ≠ 51 → a ≠ 52 → a ≠ 53 → a ≠ 93 → g2 a = g a := fun a h1 h2 h3 h4 => (hg2 a h4).trans (hg a h1 h2 h3)
        have : k_InvB κ f1 g2 hh tx := by
          unfold k_InvB
          simp (disch := decide) only [hF, hG]
          exact hB
        exact this.inv
      have loop : ∀ u s b0 : Nat, ∀ g2 : Nat → Nat → Int32, u + s = 2 ^ κ 55 - 1 → g93 g2 g1 → b0 < 2 ^ κ 55 → FrS κ b0 → (∀ b', b' < s → FrS κ b' → pop8 b0 < pop8 b' ∨ (pop8 b0 = pop8 b' ∧ b0 ≤ b')) → (b0 < s ∨ b0 = 2 ^ κ 55 - 1) → WP X 1999 226 (25, [some (.ref 74), some (.int (iI y)), some (.int (iI ((2 ^ κ 55 - 1 : Nat) : Int))), some (.int (iI (b0 : Int))), some (.int (iI (s : Int)))], [], Wd f1 fl g2 gl hh v tx) (k_fn (.int (if y = 0 then iI (pop8 b : Nat) else iI (b : Int))) k_Inv tx) := by
        intro u
        induction u with
        | zero =>
          intro s b0 g2 hs hg2 hb0 hF0 hq hor
          have hs : s = 2 ^ κ 55 - 1 := by omega
          subst hs
          have hbb : b0 = b := by
            refine isBs.uniq ⟨hb0, hF0, fun b' h1 h2 => ?_⟩ hb
            by_cases c : b' < 2 ^ κ 55 - 1
            · exact hq b' c h2
            · have c : b' = 2 ^ κ 55 - 1 := by omega
              subst c
              rcases hor with h3 | h3
              · exact Or.inl ((all_p (κ 55) (by omega) b0 (by omega) hb0).2 (by omega))
              · rw [h3]; exact Or.inr ⟨rfl, Nat.le_refl _⟩
          subst hbb
          refine b_m_struck_25 (d := 1998) (h := ⟨fun _ => ⟨fun c => ?_, fun c => ?_⟩, fun c => absurd (Int32.le_refl _) c⟩) ..
          · rw [if_neg fun e => c (by rw [e]; rfl)]
            exact k_fin0 rfl (done g2 hg2)
          · have c : iI y = iI 0 := c
            rw [z_eq (by omega) (by omega)] at c
            rw [if_pos c]
            refine c_ones (by omega) ?_
            refine b_m_struck_73 (h := ?_) ..
            exact k_fin0 rfl (done g2 hg2)
        | succ u ihu =>
          intro s b0 g2 hs hg2 hb0 hF0 hq hor
          have hsl : s < 2 ^ κ 55 := by omega
          have hps := all_p (κ 55) (by omega) s (by omega) hsl
          have hpb := all_p (κ 55) (by omega) b0 (by omega) hb0
          obtain ⟨-, x2, x3⟩ := all_x (κ 55) (by omega) s (by omega) hsl
          refine b_m_struck_25 (d := 1998) (h := ⟨fun c => by simp (disch := omega) only [z_lit, z_litl, z_neg, z_negl, z_add, z_sub, z_mul, z_addl, z_subl, z_mull, z_cc, z_cl, z_cr, z_cm, z_cml, z_cmr, z_lt, z_le, z_eq, z_ltl, z_lel, z_eql, z_nat, z_i2l, z_l2i, z_div, z_sh, Int.toNat_natCast, z_ts, z_tsl] at c; omega, fun _ => ?_⟩) ..
          refine c_ones (by omega) ?_
          refine b_m_struck_36 (h := ?_) ..
          refine c_ones (by omega) ?_
          refine b_m_struck_40 (h := ?_) ..
          rw [x2, i1N]
          -- s isn't it
          have skip : (FrS κ s → pop8 b0 ≤ pop8 s) → ∀ g3 : Nat → Nat → Int32, g93 g3 g1 → WP X 1999 226 (25, [some (.ref 74), some (.int (iI y)), some (.int (iI ((2 ^ κ 55 - 1 : Nat) : Int))), some (.int (iI (b0 : Int))), some (.int (iI ((s + 1 : Nat) : Int)))], [], Wd f1 fl g3 gl hh v tx) (k_fn (.int (if y = 0 then iI (pop8 b : Nat) else iI (b : Int))) k_Inv tx) := by
            intro hn g3 hg3
            refine ihu (s + 1) b0 g3 (by omega) hg3 hb0 hF0 (fun b' h1 h2 => ?_) (by omega)
            by_cases e : b' = s
            · subst e
              have := hn h2
              rcases hor with h3 | h3
              · omega
              · have hlt := hps.2 (by omega)
                rw [← h3] at hlt
                omega
            · exact hq b' (by omega) h2
          refine ⟨fun c => skip (fun _ => by simp (disch := omega) only [z_lit, z_litl, z_neg, z_negl, z_add, z_sub, z_mul, z_addl, z_subl, z_mull, z_cc, z_cl, z_cr, z_cm, z_cml, z_cmr, z_lt, z_le, z_eq, z_ltl, z_lel, z_eql, z_nat, z_i2l, z_l2i, z_div, z_sh, Int.toNat_natCast, z_ts, z_tsl] at c; omega) g2 hg2, fun c => ?_⟩
          have c : pop8 s < pop8 b0 := by simp (disch := omega) only [z_lit, z_litl, z_neg, z_negl, z_add, z_sub, z_mul, z_addl, z_subl, z_mull, z_cc, z_cl, z_cr, z_cm, z_cml, z_cmr, z_lt, z_le, z_eq, z_ltl, z_lel, z_eql, z_nat, z_i2l, z_l2i, z_div, z_sh, Int.toNat_natCast, z_ts, z_tsl] at c; omega
          refine c_twofoldOf (d := 1994) (κ := κ) (kept := (2 ^ κ 55 - 1) ^^^ s) (by rw [hg2 76 (by decide), e76]; exact hm) hwS x3 fun r g3 hT hg3 => ?_
          have hrm := hT.1
          have hg4 : g93 g3 g1 := fun a h1 => (hg3 a h1).trans (hg2 a h1)
          refine b_m_struck_51 (h := ⟨fun c2 => ?_, fun c2 => ?_⟩) ..
          · rw [i1N]
            exact skip (fun h2 => absurd (by rw [hT.uniq h2]; rfl) c2) g3 hg4
          · have c2 : iI (r : Int) = iI 1000000 := c2
            rw [z_eq (by omega) (by omega)] at c2
            have c2 : r = 1000000 := by omega
            subst c2
            rw [i1N]
            refine ihu (s + 1) s g3 (by omega) hg4 hsl hT (fun b' h1 h2 => ?_) (by omega)
            by_cases e : b' = s
            · subst e; exact Or.inr ⟨rfl, Nat.le_refl _⟩
            · have := hq b' (by omega) h2
              omega
      refine b_m_struck_0 (d := 1998) (h := ?_) ..
      rw [e76, hm.1 55 (by decide), all_b (κ 55) (by omega)]
      refine ⟨fun _ => ?_, fun c => absurd (by simp (disch := omega) only [z_lit, z_litl, z_neg, z_negl, z_add, z_sub, z_mul, z_addl, z_subl, z_mull, z_cc, z_cl, z_cr, z_cm, z_cml, z_cmr, z_lt, z_le, z_eq, z_ltl, z_lel, z_eql, z_nat, z_i2l, z_l2i, z_div, z_sh, Int.toNat_natCast, z_ts, z_tsl]; omega) c⟩
      exact loop (2 ^ κ 55 - 1) 0 (2 ^ κ 55 - 1) g1 rfl (fun _ _ => rfl) (by omega) (FrS.all b55) (fun b' h1 => absurd h1 (Nat.not_lt_zero b')) (Or.inr rfl)
    refine c_x_struck (d := 1994) (κ := κ) hwS xS hin fun b f1 g1 hb hf hg => ?_
    exact k_mid (ref b f1 g1 hb hf hg)
  · have n0 : ¬ iI y = (0 : Int32) := fun c => by
      have c : iI y = iI 0 := c
      rw [z_eq (by omega) (by omega)] at c
      omega
    have n1 : ¬ iI y = (1 : Int32) := fun c => by
      have c : iI y = iI 1 := c
      rw [z_eq (by omega) (by omega)] at c
      omega
    refine b_x_struck_0 (h := ⟨fun c => absurd c n0, fun _ => ⟨fun c => absurd c n1, fun _ => ?_⟩⟩) ..
    refine k_mid ?_
    refine b_m_struck_0 (d := 1998) (h := ⟨fun c => ?_, fun _ => k_fin0 rfl hI0⟩) ..
    simp (disch := omega) only [z_lit, z_litl, z_neg, z_negl, z_add, z_sub, z_mul, z_addl, z_subl, z_mull, z_cc, z_cl, z_cr, z_cm, z_cml, z_cmr, z_lt, z_le, z_eq, z_ltl, z_lel, z_eql, z_nat, z_i2l, z_l2i, z_div, z_sh, Int.toNat_natCast, z_ts, z_tsl] at c
    omega
