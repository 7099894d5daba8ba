/-! .. its beginning, its end -/
theorem sg_one {κ : Nat → Nat} (hw : wS κ) {a b : Nat} (ha : a < κ 55) (hb : b < κ 55) (hl : κ (31 + a) = κ (31 + b)) (h : ∀ k, k < κ (31 + a) → clo κ a k = clo κ b k) : a = b := by
  refine hw.2.2 a b ha hb ?_
  rw [← clo_dig hw ha, ← clo_dig hw hb, ← hl]
  exact digF_cg fun k hk => h k hk
theorem k5_ofK {c c' : Nat → Nat} {n n' : Nat} (hn : n ≤ 4) (hn' : n' ≤ 4) (hc : ∀ k, k < n → c k ≤ 3) (hc' : ∀ k, k < n' → c' k ≤ 3) (h : Kc c n = Kc c' n') : n = n' ∧ (∀ k, k < n → c k = c' k) ∧ k5F c n = k5F c' n' := by
  have s1 := (siz_K hn hc).1
  have s2 := (siz_K hn' hc').1
  rw [h, s2] at s1
  subst s1
  have q := (Kc_inj hc hc').mp h
  exact ⟨rfl, q, k5_cg q⟩
/-- a sign ahead of another at the beginning -/
def begQ (κ : Nat → Nat) (kept : Nat) (F : Nat → Nat) (a b : Nat) : Prop := kept / 2 ^ a % 2 = 1 → kept / 2 ^ b % 2 = 1 → κ (31 + a) < κ (31 + b) → (∀ k, k < κ (31 + a) → clo κ b k = clo κ a k) → F (k5F (fun k => clo κ b (κ (31 + a) + k)) (κ (31 + b) - κ (31 + a))) ≤ κ (31 + b)
theorem begQ.mono {κ : Nat → Nat} {kept a b : Nat} {F F' : Nat → Nat} (h : begQ κ kept F a b) (hF : ∀ i, F' i ≤ F i) : begQ κ kept F' a b := fun h1 h2 h3 h4 => Nat.le_trans (hF _) (h h1 h2 h3 h4)
theorem c_begins {X : mm_X} {d : Nat} {f : Nat → Int32} {fl : Nat → Int64} {g : Nat → Nat → Int32} {gl : Nat → Nat → Int64} {hh : Nat → Nat → Option Nat} {v : Nat → Value} {tx : mm_W} {P : Option Value → mm_W → Prop} {κ : Nat → Nat} {kept : Nat} (hm : ms (g 76) κ) (hwS : wS κ) (hk : kept < 256)
    (h : ∀ (F : Nat → Nat) (g' : Nat → Nat → Int32), tfI κ kept F g' → g93 g' g → (∀ a b, a < κ 55 → b < κ 55 → begQ κ kept F a b) → P none (Wd f fl g' gl hh v tx)) :
    WP X (d + 2) 222 (0, [some (.ref 74), some (.int (iI (kept : Int))), none, none], [], Wd f fl g gl hh v tx) P := by
  have b55 := hwS.1
  have e55 := hm.1 55 (by decide)
  have hl : ∀ j, j < κ 55 → 1 ≤ κ (31 + j) ∧ κ (31 + j) ≤ 4 := fun j hj => ⟨(hwS.2.1 j hj).1, (hwS.2.1 j hj).2.1⟩
  have hc3 : ∀ j, j < κ 55 → ∀ k, k < κ (31 + j) → clo κ j k ≤ 3 := fun j hj k hk => clo_le hwS hj hk
  have outer : ∀ u a : Nat, ∀ (F : Nat → Nat) (g' : Nat → Nat → Int32), u + a = κ 55 → tfI κ kept F g' → g93 g' g → (∀ a' b, a' < a → b < κ 55 → begQ κ kept F a' b) → WP X (d + 2) 222 (24, [some (.ref 74), some (.int (iI (kept : Int))), some (.int (iI (a : Int))), none], [], Wd f fl g' gl hh v tx) P := by
    intro u
    induction u with
    | zero =>
      intro a F g' ha hI hg hq
      have ha : a = κ 55 := by omega
      refine b_m_begins_24 (h := ?_) ..
      rw [hg 76 (by decide), e55, ha]
      exact ⟨fun _ => h F g' hI hg fun a' b h1 h2 => hq a' b (by omega) h2, fun c => absurd (Int32.le_refl _) c⟩
    | succ u ihu =>
      intro a F g' ha hI hg hq
      have haJ : a < κ 55 := by omega
      have inner : ∀ w b : Nat, ∀ (F2 : Nat → Nat) (g2 : Nat → Nat → Int32), w + b = κ 55 → tfI κ kept F2 g2 → g93 g2 g → (∀ x, F2 x ≤ F x) → (∀ b', b' < b → begQ κ kept F2 a b') → WP X (d + 2) 222 (34, [some (.ref 74), some (.int (iI (kept : Int))), some (.int (iI (a : Int))), some (.int (iI (b : Int)))], [], Wd f fl g2 gl hh v tx) P := by
        intro w
        induction w with
        | zero =>
          intro b F2 g2 hb hI2 hg2 hle hq2
          have hb : b = κ 55 := by omega
          refine b_m_begins_34 (d := d + 1) (h := ?_) ..
          rw [hg2 76 (by decide), e55, hb]
          simp only [i1N]
          refine ⟨fun _ => ?_, fun c => absurd (Int32.le_refl _) c⟩
          refine ihu (a + 1) F2 g2 (by omega) hI2 hg2 fun a' b' h1 h2 => ?_
          by_cases e : a' = a
          · subst e; exact hq2 b' (by omega)
          · exact (hq a' b' (by omega) h2).mono hle
        | succ w ihw =>
          intro b F2 g2 hb hI2 hg2 hle hq2
          have hbJ : b < κ 55 := by omega
          have hm2 : ms (g2 76) κ := by rw [hg2 76 (by decide)]; exact hm
          have e31a := hm2.1 (31 + a) (by omega)
          have e31b := hm2.1 (31 + b) (by omega)
          obtain ⟨la1, la2⟩ := hl a haJ
          obtain ⟨lb1, lb2⟩ := hl b hbJ
          have ta : ((31 : Int32) + iI (a : Int)).toNatClampNeg = 31 + a := by simp (disch := omega) only [z_lit, z_litl, z_neg, z_negl, z_add, z_sub, z_mul, z_addl, z_subl, z_mull, z_cc, z_cl, z_cr, z_cm, z_cml, z_cmr, z_lt, z_le, z_eq, z_ltl, z_lel, z_eql, z_nat, z_i2l, z_l2i, z_div, z_sh, Int.toNat_natCast, z_ts, z_tsl]
          have tb : ((31 : Int32) + iI (b : Int)).toNatClampNeg = 31 + b := by simp (disch := omega) only [z_lit, z_litl, z_neg, z_negl, z_add, z_sub, z_mul, z_addl, z_subl, z_mull, z_cc, z_cl, z_cr, z_cm, z_cml, z_cmr, z_lt, z_le, z_eq, z_ltl, z_lel, z_eql, z_nat, z_i2l, z_l2i, z_div, z_sh, Int.toNat_natCast, z_ts, z_tsl]
          have oa : ¬ ((31 : Int32) + iI (a : Int) < 0 ∨ 5667 ≤ 31 + a) := by simp (disch := omega) only [z_lit, z_litl, z_neg, z_negl, z_add, z_sub, z_mul, z_addl, z_subl, z_mull, z_cc, z_cl, z_cr, z_cm, z_cml, z_cmr, z_lt, z_le, z_eq, z_ltl, z_lel, z_eql, z_nat, z_i2l, z_l2i, z_div, z_sh, Int.toNat_natCast, z_ts, z_tsl]; omega
          have ob : ¬ ((31 : Int32) + iI (b : Int) < 0 ∨ 5667 ≤ 31 + b) := by simp (disch := omega) only [z_lit, z_litl, z_neg, z_negl, z_add, z_sub, z_mul, z_addl, z_subl, z_mull, z_cc, z_cl, z_cr, z_cm, z_cml, z_cmr, z_lt, z_le, z_eq, z_ltl, z_lel, z_eql, z_nat, z_i2l, z_l2i, z_div, z_sh, Int.toNat_natCast, z_ts, z_tsl]; omega
          -- this one is nothing
          have skip : begQ κ kept F2 a b → WP X (d + 2) 222 (34, [some (.ref 74), some (.int (iI (kept : Int))), some (.int (iI (a : Int))), some (.int (iI ((b + 1 : Nat) : Int)))], [], Wd f fl g2 gl hh v tx) P := fun hb2 =>
            ihw (b + 1) F2 g2 (by omega) hI2 hg2 hle fun b' hb' => by
              by_cases e : b' = b
              · subst e; exact hb2
              · exact hq2 b' (by omega)
          refine b_m_begins_34 (d := d + 1) (h := ?_) ..
          rw [bit_t (by omega) (by omega), bit_t (by omega) (by omega), ta, tb, e31a, e31b, hm2.1 55 (by decide)]
          simp only [i1N]
          refine ⟨fun c => by simp (disch := omega) only [z_lit, z_litl, z_neg, z_negl, z_add, z_sub, z_mul, z_addl, z_subl, z_mull, z_cc, z_cl, z_cr, z_cm, z_cml, z_cmr, z_lt, z_le, z_eq, z_ltl, z_lel, z_eql, z_nat, z_i2l, z_l2i, z_div, z_sh, Int.toNat_natCast, z_ts, z_tsl] at c; omega, fun _ => ⟨fun c => skip ?_, fun nab => ⟨fun c => skip fun h1 => absurd h1 c, fun ya => ⟨fun c => skip fun _ h1 => absurd h1 c, fun yb => ⟨oa, ob, fun c => skip fun _ _ h1 => ?_, fun c => ?_⟩⟩⟩⟩⟩
          · have c : iI (a : Int) = iI (b : Int) := c
            rw [z_eq (by omega) (by omega)] at c
            have c : a = b := by omega
            subst c
            exact fun _ _ h1 => absurd h1 (Nat.lt_irrefl _)
          · simp (disch := omega) only [z_lit, z_litl, z_neg, z_negl, z_add, z_sub, z_mul, z_addl, z_subl, z_mull, z_cc, z_cl, z_cr, z_cm, z_cml, z_cmr, z_lt, z_le, z_eq, z_ltl, z_lel, z_eql, z_nat, z_i2l, z_l2i, z_div, z_sh, Int.toNat_natCast, z_ts, z_tsl] at c
            omega
          · have nab : a ≠ b := fun e => nab (by rw [e])
            have hle2 : κ (31 + a) ≤ κ (31 + b) := by simp (disch := omega) only [z_lit, z_litl, z_neg, z_negl, z_add, z_sub, z_mul, z_addl, z_subl, z_mull, z_cc, z_cl, z_cr, z_cm, z_cml, z_cmr, z_lt, z_le, z_eq, z_ltl, z_lel, z_eql, z_nat, z_i2l, z_l2i, z_div, z_sh, Int.toNat_natCast, z_ts, z_tsl] at c; omega
            refine c_restOf (d := d) (j := a) (m := 0) hm2 hwS haJ (Nat.zero_le _) ?_
            refine b_m_begins_91 (d := d + 1) (h := ?_) ..
            rw [show k5F (fun k => clo κ a (0 + k)) (κ (31 + a) - 0) = k5F (clo κ a) (κ (31 + a)) by rw [Nat.sub_zero]; exact k5_cg fun k _ => by rw [Nat.zero_add]]
            refine c_alike (d := d) hm2 hwS hbJ la2 (hc3 a haJ) (fun hal => ?_) fun hal => ?_
            · have hlt : κ (31 + a) < κ (31 + b) := by
                by_cases e : κ (31 + a) = κ (31 + b)
                · exact absurd (sg_one hwS haJ hbJ e fun k hk => hal k hk (by omega)) nab
                · omega
              refine b_m_begins_95 (d := d + 1) (h := ⟨fun _ => ?_, fun c => absurd c (by decide)⟩) ..
              rw [ta, e31a]
              refine ⟨oa, ?_⟩
              refine c_restOf (d := d) (j := b) (m := κ (31 + a)) hm2 hwS hbJ hle2 ?_
              refine b_m_begins_116 (d := d) (h := ?_) ..
              have d1 : ∀ k, k < κ (31 + b) - κ (31 + a) → clo κ b (κ (31 + a) + k) ≤ 3 := fun k hk => hc3 b hbJ _ (by omega)
              have hy := k5_lt (c := fun k => clo κ b (κ (31 + a) + k)) (n := κ (31 + b) - κ (31 + a)) (by omega) d1
              have hy1 := hy.2.1 (by omega)
              have hy2 := hy.2.2 (by omega)
              have hRy := Rch.b (S := sgS κ kept) ⟨a, haJ, ya, rfl⟩ ⟨b, hbJ, yb, rfl⟩ (lf_y hlt lb2 (hc3 a haJ) (hc3 b hbJ) fun k hk => (hal k hk (by omega)).symm)
              rw [(siz_K lb2 (hc3 b hbJ)).1] at hRy
              generalize hyy : k5F (fun k => clo κ b (κ (31 + a) + k)) (κ (31 + b) - κ (31 + a)) = y at hy1 hy2
              have ty : (iI (y : Int)).toNatClampNeg = y := by rw [z_nat (by omega)]; omega
              have oy : ¬ (iI (y : Int) < 0 ∨ 125 ≤ y) := by simp (disch := omega) only [z_lit, z_litl, z_neg, z_negl, z_add, z_sub, z_mul, z_addl, z_subl, z_mull, z_cc, z_cl, z_cr, z_cm, z_cml, z_cmr, z_lt, z_le, z_eq, z_ltl, z_lel, z_eql, z_nat, z_i2l, z_l2i, z_div, z_sh, Int.toNat_natCast, z_ts, z_tsl]; omega
              have eFy := hI2.1 y hy1
              have hFy := hI2.2.1 y
              obtain ⟨nw1, nw2⟩ := near_w (c := κ (31 + b)) eFy hFy (by omega)
              have hn := hI2.near (v := y) (c := κ (31 + b)) hy1 (by omega) fun _ => ⟨fun _ => ⟨_, _, by omega, by omega, d1, hyy.symm, hRy⟩, fun e => by omega⟩
              have hle3 : ∀ i, (if i = y then min (κ (31 + b)) (F2 y) else F2 i) ≤ F2 i := fun i => by
                by_cases e : i = y
                · subst e; rw [if_pos rfl]; exact Nat.min_le_right _ _
                · rw [if_neg e]; exact Nat.le_refl _
              have nx : WP X (d + 2) 222 (34, [some (.ref 74), some (.int (iI (kept : Int))), some (.int (iI (a : Int))), some (.int (iI ((b + 1 : Nat) : Int)))], [], Wd f fl (va_up g2 93 (upd (g2 93) y (iI ((min (κ (31 + b)) (F2 y) : Nat) : Int)))) gl hh v tx) P := by
                refine ihw (b + 1) _ _ (by omega) hn (fun q hq => (va_ne hq).trans (hg2 q hq)) (fun x => Nat.le_trans (hle3 x) (hle x)) fun b' hb' => ?_
                by_cases e : b' = b
                · subst e
                  intro _ _ _ _
                  rw [hyy]
                  show (if y = y then min (κ (31 + b')) (F2 y) else F2 y) ≤ κ (31 + b')
                  rw [if_pos rfl]
                  exact Nat.min_le_left _ _
                · exact (hq2 b' (by omega)).mono hle3
              rw [tb, e31b, ty]
              simp only [i1N]
              refine ⟨ob, oy, fun q1 => ⟨oy, fun q2 => ⟨oy, ?_⟩, fun q2 => ⟨oy, ?_⟩⟩, fun q1 => ⟨oy, fun q2 => ⟨oy, ?_⟩, fun q2 => ⟨oy, ?_⟩⟩⟩
              · rw [nw1 (by rw [eFy] at q2; simp (disch := omega) only [z_lit, z_litl, z_neg, z_negl, z_add, z_sub, z_mul, z_addl, z_subl, z_mull, z_cc, z_cl, z_cr, z_cm, z_cml, z_cmr, z_lt, z_le, z_eq, z_ltl, z_lel, z_eql, z_nat, z_i2l, z_l2i, z_div, z_sh, Int.toNat_natCast, z_ts, z_tsl] at q2; omega)]; exact nx
              · rw [nw2 (by rw [eFy] at q2; simp (disch := omega) only [z_lit, z_litl, z_neg, z_negl, z_add, z_sub, z_mul, z_addl, z_subl, z_mull, z_cc, z_cl, z_cr, z_cm, z_cml, z_cmr, z_lt, z_le, z_eq, z_ltl, z_lel, z_eql, z_nat, z_i2l, z_l2i, z_div, z_sh, Int.toNat_natCast, z_ts, z_tsl] at q2; omega)]; exact nx
              · rw [nw1 (by rw [eFy] at q2; simp (disch := omega) only [z_lit, z_litl, z_neg, z_negl, z_add, z_sub, z_mul, z_addl, z_subl, z_mull, z_cc, z_cl, z_cr, z_cm, z_cml, z_cmr, z_lt, z_le, z_eq, z_ltl, z_lel, z_eql, z_nat, z_i2l, z_l2i, z_div, z_sh, Int.toNat_natCast, z_ts, z_tsl] at q2; omega)]; exact nx
              · rw [nw2 (by rw [eFy] at q2; simp (disch := omega) only [z_lit, z_litl, z_neg, z_negl, z_add, z_sub, z_mul, z_addl, z_subl, z_mull, z_cc, z_cl, z_cr, z_cm, z_cml, z_cmr, z_lt, z_le, z_eq, z_ltl, z_lel, z_eql, z_nat, z_i2l, z_l2i, z_div, z_sh, Int.toNat_natCast, z_ts, z_tsl] at q2; omega)]; exact nx
            · refine b_m_begins_95 (d := d + 1) (h := ⟨fun c => absurd rfl c, fun _ => ?_⟩) ..
              simp only [i1N]
              exact skip fun _ _ h1 h2 => absurd (fun k hk _ => (h2 k hk).symm) hal
      refine b_m_begins_24 (d := d + 1) (h := ?_) ..
      rw [hg 76 (by decide), e55]
      exact ⟨fun c => by simp (disch := omega) only [z_lit, z_litl, z_neg, z_negl, z_add, z_sub, z_mul, z_addl, z_subl, z_mull, z_cc, z_cl, z_cr, z_cm, z_cml, z_cmr, z_lt, z_le, z_eq, z_ltl, z_lel, z_eql, z_nat, z_i2l, z_l2i, z_div, z_sh, Int.toNat_natCast, z_ts, z_tsl] at c; omega, fun _ => inner (κ 55) 0 F g' rfl hI hg (fun _ => Nat.le_refl _) fun b' hb' => absurd hb' (Nat.not_lt_zero b')⟩
  -- nothing yet
  have fill : ∀ i, i ≤ 125 → ∀ a : Nat → Int32, (∀ x, x < i → a x = 1000000) → WP X (d + 2) 222 (2, [some (.ref 74), some (.int (iI (kept : Int))), some (.int (iI (i : Int))), none], [], Wd f fl (va_up g 93 a) gl hh v tx) P := by
    refine k_up (Q := fun i => ∀ a : Nat → Int32, (∀ x, x < i → a x = 1000000) → WP X (d + 2) 222 (2, [some (.ref 74), some (.int (iI (kept : Int))), some (.int (iI (i : Int))), none], [], Wd f fl (va_up g 93 a) gl hh v tx) P) (fun a ha => ?_) fun i hi ih a ha => ?_
    · refine b_m_begins_2 (h := ⟨fun _ => ?_, fun c => absurd (by decide) c⟩) ..
      exact outer (κ 55) 0 (fun _ => 1000000) _ rfl ⟨fun i hi => by rw [va_s]; exact ha i hi, fun _ => Nat.le_refl _, fun v _ _ hv => absurd hv (Nat.lt_irrefl 1000000), fun hv => absurd hv (Nat.lt_irrefl 1000000)⟩ (fun q hq => va_ne hq) fun a' b ha' => absurd ha' (Nat.not_lt_zero a')
    · have ti : (iI (i : Int)).toNatClampNeg = i := by rw [z_nat (by omega)]; omega
      refine b_m_begins_2 (h := ?_) ..
      rw [ti, va_tw, va_s]
      simp only [i1N]
      refine ⟨fun c => by simp (disch := omega) only [z_lit, z_litl, z_neg, z_negl, z_add, z_sub, z_mul, z_addl, z_subl, z_mull, z_cc, z_cl, z_cr, z_cm, z_cml, z_cmr, z_lt, z_le, z_eq, z_ltl, z_lel, z_eql, z_nat, z_i2l, z_l2i, z_div, z_sh, Int.toNat_natCast, z_ts, z_tsl] at c; omega, fun _ => ⟨by simp (disch := omega) only [z_lit, z_litl, z_neg, z_negl, z_add, z_sub, z_mul, z_addl, z_subl, z_mull, z_cc, z_cl, z_cr, z_cm, z_cml, z_cmr, z_lt, z_le, z_eq, z_ltl, z_lel, z_eql, z_nat, z_i2l, z_l2i, z_div, z_sh, Int.toNat_natCast, z_ts, z_tsl]; omega, ih _ fun x hx => ?_⟩⟩
      by_cases e : x = i
      · rw [e, upd_s]
      · rw [upd_ne e]; exact ha x (by omega)
  refine b_m_begins_0 (h := ?_) ..
  have := fill 0 (by omega) (g 93) fun x hx => absurd hx (Nat.not_lt_zero x)
  rw [va_id (f := g) rfl] at this
  exact this
/-- what can't be bettered is the least -/
theorem tf_end {κ : Nat → Nat} {kept : Nat} {F : Nat → Nat} {g : Nat → Nat → Int32} (hwS : wS κ) (hI : tfI κ kept F g) (hq : ∀ a b, a < κ 55 → b < κ 55 → begQ κ kept F a b) (hcl : ∀ v j, 0 < v → v < 125 → j < κ 55 → kept / 2 ^ j % 2 = 1 → clR κ F F v j) : Tw (sgS κ kept) (F 0) := by
  have hl : ∀ j, j < κ 55 → 1 ≤ κ (31 + j) ∧ κ (31 + j) ≤ 4 := fun j hj => ⟨(hwS.2.1 j hj).1, (hwS.2.1 j hj).2.1⟩
  have hc3 : ∀ j, j < κ 55 → ∀ k, k < κ (31 + j) → clo κ j k ≤ 3 := fun j hj k hk => clo_le hwS hj hk
  have step : ∀ (w : Nat → Nat) (n j c : Nat), 1 ≤ n → n ≤ 3 → (∀ k, k < n → w k ≤ 3) → j < κ 55 → kept / 2 ^ j % 2 = 1 → F (k5F w n) ≤ c → c < 1000000 → (∀ k, k < n → k < κ (31 + j) → w k = clo κ j k) → (κ (31 + j) ≤ n → F (k5F (fun k => w (κ (31 + j) + k)) (n - κ (31 + j))) ≤ c) ∧ (n < κ (31 + j) → F (k5F (fun k => clo κ j (n + k)) (κ (31 + j) - n)) ≤ c + (κ (31 + j) - n)) := by
    intro w n j c n1 n3 hw hj hb hF hc hal
    have hv := k5_lt (c := w) (n := n) (by omega) hw
    obtain ⟨q1, q2⟩ := hcl (k5F w n) j (by have := hv.2.2 n1; omega) (hv.2.1 n3) hj hb (by omega) w n n1 n3 hw rfl hal
    exact ⟨fun h => Nat.le_trans (q1 h) hF, fun h => by have := q2 h; omega⟩
  have key : ∀ x c, Rch (sgS κ kept) x c → ∀ (w : Nat → Nat) (n : Nat), 1 ≤ n → n ≤ 3 → (∀ k, k < n → w k ≤ 3) → x = Kc w n → F (k5F w n) ≤ c := by
    intro x c hr
    refine (hr (fun x c => Rch (sgS κ kept) x c ∧ ∀ (w : Nat → Nat) (n : Nat), 1 ≤ n → n ≤ 3 → (∀ k, k < n → w k ≤ 3) → x = Kc w n → F (k5F w n) ≤ c) (fun a b y ha hb hy => ⟨Rch.b ha hb hy, fun w n n1 n3 hw hx => ?_⟩) (fun x c a y hx ha hy => ⟨hx.1.s1 ha hy, fun w n n1 n3 hw hxy => ?_⟩) fun x c a y hx ha hy => ⟨hx.1.s2 ha hy, fun w n n1 n3 hw hxy => ?_⟩).2
    · obtain ⟨i, hi, bi, rfl⟩ := ha
      obtain ⟨j, hj, bj, rfl⟩ := hb
      have l1 := hl i hi
      have l2 := hl j hj
      rw [(siz_K l2.2 (hc3 j hj)).1]
      by_cases e : κ (31 + i) < κ (31 + j) ∧ ∀ k, k < κ (31 + i) → clo κ j k = clo κ i k
      · rw [lf_y e.1 l2.2 (hc3 i hi) (hc3 j hj) e.2] at hy
        have hy := Option.some.inj hy
        rw [hx] at hy
        rw [← (k5_ofK (by omega) (by omega) (fun k hk => hc3 j hj _ (by omega)) hw hy).2.2]
        exact hq i j hi hj bi bj e.1 e.2
      · rw [lf_n l1.2 l2.2 (hc3 i hi) (hc3 j hj) e] at hy
        cases hy
    · by_cases hc : c < 1000000
      · obtain ⟨w0, n0, m1, m3, hw0, rfl⟩ := hx.1.rep hwS
        have hF := hx.2 w0 n0 m1 m3 hw0 rfl
        obtain ⟨j, hj, bj, rfl⟩ := ha
        have l2 := hl j hj
        by_cases e : κ (31 + j) < n0 ∧ ∀ k, k < κ (31 + j) → w0 k = clo κ j k
        · rw [lf_y e.1 (by omega) (hc3 j hj) hw0 e.2] at hy
          have hy := Option.some.inj hy
          rw [hxy] at hy
          rw [← (k5_ofK (by omega) (by omega) (fun k hk => hw0 _ (by omega)) hw hy).2.2]
          exact (step w0 n0 j c m1 m3 hw0 hj bj hF hc fun k _ hk2 => e.2 k hk2).1 (by omega)
        · rw [lf_n l2.2 (by omega) (hc3 j hj) hw0 e] at hy
          cases hy
      · have := hI.2.1 (k5F w n)
        omega
    · by_cases hc : c < 1000000
      · obtain ⟨w0, n0, m1, m3, hw0, rfl⟩ := hx.1.rep hwS
        have hF := hx.2 w0 n0 m1 m3 hw0 rfl
        obtain ⟨j, hj, bj, rfl⟩ := ha
        have l2 := hl j hj
        by_cases e : n0 < κ (31 + j) ∧ ∀ k, k < n0 → clo κ j k = w0 k
        · rw [lf_y e.1 l2.2 hw0 (hc3 j hj) e.2] at hy
          have hy := Option.some.inj hy
          have hs := (siz_K (c := fun k => clo κ j (n0 + k)) (n := κ (31 + j) - n0) (by omega) fun k hk => hc3 j hj _ (by omega)).1
          rw [hy] at hs
          rw [hs]
          rw [hxy] at hy
          rw [← (k5_ofK (by omega) (by omega) (fun k hk => hc3 j hj _ (by omega)) hw hy).2.2]
          exact (step w0 n0 j c m1 m3 hw0 hj bj hF hc fun k hk _ => (e.2 k hk).symm).2 e.1
        · rw [lf_n (by omega) l2.2 hw0 (hc3 j hj) e] at hy
          cases hy
      · have := hI.2.1 (k5F w n)
        omega
  refine ⟨hI.2.1 0, hI.2.2.2, fun a c ha hr => ?_⟩
  by_cases hc : c < 1000000
  · obtain ⟨w, n, n1, n3, hw, hx⟩ := hr.rep hwS
    have hF := key a c hr w n n1 n3 hw hx
    obtain ⟨j, hj, bj, rfl⟩ := ha
    have l2 := hl j hj
    obtain ⟨q1, q2, -⟩ := k5_ofK l2.2 (by omega) (hc3 j hj) hw hx
    have := (step w n j c n1 n3 hw hj bj hF hc fun k _ hk2 => (q2 k hk2).symm).1 (by omega)
    rw [show n - κ (31 + j) = 0 by omega] at this
    exact this
  · have := hI.2.1 0
    omega
theorem c_twofoldOf {X : mm_X} {d : Nat} {f : Nat → Int32} {fl : Nat → Int64} {g : Nat → Nat → Int32} {gl : Nat → Nat → Int64} {hh : Nat → Nat → Option Nat} {v : Nat → Value} {tx : mm_W} {P : Option Value → mm_W → Prop} {κ : Nat → Nat} {kept : Nat} (hm : ms (g 76) κ) (hwS : wS κ) (hk : kept < 256)
    (h : ∀ (r : Nat) (g' : Nat → Nat → Int32), Tw (sgS κ kept) r → g93 g' g → P (some (.int (iI (r : Int)))) (Wd f fl g' gl hh v tx)) :
    WP X (d + 4) 224 (0, [some (.ref 74), some (.int (iI (kept : Int))), none, none, none], [], Wd f fl g gl hh v tx) P := by
  have b55 := hwS.1
  have e55 := hm.1 55 (by decide)
  refine b_m_twofoldOf_0 (d := d + 3) (h := ?_) ..
  refine c_begins (d := d + 1) hm hwS hk fun F g1 hI hg hq => ?_
  refine b_m_twofoldOf_5 (h := ?_) ..
  -- what was done of a round that began with F0
  have rounds : ∀ s (F : Nat → Nat) (g' : Nat → Nat → Int32) (q : Nat), sumF F 125 < s → tfI κ kept F g' → g93 g' g → (∀ a b, a < κ 55 → b < κ 55 → begQ κ kept F a b) → (q = 0 ∧ (∀ v j, 0 < v → v < 125 → j < κ 55 → kept / 2 ^ j % 2 = 1 → clR κ F F v j) ∨ q = 1) → WP X (d + 4) 224 (7, [some (.ref 74), some (.int (iI (kept : Int))), some (.int (iI (q : Int))), none, none], [], Wd f fl g' gl hh v tx) P := by
    intro s
    induction s with
    | zero => intro F g' q hs; exact absurd hs (Nat.not_lt_zero _)
    | succ s ihs =>
      intro F0 g0 q hs hI0 hg0 hq0 hc0
      have q0 : (iI (q : Int) = (0 : Int32)) = (q = 0) := by
        rw [show (0 : Int32) = iI 0 from rfl, z_eq (by omega) (by omega)]
        exact propext ⟨fun a => by omega, fun a => by omega⟩
      refine b_m_twofoldOf_7 (h := ?_) ..
      rw [q0]
      refine ⟨fun e => ?_, fun e => ?_⟩
      · rcases hc0 with ⟨-, hc0⟩ | e1
        · have := h (F0 0) g0 (tf_end hwS hI0 hq0 hc0) hg0
          rw [hI0.1 0 (by decide)]
          exact this
        · omega
      · have outer : ∀ u vv : Nat, ∀ (F : Nat → Nat) (g' : Nat → Nat → Int32) (q : Nat), u + vv = 125 → 0 < vv → tfI κ kept F g' → g93 g' g → (∀ i, F i ≤ F0 i) → (q = 0 ∧ F = F0 ∧ (∀ v j, 0 < v → v < vv → j < κ 55 → kept / 2 ^ j % 2 = 1 → clR κ F0 F0 v j) ∨ q = 1 ∧ sumF F 125 < sumF F0 125) → WP X (d + 4) 224 (15, [some (.ref 74), some (.int (iI (kept : Int))), some (.int (iI (q : Int))), some (.int (iI (vv : Int))), none], [], Wd f fl g' gl hh v tx) P := by
          intro u
          induction u with
          | zero =>
            intro vv F g' q hu hv0 hI hg hle hd
            have hu : vv = 125 := by omega
            subst hu
            refine b_m_twofoldOf_15 (h := ⟨fun _ => ?_, fun c => absurd (by decide) c⟩) ..
            rcases hd with ⟨e0, e1, e2⟩ | ⟨e0, e1⟩
            · subst e1
              have hlast := ihs
              -- nothing changed: the end comes
              subst e0
              refine b_m_twofoldOf_7 (h := ⟨fun _ => ?_, fun c => absurd rfl c⟩) ..
              have := h (F 0) g' (tf_end hwS hI hq0 e2) hg
              rw [hI.1 0 (by decide)]
              exact this
            · subst e0
              exact ihs F g' 1 (by omega) hI hg (fun a b h1 h2 => (hq0 a b h1 h2).mono hle) (Or.inr rfl)
          | succ u ihu =>
            intro vv F g' q hu hv0 hI hg hle hd
            have hv : vv < 125 := by omega
            have tv : (iI (vv : Int)).toNatClampNeg = vv := by rw [z_nat (by omega)]; omega
            have inner : ∀ w j : Nat, ∀ (F : Nat → Nat) (g' : Nat → Nat → Int32) (q : Nat), w + j = κ 55 → tfI κ kept F g' → g93 g' g → (∀ i, F i ≤ F0 i) → (q = 0 ∧ F = F0 ∧ (∀ v i, 0 < v → (v < vv ∧ i < κ 55 ∨ v = vv ∧ i < j) → kept / 2 ^ i % 2 = 1 → clR κ F0 F0 v i) ∨ q = 1 ∧ sumF F 125 < sumF F0 125) → WP X (d + 4) 224 (24, [some (.ref 74), some (.int (iI (kept : Int))), some (.int (iI (q : Int))), some (.int (iI (vv : Int))), some (.int (iI (j : Int)))], [], Wd f fl g' gl hh v tx) P := by
              intro w
              induction w with
              | zero =>
                intro j F g' q hw hI hg hle hd
                have hw : j = κ 55 := by omega
                refine b_m_twofoldOf_24 (d := d + 3) (h := ?_) ..
                rw [hg 76 (by decide), e55, hw]
                simp only [i1N]
                refine ⟨fun _ => ?_, fun c => absurd (Int32.le_refl _) c⟩
                refine ihu (vv + 1) F g' q (by omega) (by omega) hI hg hle ?_
                rcases hd with ⟨e0, e1, e2⟩ | hd
                · refine Or.inl ⟨e0, e1, fun v i h1 h2 h3 h4 => e2 v i h1 ?_ h4⟩
                  by_cases e : v = vv
                  · exact Or.inr ⟨e, by omega⟩
                  · exact Or.inl ⟨by omega, h3⟩
                · exact Or.inr hd
              | succ w ihw =>
                intro j F g' q hw hI hg hle hd
                have hj : j < κ 55 := by omega
                have eF := hI.1 vv hv
                have hFm := hI.2.1 vv
                have skip : (kept / 2 ^ j % 2 = 1 → ¬ F vv < 1000000) → WP X (d + 4) 224 (24, [some (.ref 74), some (.int (iI (kept : Int))), some (.int (iI (q : Int))), some (.int (iI (vv : Int))), some (.int (iI ((j + 1 : Nat) : Int)))], [], Wd f fl g' gl hh v tx) P := by
                  intro hn
                  refine ihw (j + 1) F g' q (by omega) hI hg hle ?_
                  rcases hd with ⟨e0, e1, e2⟩ | hd
                  · refine Or.inl ⟨e0, e1, fun v i h1 h2 h3 => ?_⟩
                    by_cases e : v = vv ∧ i = j
                    · obtain ⟨rfl, rfl⟩ := e
                      intro hlt
                      rw [← e1] at hlt
                      exact absurd hlt (hn h3)
                    · exact e2 v i h1 (by omega) h3
                  · exact Or.inr hd
                refine b_m_twofoldOf_24 (d := d + 3) (h := ?_) ..
                rw [hg 76 (by decide), e55, tv, eF, bit_t (by omega) (by omega)]
                simp only [i1N]
                refine ⟨fun c => by simp (disch := omega) only [z_lit, z_litl, z_neg, z_negl, z_add, z_sub, z_mul, z_addl, z_subl, z_mull, z_cc, z_cl, z_cr, z_cm, z_cml, z_cmr, z_lt, z_le, z_eq, z_ltl, z_lel, z_eql, z_nat, z_i2l, z_l2i, z_div, z_sh, Int.toNat_natCast, z_ts, z_tsl] at c; omega, fun _ => ⟨by simp (disch := omega) only [z_lit, z_litl, z_neg, z_negl, z_add, z_sub, z_mul, z_addl, z_subl, z_mull, z_cc, z_cl, z_cr, z_cm, z_cml, z_cmr, z_lt, z_le, z_eq, z_ltl, z_lel, z_eql, z_nat, z_i2l, z_l2i, z_div, z_sh, Int.toNat_natCast, z_ts, z_tsl]; omega, fun c => skip fun _ => by simp (disch := omega) only [z_lit, z_litl, z_neg, z_negl, z_add, z_sub, z_mul, z_addl, z_subl, z_mull, z_cc, z_cl, z_cr, z_cm, z_cml, z_cmr, z_lt, z_le, z_eq, z_ltl, z_lel, z_eql, z_nat, z_i2l, z_l2i, z_div, z_sh, Int.toNat_natCast, z_ts, z_tsl] at c; omega, fun c => ⟨fun c2 => skip fun c3 => absurd c3 c2, fun yb => ?_⟩⟩⟩
                have hlt : F vv < 1000000 := by simp (disch := omega) only [z_lit, z_litl, z_neg, z_negl, z_add, z_sub, z_mul, z_addl, z_subl, z_mull, z_cc, z_cl, z_cr, z_cm, z_cml, z_cmr, z_lt, z_le, z_eq, z_ltl, z_lel, z_eql, z_nat, z_i2l, z_l2i, z_div, z_sh, Int.toNat_natCast, z_ts, z_tsl] at c; omega
                refine c_goesOnWith (d := d) (κ := κ) (kept := kept) (F := F) (by rw [hg 76 (by decide)]; exact hm) hwS hj yb hI hv0 hv hlt fun F' g2 r hI2 hg2 hle2 hcl hr => ?_
                refine b_m_twofoldOf_60 (h := ?_) ..
                have hle3 : ∀ i, F' i ≤ F0 i := fun i => Nat.le_trans (hle2 i) (hle i)
                have hg3 : g93 g2 g := fun a ha => (hg2 a ha).trans (hg a ha)
                simp only [i1N]
                have one : sumF F' 125 < sumF F0 125 → WP X (d + 4) 224 (24, [some (.ref 74), some (.int (iI (kept : Int))), some (.int 1), some (.int (iI (vv : Int))), some (.int (iI ((j + 1 : Nat) : Int)))], [], Wd f fl g2 gl hh v tx) P := fun hs2 => ihw (j + 1) F' g2 1 (by omega) hI2 hg3 hle3 (Or.inr ⟨rfl, hs2⟩)
                rcases hr with ⟨r0, r1⟩ | ⟨r0, r1⟩
                · subst r0
                  refine ⟨fun c => absurd rfl c, fun _ => ?_⟩
                  rcases hd with ⟨e0, e1, e2⟩ | ⟨e0, e1⟩
                  · subst e0
                    refine ⟨fun _ => ?_, fun c => absurd rfl c⟩
                    refine ihw (j + 1) F' g2 0 (by omega) hI2 hg3 hle3 (Or.inl ⟨rfl, r1.trans e1, fun v i h1 h2 h3 => ?_⟩)
                    by_cases e : v = vv ∧ i = j
                    · obtain ⟨rfl, rfl⟩ := e
                      rw [r1, e1] at hcl
                      exact hcl
                    · exact e2 v i h1 (by omega) h3
                  · subst e0
                    refine ⟨fun c => absurd c (by decide), fun _ => one (by rw [r1]; exact e1)⟩
                · subst r0
                  have hs2 : sumF F' 125 < sumF F0 125 := Nat.lt_of_lt_of_le r1 (sumF_le 125 fun i _ => hle i)
                  exact ⟨fun _ => one hs2, fun c => absurd c (by decide)⟩
            refine b_m_twofoldOf_15 (h := ⟨fun c => by simp (disch := omega) only [z_lit, z_litl, z_neg, z_negl, z_add, z_sub, z_mul, z_addl, z_subl, z_mull, z_cc, z_cl, z_cr, z_cm, z_cml, z_cmr, z_lt, z_le, z_eq, z_ltl, z_lel, z_eql, z_nat, z_i2l, z_l2i, z_div, z_sh, Int.toNat_natCast, z_ts, z_tsl] at c; omega, fun _ => ?_⟩) ..
            refine inner (κ 55) 0 F g' q rfl hI hg hle ?_
            rcases hd with ⟨e0, e1, e2⟩ | hd
            · exact Or.inl ⟨e0, e1, fun v i h1 h2 h3 => e2 v i h1 (by omega) (by omega) h3⟩
            · exact Or.inr hd
        exact outer 124 1 F0 g0 0 rfl (by decide) hI0 hg0 (fun _ => Nat.le_refl _) (Or.inl ⟨rfl, rfl, fun v j h1 h2 => by omega⟩)
  exact rounds (sumF F 125 + 1) F g1 1 (by omega) hI hg hq (Or.inr rfl)
