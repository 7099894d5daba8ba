/-! to undo -/
theorem c_m_undo {X : mm_X} {d : Nat} {f : Nat → Int32} {fl : Nat → Int64} {g : Nat → Nat → Int32} {gl : Nat → Nat → Int64} {hh : Nat → Nat → Option Nat} {v : Nat → Value} {tx : mm_W} {P : Option Value → mm_W → Prop} {a w : Nat} {R : Nat → Nat} (ha : a ≤ 16) (hf : f 4777 = iI a) (h0 : a = 0 → P (some (.int (iI (-3)))) (Wd (va_up f 4736 (iI (-3))) fl (va_up g 75 (upd (g 75) 3 (g 75 3 + iI 1))) gl hh v tx))
    (h1 : 0 < a → (∀ i, i < 23 → g 97 (24 * (a - 1) + i) = iI (R i)) ∧ g 97 (24 * (a - 1) + 23) = iI w)
    (h2 : 0 < a → ∀ K : Nat → Int32, (∀ i, i < 23 → K i = iI (R i)) → (∀ i, 23 ≤ i → K i = g 76 i) → P (some (.int (iI w))) (Wd (va_up (va_up f 4777 (iI ((a - 1 : Nat) : Int))) 4736 (iI 0)) fl (va_up g 76 K) gl hh v tx)) : WP X (d + 1) 233 (0, [some (.ref 74), none, none], [], Wd f fl g gl hh v tx) P := by
  refine b_m_undo_0 (h := ?_) ..
  simp (disch := omega) only [z_lit, z_litl, z_neg, z_negl, z_add, z_sub, z_mul, z_addl, z_subl, z_mull, z_cc, z_cl, z_cr, z_cm, z_cml, z_cmr, z_lt, z_le, z_eq, z_ltl, z_lel, z_eql, z_nat, z_i2l, z_l2i, z_div, z_sh, Int.toNat_natCast, z_ts, z_tsl, hf]
  refine ⟨fun c => ?_, fun c => h0 (by omega)⟩
  have ha0 : 0 < a := by omega
  obtain ⟨g1, g2⟩ := h1 ha0
  have e1 : (a : Int) - 1 = ((a - 1 : Nat) : Int) := by omega
  simp (disch := omega) only [z_lit, z_litl, z_neg, z_negl, z_add, z_sub, z_mul, z_addl, z_subl, z_mull, z_cc, z_cl, z_cr, z_cm, z_cml, z_cmr, z_lt, z_le, z_eq, z_ltl, z_lel, z_eql, z_nat, z_i2l, z_l2i, z_div, z_sh, Int.toNat_natCast, z_ts, z_tsl, e1]
  have key : ∀ i, i ≤ 23 → ∀ K : Nat → Int32, (∀ x, x < i → K x = iI (R x)) → (∀ x, i ≤ x → K x = g 76 x) → WP X (d + 1) 233 (34, [some (.ref 74), some (.int (iI ((24 * (a - 1) : Nat) : Int))), some (.int (iI i))], [], Wd (va_up f 4777 (iI ((a - 1 : Nat) : Int))) fl (va_up g 76 K) gl hh v tx) P := by
    apply k_up (Q := fun i => ∀ K : Nat → Int32, (∀ x, x < i → K x = iI (R x)) → (∀ x, i ≤ x → K x = g 76 x) → WP X (d + 1) 233 (34, [some (.ref 74), some (.int (iI ((24 * (a - 1) : Nat) : Int))), some (.int (iI i))], [], Wd (va_up f 4777 (iI ((a - 1 : Nat) : Int))) fl (va_up g 76 K) gl hh v tx) P)
    · intro K k1 k2
      refine b_m_undo_34 (h := ?_) ..
      simp (disch := omega) only [z_lit, z_litl, z_neg, z_negl, z_add, z_sub, z_mul, z_addl, z_subl, z_mull, z_cc, z_cl, z_cr, z_cm, z_cml, z_cmr, z_lt, z_le, z_eq, z_ltl, z_lel, z_eql, z_nat, z_i2l, z_l2i, z_div, z_sh, Int.toNat_natCast, z_ts, z_tsl, va_ne, va_s, g2]
      refine ⟨fun _ => ⟨by omega, ?_⟩, fun c => by omega⟩
      exact h2 ha0 K k1 k2
    · intro i hi ih K k1 k2
      have gi := g1 i hi
      refine b_m_undo_34 (h := ?_) ..
      simp (disch := omega) only [z_lit, z_litl, z_neg, z_negl, z_add, z_sub, z_mul, z_addl, z_subl, z_mull, z_cc, z_cl, z_cr, z_cm, z_cml, z_cmr, z_lt, z_le, z_eq, z_ltl, z_lel, z_eql, z_nat, z_i2l, z_l2i, z_div, z_sh, Int.toNat_natCast, z_ts, z_tsl, va_ne, va_s, va_tw, gi]
      refine ⟨fun c => by omega, fun _ => ⟨by omega, by omega, ?_⟩⟩
      refine ih _ (fun x hx => ?_) (fun x hx => ?_)
      · by_cases e : x = i
        · rw [e, upd_s]
        · rw [upd_ne e]; exact k1 x (by omega)
      · rw [upd_ne (by omega)]; exact k2 x (by omega)
  have := key 0 (by omega) (g 76) (fun x hx => absurd hx (Nat.not_lt_zero x)) fun x _ => rfl
  rw [show va_up g 76 (g 76) = g by
    funext j
    by_cases e : j = 76
    · rw [e, va_s]
    · rw [va_ne e]] at this
  exact this
def u_κ (R κ : Nat → Nat) : Nat → Nat := fun i => if i < 23 then R i else κ i
theorem u_lo {R κ : Nat → Nat} {i : Nat} (h : i < 23) : u_κ R κ i = R i := if_pos h
theorem u_hi {R κ : Nat → Nat} {i : Nat} (h : 23 ≤ i) : u_κ R κ i = κ i := if_neg (by omega)
abbrev x_H (m : Int32) (sp : Nat → Int32) (κ : Nat → Nat) : Prop := xH m sp κ
abbrev x_L (hu cl : Int32) (κ : Nat → Nat) : Prop := xL hu cl κ
abbrev x_T (te : Nat → Int32) (κ : Nat → Nat) : Prop := xT te κ
theorem o_undo : k_op20 k_Inv := by
  intro X f fl g gl hh v tx hI
  have hI' := hI
  obtain ⟨κ, ⟨wS, wH, wL, wD, wW, wT, wB⟩, hm, ⟨xS, xH, xL, xD, xW, xT⟩, he, ht, ha, hi0, hi1, hd, hr⟩ := hI
  obtain ⟨a, c, R, a1, a2, a3, a4, a5⟩ := ha
  refine b_x_undo_0 (h := ?_) ..
  by_cases ha0 : a = 0
  · refine b_yst_unwind_1_0 (h := ?_) ..
    simp (disch := omega) only [z_lit, z_litl, z_neg, z_negl, z_add, z_sub, z_mul, z_addl, z_subl, z_mull, z_cc, z_cl, z_cr, z_cm, z_cml, z_cmr, z_lt, z_le, z_eq, z_ltl, z_lel, z_eql, z_nat, z_i2l, z_l2i, z_div, z_sh, Int.toNat_natCast, z_ts, z_tsl, a2]
    refine ⟨fun c => by omega, fun _ => ?_⟩
    refine b_x_undo_8 (h := ?_) ..
    simp (disch := omega) only [z_lit, z_litl, z_neg, z_negl, z_add, z_sub, z_mul, z_addl, z_subl, z_mull, z_cc, z_cl, z_cr, z_cm, z_cml, z_cmr, z_lt, z_le, z_eq, z_ltl, z_lel, z_eql, z_nat, z_i2l, z_l2i, z_div, z_sh, Int.toNat_natCast, z_ts, z_tsl]
    repeat (first | refine ⟨fun c9 => by omega, fun _ => ?_⟩ | refine ⟨fun _ => ?_, fun c9 => by omega⟩ | refine ⟨by omega, ?_⟩)
    refine k_mid ?_
    refine c_m_undo (a := a) (w := 0) (R := fun _ => 0) a1 (by exact a3) (fun _ => ?_) (fun c => by omega) fun c => by omega
    exact k_fin0 rfl (hI'.rf (iI (-3)) 3 (by decide))
  · obtain ⟨g1, g2, g3, g4, g5, g6, g7, g8⟩ := a5 (a - 1) (by omega)
    rw [show a - 1 + 1 = a by omega] at g8
    have hR : ∀ i, i < 23 → R (a - 1) i < 2147483648 := fun i hi => by
      by_cases e : i < 12
      · have := g6.2 i e; omega
      · by_cases e2 : i = 12
        · rw [e2]; have := g6.1; omega
        · by_cases e3 : i = 22
          · rw [e3]; omega
          · have h16 := g5.2 (i - 13)
            have h17 := g5.2 (i - 16)
            have h18 := g5.2 (i - 19)
            by_cases f1 : i < 16
            · have t : (if 13 + (i - 13) < 23 then R (a - 1) (13 + (i - 13)) else κ (13 + (i - 13))) ≤ 24 := (h16 (by omega)).1
              rw [if_pos (by omega), show 13 + (i - 13) = i by omega] at t
              omega
            · by_cases f2 : i < 19
              · have t : (if 16 + (i - 16) < 23 then R (a - 1) (16 + (i - 16)) else κ (16 + (i - 16))) ≤ 3 := (h17 (by omega)).2.1
                rw [if_pos (by omega), show 16 + (i - 16) = i by omega] at t
                omega
              · have t : (if 19 + (i - 19) < 23 then R (a - 1) (19 + (i - 19)) else κ (19 + (i - 19))) ≤ 9 := (h18 (by omega)).2.2
                rw [if_pos (by omega), show 19 + (i - 19) = i by omega] at t
                omega
    have hu56 : u_κ (R (a - 1)) κ 56 = κ 56 := u_hi (by omega)
    have fin : ∀ (f' : Nat → Int32) (g' : Nat → Nat → Int32), (∀ i, i ≠ 70 → i ≠ 71 → i ≠ 78 → f' i = f i) → f' 78 = iI ((a - 1 : Nat) : Int) → (∀ k, k ≠ 5 → k ≠ 8 → g' k = g k) → x_H (f' 68) (g' 5) (u_κ (R (a - 1)) κ) → x_L (f' 70) (f' 71) (u_κ (R (a - 1)) κ) → x_T (g' 8) (u_κ (R (a - 1)) κ) →
        WP X 1999 78 (8, [some (.ref 0)], [.int (iI ((c (a - 1) % 4 : Nat) : Int)), .ref 0], Wd f' fl g' gl hh v tx) (fun r1 w1 => ∃ (a : Int64) (f1 : Nat → Int32) (fl1 : Nat → Int64) (g1 : Nat → Nat → Int32) (gl1 : Nat → Nat → Int64) (hh1 : Nat → Nat → Option Nat) (v1 : Nat → Value) (tx1 : mm_W), r1 = some (k_mi a) ∧ w1 = Wd f1 fl1 g1 gl1 hh1 v1 tx1 ∧ WP X 1999 233 (0, [some (.ref 74), none, none], [], w1) (fun r2 w2 => r2 = some (k_mi a) ∧ ∃ (f2 : Nat → Int32) (fl2 : Nat → Int64) (g2 : Nat → Nat → Int32) (gl2 : Nat → Nat → Int64) (hh2 : Nat → Nat → Option Nat) (v2 : Nat → Value) (tx2 : mm_W), w2 = Wd f2 fl2 g2 gl2 hh2 v2 tx2 ∧ k_Inv f2 fl2 g2 gl2 hh2 v2 tx2 ∧ tx2.length ≤ tx.length + 3 ∧ mm_sl tx2 ≤ mm_sl tx + 464)) := by
      intro f' g' hf hf78 hg nH nL nT
      refine b_x_undo_8 (h := ?_) ..
      simp (disch := omega) only [z_lit, z_litl, z_neg, z_negl, z_add, z_sub, z_mul, z_addl, z_subl, z_mull, z_cc, z_cl, z_cr, z_cm, z_cml, z_cmr, z_lt, z_le, z_eq, z_ltl, z_lel, z_eql, z_nat, z_i2l, z_l2i, z_div, z_sh, Int.toNat_natCast, z_ts, z_tsl]
      repeat (first | refine ⟨fun c9 => by omega, fun _ => ?_⟩ | refine ⟨fun _ => ?_, fun c9 => by omega⟩ | refine ⟨by omega, ?_⟩)
      refine k_mid ?_
      refine c_m_undo (a := a) (w := c (a - 1) % 4) (R := R (a - 1)) a1 ?_ (fun h => absurd h ha0) (fun _ => ⟨fun i hi => ?_, ?_⟩) fun _ K k1 k2 => ?_
      · rw [va_ne (by decide), hf _ (by decide) (by decide) (by decide)]; exact a3
      · rw [hg _ (by decide) (by decide)]; exact g3 i hi
      · rw [hg _ (by decide) (by decide)]; exact g4
      · have k3 : ∀ i, 23 ≤ i → K i = g 76 i := fun i hi => by rw [k2 i hi, hg _ (by decide) (by decide)]
        have q : ∀ k, k ≠ 5 → k ≠ 8 → k ≠ 76 → va_up g' 76 K k = g k := fun k h1 h2 h3 => by rw [va_ne h3, hg k h1 h2]
        have p : ∀ i, i ≠ 70 → i ≠ 71 → i ≠ 78 → i ≠ 18 → i ≠ 4777 → i ≠ 4736 → va_up (va_up (va_up f' 18 (iI 0)) 4777 (iI ((a - 1 : Nat) : Int))) 4736 (iI 0) i = f i := fun i h1 h2 h3 h4 h5 h6 => by rw [va_ne h6, va_ne h5, va_ne h4, hf i h1 h2 h3]
        have f68 := hf 68 (by decide) (by decide) (by decide)
        refine k_fin0 rfl ⟨u_κ (R (a - 1)) κ, ⟨wS.cg fun i hi => u_hi (by omega), ?_, ?_, wD.cg fun i hi => u_hi (by omega), wW.cg fun i hi => u_hi (by omega), ⟨?_, ?_, ?_⟩, fun i => ?_⟩, ⟨fun i hi => ?_, ?_⟩, ⟨?_, nH, nL, ?_, ?_, nT⟩, ?_, ?_, ?_, ?_, ?_, ?_, ?_⟩
        · exact g5
        · exact g6.cg fun i hi => u_lo (by omega)
        · rw [u_lo (by omega)]; exact g7
        · rw [u_hi (by omega)]; exact wT.2.1
        · rw [u_hi (by omega)]; exact wT.2.2
        · by_cases h : i < 23
          · rw [u_lo h]; exact hR i h
          · rw [u_hi (by omega)]; exact wB i
        · show K i = _
          by_cases h : i < 23
          · rw [u_lo h]; exact k1 i h
          · rw [u_hi (by omega), k3 i (by omega)]; exact hm.1 i hi
        · show K 59 = _
          rw [u_hi (by omega), k3 59 (by omega)]; exact hm.2
        · rw [p 64 (by decide) (by decide) (by decide) (by decide) (by decide) (by decide), q 2 (by decide) (by decide) (by decide), q 3 (by decide) (by decide) (by decide), q 4 (by decide) (by decide) (by decide)]
          exact xS.cg wS.1 fun i hi => u_hi (by omega)
        · rw [p 72 (by decide) (by decide) (by decide) (by decide) (by decide) (by decide), q 6 (by decide) (by decide) (by decide)]
          exact xD.cg wD.1 fun i hi => u_hi (by omega)
        · rw [p 74 (by decide) (by decide) (by decide) (by decide) (by decide) (by decide), p 76 (by decide) (by decide) (by decide) (by decide) (by decide) (by decide)]
          exact xW.cg fun i hi => u_hi (by omega)
        · rw [p 14 (by decide) (by decide) (by decide) (by decide) (by decide) (by decide), p 4750 (by decide) (by decide) (by decide) (by decide) (by decide) (by decide), p 15 (by decide) (by decide) (by decide) (by decide) (by decide) (by decide), p 4742 (by decide) (by decide) (by decide) (by decide) (by decide) (by decide), p 16 (by decide) (by decide) (by decide) (by decide) (by decide) (by decide), p 4778 (by decide) (by decide) (by decide) (by decide) (by decide) (by decide), q 55 (by decide) (by decide) (by decide), q 75 (by decide) (by decide) (by decide)]
          exact ⟨he.1, he.2.1, he.2.2.1, rfl, he.2.2.2.2⟩
        · rw [p 6 (by decide) (by decide) (by decide) (by decide) (by decide) (by decide), p 4749 (by decide) (by decide) (by decide) (by decide) (by decide) (by decide), q 30 (by decide) (by decide) (by decide), q 81 (by decide) (by decide) (by decide)]
          exact ht
        · rw [q 9 (by decide) (by decide) (by decide), q 97 (by decide) (by decide) (by decide)]
          refine ⟨a - 1, c, R, by omega, ?_, rfl, fun i hi => (u_lo hi).symm, fun k hk => ?_⟩
          · show f' 78 = _
            exact hf78
          · obtain ⟨j1, j2, j3, j4, j5, j6, j7, j8⟩ := a5 k (by omega)
            rw [hu56]
            refine ⟨j1, j2, j3, j4, j5.cg fun i hi => ?_, j6, j7, j8⟩
            show (if i < 23 then R k i else u_κ (R (a - 1)) κ i) = (if i < 23 then R k i else κ i)
            split
            · rfl
            · exact u_hi (by omega)
        · simp (disch := omega) only [p, q]
          exact hi0
        · simp (disch := omega) only [p, q]
          exact hi1
        · simp (disch := omega) only [p, q]
          exact hd
        · exact hr
    have hS : ∀ i, i < 23 → κ i = R a i := fun i hi => (a4 i hi).symm
    have hl : ∀ i, i < κ 12 → κ i ≤ 3 := fun i hi => wL.2 i (by have := wL.1; omega)
    have hcod := codF_12 wL
    have b12 := wL.1
    have b56 := wH.1
    have r12 := g6.1
    have hsp : ∀ p, p < κ 56 → spot κ p = spot (R a) p := fun p hp => spot_cg (by omega) hS
    have hspu : ∀ p, p < κ 56 → spot (u_κ (R (a - 1)) κ) p = spot (R (a - 1)) p := fun p hp => spot_cg (by omega) fun i hi => u_lo hi
    have hu12 : u_κ (R (a - 1)) κ 12 = R (a - 1) 12 := u_lo (by omega)
    have hu22 : u_κ (R (a - 1)) κ 22 = R (a - 1) 22 := u_lo (by omega)
    have keepH : (∀ p, p < κ 56 → spot (R a) p = spot (R (a - 1)) p) → x_H (f 68) (g 5) (u_κ (R (a - 1)) κ) := fun h => ⟨by rw [hu56]; exact xH.1, fun p hp => by
      rw [hu56] at hp
      rw [hspu p hp, ← h p hp, ← hsp p hp]
      exact xH.2 p hp⟩
    have keepL : R a 12 = R (a - 1) 12 → (∀ i, i < R (a - 1) 12 → R a i = R (a - 1) i) → x_L (f 70) (f 71) (u_κ (R (a - 1)) κ) := fun h h2 => ⟨by rw [hu12, ← h, ← hS 12 (by omega)]; exact xL.1, by
      rw [hu12, codF_cg (c := κ) fun i hi => by rw [u_lo (by omega), ← h2 i hi, ← hS i (by omega)], ← h, ← hS 12 (by omega)]
      exact xL.2⟩
    have keepT : R a 22 = R (a - 1) 22 → x_T (g 8) (u_κ (R (a - 1)) κ) := fun h => ⟨by rw [hu22, ← h, ← hS 22 (by omega)]; exact xT.1, by rw [u_hi (by omega)]; exact xT.2.1, by rw [u_hi (by omega)]; exact xT.2.2⟩
    have s12 := hS 12 (by omega)
    have s22 := hS 22 (by omega)
    refine b_yst_unwind_1_0 (h := ?_) ..
    have ea : iI (a : Int) - (1 : Int32) = iI ((a - 1 : Nat) : Int) := by rw [show (1 : Int32) = iI 1 from rfl, z_sub]; congr 1; omega
    rw [a2, ea, show (iI ((a - 1 : Nat) : Int)).toNatClampNeg = a - 1 by rw [z_nat (by omega)]; omega, g2, cod_and3 g1, cod_shr g1]
    refine ⟨fun _ => ⟨by simp (disch := omega) only [z_lit, z_litl, z_neg, z_negl, z_add, z_sub, z_mul, z_addl, z_subl, z_mull, z_cc, z_cl, z_cr, z_cm, z_cml, z_cmr, z_lt, z_le, z_eq, z_ltl, z_lel, z_eql, z_nat, z_i2l, z_l2i, z_div, z_sh, Int.toNat_natCast, z_ts, z_tsl]; omega, by simp (disch := omega) only [z_lit, z_litl, z_neg, z_negl, z_add, z_sub, z_mul, z_addl, z_subl, z_mull, z_cc, z_cl, z_cr, z_cm, z_cml, z_cmr, z_lt, z_le, z_eq, z_ltl, z_lel, z_eql, z_nat, z_i2l, z_l2i, z_div, z_sh, Int.toNat_natCast, z_ts, z_tsl]; omega, fun c0 => ?_, fun c0 => ⟨fun c1 => ?_, fun c1 => ⟨fun c2 => ?_, fun c2 => ?_⟩⟩⟩, fun c0 => by simp (disch := omega) only [z_lit, z_litl, z_neg, z_negl, z_add, z_sub, z_mul, z_addl, z_subl, z_mull, z_cc, z_cl, z_cr, z_cm, z_cml, z_cmr, z_lt, z_le, z_eq, z_ltl, z_lel, z_eql, z_nat, z_i2l, z_l2i, z_div, z_sh, Int.toNat_natCast, z_ts, z_tsl] at c0; omega⟩
    · simp (disch := omega) only [z_lit, z_litl, z_neg, z_negl, z_add, z_sub, z_mul, z_addl, z_subl, z_mull, z_cc, z_cl, z_cr, z_cm, z_cml, z_cmr, z_lt, z_le, z_eq, z_ltl, z_lel, z_eql, z_nat, z_i2l, z_l2i, z_div, z_sh, Int.toNat_natCast, z_ts, z_tsl] at c0
      rcases g8 with ⟨q1, q2, q3, q4, q5⟩ | ⟨q1, -⟩ | ⟨q1, -⟩ | ⟨q1, -⟩
      · refine fin _ _ (fun i h1 h2 h3 => ?_) ?_ (fun k _ _ => rfl) (keepH q4) ⟨?_, ?_⟩ (keepT q5)
        · rw [va_ne h1, va_ne h2, va_ne h3]
        · rw [va_ne (by decide), va_ne (by decide), va_s]
        · rw [va_s, hu12, xL.1]
          rw [show (1 : Int32) = iI 1 from rfl, z_sub]
          congr 1
          omega
        · rw [va_ne (by decide), va_s, xL.2, cod_shr (by omega), hu12]
          congr 2
          rw [show κ 12 = R (a - 1) 12 + 1 by omega, codF, codF_cg (c := κ) (c' := u_κ (R (a - 1)) κ) fun i hi => by rw [u_lo (by omega), ← q3 i hi, ← hS i (by omega)]]
          have := hl (R (a - 1) 12) (by omega)
          omega
      · omega
      · omega
      · omega
    · simp (disch := omega) only [z_lit, z_litl, z_neg, z_negl, z_add, z_sub, z_mul, z_addl, z_subl, z_mull, z_cc, z_cl, z_cr, z_cm, z_cml, z_cmr, z_lt, z_le, z_eq, z_ltl, z_lel, z_eql, z_nat, z_i2l, z_l2i, z_div, z_sh, Int.toNat_natCast, z_ts, z_tsl] at c0 c1
      rcases g8 with ⟨q1, -⟩ | ⟨q1, q2, q3, q4, q5, q6⟩ | ⟨q1, -⟩ | ⟨q1, -⟩
      · omega
      · have h3 : c (a - 1) / 4 ≤ 3 := by rw [← q4]; exact g6.2 _ (by omega)
        refine fin _ _ (fun i h1 h2 h3 => ?_) ?_ (fun k _ _ => rfl) (keepH q5) ⟨?_, ?_⟩ (keepT q6)
        · rw [va_ne h1, va_ne h2, va_ne h3]
        · rw [va_ne (by decide), va_ne (by decide), va_s]
        · rw [va_s, hu12, xL.1]
          rw [show (1 : Int32) = iI 1 from rfl, z_add]
          congr 1
          omega
        · rw [va_ne (by decide), va_s, xL.2, cod_shl (codF_11 wL (by omega)) h3, hu12]
          congr 2
          rw [q2, codF, ← q4, show u_κ (R (a - 1)) κ (R a 12) = R (a - 1) (R a 12) from u_lo (by omega), s12, codF_cg (c := κ) (c' := u_κ (R (a - 1)) κ) fun i hi => by rw [u_lo (by omega), ← q3 i hi, ← hS i (by omega)]]
      · omega
      · omega
    · simp (disch := omega) only [z_lit, z_litl, z_neg, z_negl, z_add, z_sub, z_mul, z_addl, z_subl, z_mull, z_cc, z_cl, z_cr, z_cm, z_cml, z_cmr, z_lt, z_le, z_eq, z_ltl, z_lel, z_eql, z_nat, z_i2l, z_l2i, z_div, z_sh, Int.toNat_natCast, z_ts, z_tsl] at c0 c1 c2
      rcases g8 with ⟨q1, -⟩ | ⟨q1, -⟩ | ⟨q1, q2, q3, q4, q5, q6, q7⟩ | ⟨q1, -⟩
      · omega
      · omega
      · have e4 : c (a - 1) / 4 / 4 = c (a - 1) / 16 := by omega
        rw [cod_and3 (by omega), cod_shr (by omega), e4, xH.1]
        simp (disch := omega) only [z_lit, z_litl, z_neg, z_negl, z_add, z_sub, z_mul, z_addl, z_subl, z_mull, z_cc, z_cl, z_cr, z_cm, z_cml, z_cmr, z_lt, z_le, z_eq, z_ltl, z_lel, z_eql, z_nat, z_i2l, z_l2i, z_div, z_sh, Int.toNat_natCast, z_ts, z_tsl]
        refine ⟨fun _ => ⟨by omega, ?_⟩, fun h => by omega⟩
        refine fin _ _ (fun i h1 h2 h3 => va_ne h3) va_s (fun k h1 _ => va_ne h1) ⟨?_, fun p hp => ?_⟩ (keepL q2 q3) (keepT q7)
        · rw [va_ne (by decide), hu56]; exact xH.1
        · rw [hu56] at hp
          rw [va_s, hspu p hp]
          by_cases e : p = c (a - 1) / 4 % 4
          · rw [e, upd_s, q6]
          · rw [upd_ne e, ← q5 p hp e, ← hsp p hp]; exact xH.2 p hp
      · omega
    · simp (disch := omega) only [z_lit, z_litl, z_neg, z_negl, z_add, z_sub, z_mul, z_addl, z_subl, z_mull, z_cc, z_cl, z_cr, z_cm, z_cml, z_cmr, z_lt, z_le, z_eq, z_ltl, z_lel, z_eql, z_nat, z_i2l, z_l2i, z_div, z_sh, Int.toNat_natCast, z_ts, z_tsl] at c0 c1 c2
      rcases g8 with ⟨q1, -⟩ | ⟨q1, -⟩ | ⟨q1, -⟩ | ⟨q1, q2, q3, q4, q5⟩
      · omega
      · omega
      · omega
      · refine fin _ _ (fun i h1 h2 h3 => va_ne h3) va_s (fun k _ h2 => va_ne h2) (keepH q4) (keepL q2 q3) ⟨?_, ?_, ?_⟩
        · rw [va_s, upd_s, hu22, xT.1]
          rw [show (1 : Int32) = iI 1 from rfl, z_sub]
          congr 1
          omega
        · rw [va_s, upd_ne (by decide), u_hi (by omega)]; exact xT.2.1
        · rw [va_s, upd_ne (by decide), u_hi (by omega)]; exact xT.2.2
