/-! plan -/
/-- what plan answers -/
def plV (κ : Nat → Nat) (cs : List pC) (p : Nat) (E : Nat → Nat) (i e : Int) : Prop := E (spot κ p) = 1000000 ∧ e = -1 ∨ E (spot κ p) < 1000000 ∧ (i = -1 ∧ e = E (spot κ p) ∨ 0 ≤ i ∧ pthR (plN κ cs p) (plL κ) (κ 55) E i.toNat (spot κ p) e)
theorem plV.uniq {κ : Nat → Nat} {cs : List pC} {p : Nat} {E : Nat → Nat} {i e e' : Int} (h : plV κ cs p E i e) (h' : plV κ cs p E i e') : e = e' := by
  rcases h with ⟨r1, r2⟩ | ⟨r1, r2⟩
  · rcases h' with ⟨-, k2⟩ | ⟨k1, -⟩
    · rw [r2, k2]
    · omega
  · rcases h' with ⟨k1, -⟩ | ⟨-, k2⟩
    · omega
    · rcases r2 with ⟨r2, r3⟩ | ⟨r2, r3⟩
      · rcases k2 with ⟨-, k3⟩ | ⟨k2, -⟩
        · rw [r3, k3]
        · omega
      · rcases k2 with ⟨k2, -⟩ | ⟨-, k3⟩
        · omega
        · exact r3.uniq k3
theorem c_x_plan {X : mm_X} {d : Nat} {f : Nat → Int32} {fl : Nat → Int64} {g : Nat → Nat → Int32} {gl : Nat → Nat → Int64} {hh : Nat → Nat → Option Nat} {v : Nat → Value} {tx : mm_W} {P : Option Value → mm_W → Prop} {κ : Nat → Nat} {cs : List pC} {p c : Nat} {i : Int} {D E : Nat → Nat} (wS : wS κ) (wH : wH κ) (wT : wT κ) (wW : wW κ) (xS : xS (f 64) (g 2) (g 3) (g 4) κ) (xH : xH (f 68) (g 5) κ) (xW : xW (f 74) (hh 7) (f 76) tx κ) (xT : xT (g 8) κ) (hok : csOK cs) (hF : (κ 59 = 0 ∧ cs = []) ∨ ∃ t o, κ 59 = t + 1 ∧ t < κ 58 ∧ hh 7 t = some o ∧ lwX tx o cs) (hp3 : p < κ 56) (hce : c < 25) (hi : -1 ≤ i ∧ i < 2147483648) (hDE : DE (plN κ cs p) (plL κ) (κ 55) (spot κ p) c D E) (hEm : E (spot κ p) ≤ 1000000)
    (h : ∀ (e : Int) f' g' gl' v', fP f' f → gP g' g → plV κ cs p E i e → P (some (.int (iI e))) (Wd f' fl g' gl' hh v' tx)) :
    WP X (d + 7) 83 (0, [some (.ref 0), some (.int (iI (p : Int))), some (.int (iI (c : Int))), some (.int (iI i)), none, none], [], Wd f fl g gl hh v tx) P := by
  have b56 := wH.1
  have hsp := spot_lt wH (p := p) (by omega)
  have call : ∀ (A : Nat → Int32) (v1 : Nat → Value), A 0 = iI (p : Int) → A 6 = iI (κ 22) → A 7 = iI (κ 54) → cpX v1 tx cs → WP X (d + 7) 83 (49, [some (.ref 0), some (.int (iI (p : Int))), some (.int (iI (c : Int))), some (.int (iI i)), none, none], [], Wd (va_up f 2440 (iI (spot κ p))) fl (va_up g 41 A) gl hh v1 tx) P := by
    intro A v1 A0 A6 A7 hX
    have tp : (iI (p : Int)).toNatClampNeg = p := by rw [z_nat (by omega)]; omega
    refine b_x_plan_49 (d := d + 6) (h := ?_) ..
    rw [tp, show va_up g 41 A 5 p = iI (spot κ p : Int) from xH.2 p hp3]
    refine ⟨by simp (disch := omega) only [z_lit, z_litl, z_neg, z_negl, z_add, z_sub, z_mul, z_addl, z_subl, z_mull, z_cc, z_cl, z_cr, z_cm, z_cml, z_cmr, z_lt, z_le, z_eq, z_ltl, z_lel, z_eql, z_nat, z_i2l, z_l2i, z_div, z_sh, Int.toNat_natCast, z_ts, z_tsl]; omega, ?_⟩
    refine c_search (K := d) (κ := κ) (cs := cs) (p := p) (D := D) (E := E) hX wS wT (by exact xS) (by omega) A0 A6 A7 hsp.1 hce hDE (fun hlt h4 f1 g1 gl1 hf hg hon hb hlr => ?_) fun h6 f1 g1 gl1 hf hg => ?_
    · have hf' : fP f1 f := fun a h1 h2 => (hf a h1 h2).trans (va_ne h1)
      have hg' : gP g1 g := fun a h1 h2 => (hg a h1 h2).trans (va_ne h1)
      refine b_x_plan_78 (d := d + 6) (h := ⟨fun c2 => ?_, fun _ => ⟨fun c2 => ?_, fun c2 => ?_⟩⟩) ..
      · have c2 : iI (E (spot κ p) : Int) = iI (-1) := c2
        rw [z_eq (by omega) (by omega)] at c2
        omega
      · have ci : i ≠ -1 := fun e => c2 (by rw [e]; rfl)
        obtain ⟨n, rfl⟩ : ∃ n : Nat, i = n := ⟨i.toNat, by omega⟩
        refine c_signAt (d := d + 2) (κ := κ) (cs := cs) (p := p) (D := D) (E := E) wS ?_ hDE h4 hsp.1 (by omega) hon hb hlr fun r hr => ?_
        · rw [hf' 64 (by decide) (by decide), hg' 2 (by decide) (by decide), hg' 3 (by decide) (by decide), hg' 4 (by decide) (by decide)]
          exact xS
        · refine b_x_plan_110 (h := ?_) ..
          exact h r f1 g1 gl1 v1 hf' hg' (Or.inr ⟨hlt, Or.inr ⟨by omega, by rw [Int.toNat_natCast]; exact hr⟩⟩)
      · have c2 : iI i = iI (-1) := c2
        rw [z_eq (by omega) (by omega)] at c2
        exact h _ f1 g1 gl1 v1 hf' hg' (Or.inr ⟨hlt, Or.inl ⟨c2, rfl⟩⟩)
    · have hf' : fP f1 f := fun a h1 h2 => (hf a h1 h2).trans (va_ne h1)
      have hg' : gP g1 g := fun a h1 h2 => (hg a h1 h2).trans (va_ne h1)
      exact b_x_plan_78 (d := d + 6) (h := ⟨fun _ => h (-1) f1 g1 gl1 v1 hf' hg' (Or.inl ⟨h6, rfl⟩), fun c2 => absurd rfl c2⟩) ..
  have q1 : (0 : Int32) ≤ iI (p : Int) ∧ iI (p : Int) < f 68 := by rw [xH.1]; simp (disch := omega) only [z_lit, z_litl, z_neg, z_negl, z_add, z_sub, z_mul, z_addl, z_subl, z_mull, z_cc, z_cl, z_cr, z_cm, z_cml, z_cmr, z_lt, z_le, z_eq, z_ltl, z_lel, z_eql, z_nat, z_i2l, z_l2i, z_div, z_sh, Int.toNat_natCast, z_ts, z_tsl]; omega
  have q2 : (0 : Int32) ≤ iI (c : Int) ∧ iI (c : Int) < (25 : Int32) := by simp (disch := omega) only [z_lit, z_litl, z_neg, z_negl, z_add, z_sub, z_mul, z_addl, z_subl, z_mull, z_cc, z_cl, z_cr, z_cm, z_cml, z_cmr, z_lt, z_le, z_eq, z_ltl, z_lel, z_eql, z_nat, z_i2l, z_l2i, z_div, z_sh, Int.toNat_natCast, z_ts, z_tsl]; omega
  have q3 : (-1 : Int32) ≤ iI i := by simp (disch := omega) only [z_lit, z_litl, z_neg, z_negl, z_add, z_sub, z_mul, z_addl, z_subl, z_mull, z_cc, z_cl, z_cr, z_cm, z_cml, z_cmr, z_lt, z_le, z_eq, z_ltl, z_lel, z_eql, z_nat, z_i2l, z_l2i, z_div, z_sh, Int.toNat_natCast, z_ts, z_tsl]; omega
  rcases hF with ⟨h0, hcs⟩ | ⟨t, o, hF1, hF2, hF3, hF4⟩
  · refine b_x_plan_0 (d := d + 5) (t0 := 0) (h := ⟨fun _ => ⟨fun _ => ⟨fun _ => ⟨fun c2 => absurd c2 (force_N xW h0), fun _ => ?_⟩, fun c2 => absurd q3 c2⟩, fun c2 => absurd q2 c2⟩, fun c2 => absurd q1 c2⟩) ..
    exact c_boardn1 (κ := κ) wH xH xT hp3 fun A A0 A6 A7 => call A _ A0 A6 A7 (Or.inl ⟨hcs, va_s⟩)
  · obtain ⟨r1, r2, r3⟩ := force_T xW wW hF1 hF2 hF3
    refine b_x_plan_0 (d := d + 5) (t0 := o) (h := ⟨fun _ => ⟨fun _ => ⟨fun _ => ⟨fun _ => ⟨r2, r3, ?_⟩, fun c2 => absurd r1 c2⟩, fun c2 => absurd q3 c2⟩, fun c2 => absurd q2 c2⟩, fun c2 => absurd q1 c2⟩) ..
    exact c_boardt1 (κ := κ) wH xH xT hp3 fun A A0 A6 A7 => call A _ A0 A6 A7 (Or.inr ⟨o, va_s, hF4, hok⟩)
theorem o_plan : k_op25 k_Inv := by
  intro a0 a1 a2 X f fl g gl hh v tx hI
  have hI0 := hI
  obtain ⟨κ, hB⟩ := hI
  have hB : k_InvB κ f g hh tx := hB
  have hB' := hB
  obtain ⟨⟨wS, wH, wL, wD, wW, wT, wB⟩, hm, ⟨xS, xH, xL, xD, xW, xT⟩, he, ht, ha, hi0, hi1, hd, hr⟩ := hB'
  obtain ⟨p, hp, rfl⟩ := z_ex a0
  obtain ⟨c, hc, rfl⟩ := z_ex a1
  obtain ⟨i, hi, rfl⟩ := z_ex a2
  have b55 := wS.1
  have b56 := wH.1
  have e56 := hm.1 56 (by decide)
  obtain ⟨cs, hok, hR, hF⟩ := force_X xW wW
  by_cases hin : (0 ≤ p ∧ p < κ 56) ∧ (0 ≤ c ∧ c < 25) ∧ -1 ≤ i
  · obtain ⟨p, rfl⟩ : ∃ p' : Nat, p = p' := ⟨p.toNat, by omega⟩
    obtain ⟨c, rfl⟩ : ∃ c' : Nat, c = c' := ⟨c.toNat, by omega⟩
    have hp3 : p < κ 56 := by omega
    have hce : c < 25 := by omega
    have hsp := spot_lt wH (p := p) (by omega)
    have hN : NLok (plN κ cs p) (plL κ) (κ 55) := ⟨fun x j hx => stB_lt hx, fun j hj => ⟨(wS.2.1 j hj).1, (wS.2.1 j hj).2.1⟩⟩
    obtain ⟨D, hD⟩ := isDs_ex (RsP (plN κ cs p) (plL κ) (κ 55) (spot κ p))
    obtain ⟨E, hE⟩ := isDs_ex (RlP (plN κ cs p) (plL κ) (κ 55) c)
    have hDE := DE_of hN hsp.1 hD hE
    have hEm := (hE (spot κ p)).1
    refine c_x_plan (d := 1992) (κ := κ) (cs := cs) (p := p) (c := c) (D := D) (E := E) wS wH wT wW xS xH xW xT hok hF hp3 hce ⟨hin.2.2, hi.2⟩ hDE hEm fun e f1 g1 gl1 v1 hf hg hee => ?_
    refine k_mid ?_
    refine c_m_plan (K := 1984) (κ := κ) (cs := cs) (E := E) (by omega) (by rw [hg 76 (by decide) (by decide)]; exact hm) wS wL wH wT wB hR hok hp3 hce ⟨hin.2.2, hi.2⟩ hE fun f2 g2 r hf2 hg2 hr => ?_
    have her : r = e := plV.uniq (κ := κ) (cs := cs) (p := p) (E := E) (i := i) hr hee
    subst her
    have hF2 : ∀ a, a ≠ 2440 → a ≠ 2882 → (a < 4758 ∨ 4761 < a) → f2 a = f a := fun a h1 h2 h3 => (hf2 a h3).trans (hf a h1 h2)
    have hG2 : ∀ a, a ≠ 41 → (a < 46 ∨ 49 < a) → a ≠ 86 → a ≠ 87 → a ≠ 91 → a ≠ 92 → g2 a = g a := fun a h1 h2 h3 h4 h5 h6 => (hg2 a h3 h4 h5 h6).trans (hg a h1 h2)
    have hB2 : k_InvB κ f2 g2 hh tx := by
      unfold k_InvB
      simp (disch := decide) only [hF2, hG2]
      exact hB
    exact k_fin0 rfl hB2.inv
  · have ref : WP X 1999 215 (0, [some (.ref 74), some (.int (iI p)), some (.int (iI c)), some (.int (iI i)), none, none, none], [], Wd f fl g gl hh v tx) (k_fn (.int (-1)) k_Inv tx) := by
      refine b_m_plan_0 (d := 1997) (h := ?_) ..
      rw [e56]
      refine ⟨fun c1 => ⟨fun c2 => ⟨fun c3 => ?_, fun _ => k_fin0 rfl hI0⟩, fun _ => k_fin0 rfl hI0⟩, fun _ => k_fin0 rfl hI0⟩
      simp (disch := omega) only [z_lit, z_litl, z_neg, z_negl, z_add, z_sub, z_mul, z_addl, z_subl, z_mull, z_cc, z_cl, z_cr, z_cm, z_cml, z_cmr, z_lt, z_le, z_eq, z_ltl, z_lel, z_eql, z_nat, z_i2l, z_l2i, z_div, z_sh, Int.toNat_natCast, z_ts, z_tsl] at c1
      simp (disch := omega) only [z_lit, z_litl, z_neg, z_negl, z_add, z_sub, z_mul, z_addl, z_subl, z_mull, z_cc, z_cl, z_cr, z_cm, z_cml, z_cmr, z_lt, z_le, z_eq, z_ltl, z_lel, z_eql, z_nat, z_i2l, z_l2i, z_div, z_sh, Int.toNat_natCast, z_ts, z_tsl] at c2
      simp (disch := omega) only [z_lit, z_litl, z_neg, z_negl, z_add, z_sub, z_mul, z_addl, z_subl, z_mull, z_cc, z_cl, z_cr, z_cm, z_cml, z_cmr, z_lt, z_le, z_eq, z_ltl, z_lel, z_eql, z_nat, z_i2l, z_l2i, z_div, z_sh, Int.toNat_natCast, z_ts, z_tsl] at c3
      omega
    refine b_x_plan_0 (d := 1997) (t0 := 0) (h := ?_) ..
    rw [xH.1]
    refine ⟨fun c1 => ⟨fun c2 => ⟨fun c3 => ?_, fun _ => k_mid ref⟩, fun _ => k_mid ref⟩, fun _ => k_mid ref⟩
    simp (disch := omega) only [z_lit, z_litl, z_neg, z_negl, z_add, z_sub, z_mul, z_addl, z_subl, z_mull, z_cc, z_cl, z_cr, z_cm, z_cml, z_cmr, z_lt, z_le, z_eq, z_ltl, z_lel, z_eql, z_nat, z_i2l, z_l2i, z_div, z_sh, Int.toNat_natCast, z_ts, z_tsl] at c1
    simp (disch := omega) only [z_lit, z_litl, z_neg, z_negl, z_add, z_sub, z_mul, z_addl, z_subl, z_mull, z_cc, z_cl, z_cr, z_cm, z_cml, z_cmr, z_lt, z_le, z_eq, z_ltl, z_lel, z_eql, z_nat, z_i2l, z_l2i, z_div, z_sh, Int.toNat_natCast, z_ts, z_tsl] at c2
    simp (disch := omega) only [z_lit, z_litl, z_neg, z_negl, z_add, z_sub, z_mul, z_addl, z_subl, z_mull, z_cc, z_cl, z_cr, z_cm, z_cml, z_cmr, z_lt, z_le, z_eq, z_ltl, z_lel, z_eql, z_nat, z_i2l, z_l2i, z_div, z_sh, Int.toNat_natCast, z_ts, z_tsl] at c3
    omega
