/-! operation months -/
def nxt (s : Nat) : Nat := (1103 * s + 12345) % 1000003
theorem nxt_lt (s : Nat) : nxt s < 1000003 := Nat.mod_lt _ (by decide)
theorem nxt_x {s : Nat} (h : s < 1000003) : (((((((iI (s : Int) : Int32).toInt64) * (1103 : Int64)) + (12345 : Int64)) - (((((iI (s : Int) : Int32).toInt64) * (1103 : Int64)) + (12345 : Int64)) / (1000003 : Int64)) * (1000003 : Int64)) : Int64).toInt32) = iI (nxt s : Int) := by
  simp (disch := omega) only [z_lit, z_litl, z_neg, z_negl, z_add, z_sub, z_mul, z_addl, z_subl, z_mull, z_cc, z_cl, z_cr, z_cm, z_cml, z_cmr, z_lt, z_le, z_eq, z_ltl, z_lel, z_eql, z_nat, z_i2l, z_l2i, z_div, z_sh, Int.toNat_natCast, z_ts, z_tsl, z_divl]
  congr 1
  unfold nxt
  omega
theorem nxt_m {s : Nat} (h : s < 1000003) : ((((((1103 : Int64) * ((iI (s : Int) : Int32).toInt64)) + (12345 : Int64)) - ((((1103 : Int64) * ((iI (s : Int) : Int32).toInt64)) + (12345 : Int64)) / (1000003 : Int64)) * (1000003 : Int64)) : Int64).toInt32) = iI (nxt s : Int) := by
  simp (disch := omega) only [z_lit, z_litl, z_neg, z_negl, z_add, z_sub, z_mul, z_addl, z_subl, z_mull, z_cc, z_cl, z_cr, z_cm, z_cml, z_cmr, z_lt, z_le, z_eq, z_ltl, z_lel, z_eql, z_nat, z_i2l, z_l2i, z_div, z_sh, Int.toNat_natCast, z_ts, z_tsl, z_divl]
  congr 1
  unfold nxt
  omega
theorem nxt_d {a m : Nat} (ha : a < 1000003) (hm : 0 < m ∧ m < 1000003) : iI (a : Int) - (iI (a : Int) / iI (m : Int)) * iI (m : Int) = iI ((a % m : Nat) : Int) := by
  rw [z_div (by omega) (by omega), z_mul, z_sub, Int.natCast_emod, Int.emod_def, Int.mul_comm]
/-- a day: a cloth is hung, if there is room -/
def dyH (κ : Nat → Nat) (c : Nat) : Nat → Nat := if κ 12 < 12 then va_up (va_up κ (κ 12) c) 12 (κ 12 + 1) else κ
/-- the ship sails, or not; the cloths are off, or not; the day passes -/
def dyE (κ : Nat → Nat) (cs : List pC) (p : Nat) : Nat → Nat := va_up (if lyF κ false (wgt κ cs p) 0 < 1000000 then va_up (slK κ p (thn κ cs p)) 12 0 else if κ 12 < 12 then κ else va_up κ 12 0) 22 (κ 22 + 1)
def dyB (κ : Nat → Nat) (cs : List pC) (p : Nat) : Nat := if lyF κ false (wgt κ cs p) 0 < 1000000 then 1 else 0
def dyT (cs : List pC) : Nat → (Nat → Nat) → Nat → (Nat → Nat) × Nat
  | 0, κ, _ => (κ, 0)
  | n + 1, κ, s => if 999 ≤ κ 22 then (κ, 0) else ((dyT cs n (dyE (dyH κ (nxt s % 4)) cs (nxt (nxt s) % κ 56)) (nxt (nxt s))).1, dyB (dyH κ (nxt s % 4)) cs (nxt (nxt s) % κ 56) + (dyT cs n (dyE (dyH κ (nxt s % 4)) cs (nxt (nxt s) % κ 56)) (nxt (nxt s))).2)
theorem dyH_o {κ : Nat → Nat} {c i : Nat} (h1 : i ≠ 12) (h2 : i ≠ κ 12 ∨ 12 < i) : dyH κ c i = κ i := by
  unfold dyH
  split
  · rw [va_ne h1, va_ne (by omega)]
  · rfl
theorem dyH_c {κ : Nat → Nat} {c : Nat} (h : κ 12 < 12) : dyH κ c 12 = κ 12 + 1 ∧ dyH κ c (κ 12) = c := by
  unfold dyH
  rw [if_pos h]
  exact ⟨va_s, (va_ne (by omega)).trans va_s⟩
theorem dyH_wf {κ : Nat → Nat} {c : Nat} (h : wf κ) (hc : c ≤ 3) : wf (dyH κ c) := by
  by_cases c12 : κ 12 < 12
  · obtain ⟨wS, wH, wL, wD, wW, wT, wB⟩ := h
    have en : ∀ i, 12 < i → dyH κ c i = κ i := fun i hi => dyH_o (by omega) (Or.inr hi)
    refine ⟨wS.cg fun i hi => en i (by omega), wH.cg fun i hi => en i (by omega), ⟨?_, fun i hi => ?_⟩, wD.cg fun i hi => en i (by omega), wW.cg fun i hi => en i (by omega), wT.cg fun i hi => en i (by omega), ?_⟩
    · rw [(dyH_c c12).1]; omega
    · by_cases e : i = κ 12
      · rw [e, (dyH_c c12).2]; exact hc
      · rw [dyH_o (by omega) (Or.inl e)]; exact wL.2 i hi
    · unfold dyH
      rw [if_pos c12]
      exact (wB.up (by omega)).up (by omega)
  · unfold dyH
    rw [if_neg c12]
    exact h
theorem dyE_o {κ : Nat → Nat} {cs : List pC} {p i : Nat} (hp : p < 3) (hi : 23 ≤ i) : dyE κ cs p i = κ i := by
  unfold dyE
  rw [va_ne (by omega)]
  split
  · rw [va_ne (by omega), slK_o (by omega) (by omega) (by omega)]
  · split
    · rfl
    · rw [va_ne (by omega)]
theorem wf0 {κ : Nat → Nat} (h : wf κ) : wf (va_up κ 12 0) := by
  obtain ⟨wS, wH, wL, wD, wW, wT, wB⟩ := h
  have en : ∀ i, ¬ i = 12 → va_up κ 12 0 i = κ i := fun i hi => va_ne hi
  exact ⟨wS.cg fun i hi => en i (by omega), wH.cg fun i hi => en i (by omega), ⟨by rw [va_s]; omega, fun i hi => by rw [en i (by omega)]; exact wL.2 i hi⟩, wD.cg fun i hi => en i (by omega), wW.cg fun i hi => en i (by omega), wT.cg fun i hi => en i (by omega), wB.up (by omega)⟩
theorem wf22 {κ : Nat → Nat} {n : Nat} (h : wf κ) (hn : n ≤ 999) : wf (va_up κ 22 n) := by
  obtain ⟨wS, wH, wL, wD, wW, wT, wB⟩ := h
  have en : ∀ i, ¬ i = 22 → va_up κ 22 n i = κ i := fun i hi => va_ne hi
  exact ⟨wS.cg fun i hi => en i (by omega), wH.cg fun i hi => en i (by omega), wL.cg fun i hi => en i (by omega), wD.cg fun i hi => en i (by omega), wW.cg fun i hi => en i (by omega), ⟨by rw [va_s]; exact hn, by rw [en 53 (by omega)]; exact wT.2.1, by rw [en 54 (by omega)]; exact wT.2.2⟩, wB.up (by omega)⟩
theorem dyE_wf {κ : Nat → Nat} {cs : List pC} {p : Nat} (h : wf κ) (hp : p < 3) (h22 : κ 22 < 999) : wf (dyE κ cs p) := by
  unfold dyE
  refine wf22 ?_ (by omega)
  split
  · exact wf0 (slK_wf h hp (thn_lt h.2.1 hp))
  · split
    · exact h
    · exact wf0 h
theorem rfX.cg {κ κ' : Nat → Nat} {cs : List pC} (h : rfX κ (κ 59) cs) (e : ∀ i, 23 ≤ i → κ' i = κ i) : rfX κ' (κ' 59) cs := by
  rw [e 59 (by omega)]
  rcases h with h | ⟨t, n, h1, h2, h3, h4⟩
  · exact Or.inl h
  · have c1 : tkC κ' t = tkC κ t := by
      funext k
      unfold tkC
      rw [e _ (by omega), e _ (by omega)]
    have c2 : tkV κ' t = tkV κ t := by
      funext k
      unfold tkV
      rw [e _ (by omega), e _ (by omega)]
    exact Or.inr ⟨t, n, h1, h2, by rw [e _ (by omega)]; exact h3, by rw [c1, c2, e _ (by omega)]; exact h4⟩
theorem xs_day {n : Int32} {ro lo me : Nat → Int32} {m : Int32} {sp sp' : Nat → Int32} {hu cl hu' cl' dn : Int32} {dd : Nat → Int32} {la : Int32} {lw : Nat → Option Nat} {fo : Int32} {te te' : Nat → Int32} {tx : mm_W} {κ κ' : Nat → Nat} (h : xs n ro lo me m sp hu cl dn dd la lw fo te tx κ) (hw : wf κ) (e : ∀ i, 23 ≤ i → κ' i = κ i) (hH : xH m sp' κ') (hL : xL hu' cl' κ') (hT : xT te' κ') : xs n ro lo me m sp' hu' cl' dn dd la lw fo te' tx κ' := by
  obtain ⟨hS, -, -, hD, hW, -, -⟩ := hw
  obtain ⟨qS, -, -, qD, qW, -⟩ := h
  exact ⟨qS.cg hS.1 fun i hi => e i (by omega), hH, hL, qD.cg hD.1 fun i hi => e i (by omega), qW.cg fun i hi => e i (by omega), hT⟩
theorem xT_day {te : Nat → Int32} {κ κ' : Nat → Nat} (h : xT te κ) (e22 : κ' 22 = κ 22 + 1) (e : ∀ i, 23 ≤ i → κ' i = κ i) : xT (upd te 0 (te 0 + (1 : Int32))) κ' := by
  refine ⟨?_, ?_, ?_⟩
  · rw [upd_s, e22, h.1, show (1 : Int32) = iI 1 from rfl, z_add]; rfl
  · rw [upd_ne (by decide), e 53 (by omega)]; exact h.2.1
  · rw [upd_ne (by decide), e 54 (by omega)]; exact h.2.2
theorem dyE_22 {κ : Nat → Nat} {cs : List pC} {p : Nat} : dyE κ cs p 22 = κ 22 + 1 := va_s
abbrev X19 (f : Nat → Int32) (g : Nat → Nat → Int32) (hh : Nat → Nat → Option Nat) (tx : mm_W) (sp : Nat → Int32) (hu cl : Int32) (te : Nat → Int32) (κ : Nat → Nat) : Prop := xs (f 1216) (g 20) (g 21) (g 22) (f 1220) sp hu cl (f 1224) (g 24) (f 1226) (hh 25) (f 1228) te tx κ
theorem c_x_day2 {X : mm_X} {d : Nat} {f : Nat → Int32} {fl : Nat → Int64} {g : Nat → Nat → Int32} {gl : Nat → Nat → Int64} {hh : Nat → Nat → Option Nat} {v : Nat → Value} {tx : mm_W} {P : Option Value → mm_W → Prop} {κ : Nat → Nat} {cs : List pC} {s i n acc : Nat} (hw : wf κ) (hx : X19 f g hh tx (g 23) (f 1222) (f 1223) (g 26) κ) (hok : csOK cs) (hF : (κ 59 = 0 ∧ cs = []) ∨ ∃ t o, κ 59 = t + 1 ∧ t < κ 58 ∧ hh 25 t = some o ∧ lwX tx o cs) (hs : s < 1000003) (h68 : f 68 = iI (κ 56 : Int)) (h56 : 0 < κ 56) (h22 : κ 22 < 999)
    (h : ∀ (hu cl s1 s2 s3 : Int32) (sp te A B C D : Nat → Int32) (st : Nat → Int64) (L : Value), X19 f g hh tx sp hu cl te (dyE κ cs (nxt s % κ 56)) → WP X (d + 6) 93 (64, [some (.ref 0), none, some (.int (iI (n : Int))), some (.int (iI (nxt s : Int))), some (.int (iI ((acc + dyB κ cs (nxt s % κ 56) : Nat) : Int))), some (.int (iI ((i + 1 : Nat) : Int))), none, none], [], Wd (va_up (va_up (va_up (va_up (va_up f 1222 hu) 1223 cl) 2437 s1) 2438 s2) 2440 s3) fl (va_up (va_up (va_up (va_up (va_up (va_up g 23 sp) 26 te) 41 A) 42 B) 43 C) 44 D) (va_up gl 40 st) hh (va_up v 2439 L) tx) P) :
    WP X (d + 6) 93 (112, [some (.ref 0), none, some (.int (iI (n : Int))), some (.int (iI (s : Int))), some (.int (iI (acc : Int))), some (.int (iI (i : Int))), none, none], [], Wd f fl g gl hh v tx) P := by
  have hw' := hw
  obtain ⟨hwS, hwH, hwL, hwD, hwW, hwT, hwB⟩ := hw
  have hx' := hx
  obtain ⟨hxS, hxH, hxL, hxD, hxW, hxT⟩ := hx
  have b56 := hwH.1
  have b12 := hwL.1
  have hp : nxt s % κ 56 < κ 56 := Nat.mod_lt _ h56
  have en : ∀ i, 23 ≤ i → dyE κ cs (nxt s % κ 56) i = κ i := fun i hi => dyE_o (by omega) hi
  generalize hpd : nxt s % κ 56 = p at hp h en
  have i1 : iI (i : Int) + (1 : Int32) = iI ((i + 1 : Nat) : Int) := by rw [show (1 : Int32) = iI 1 from rfl, z_add]; rfl
  have a1 : iI (acc : Int) + (1 : Int32) = iI ((acc + 1 : Nat) : Int) := by rw [show (1 : Int32) = iI 1 from rfl, z_add]; rfl
  have hple := pln_le (κ := κ) (md := false) (wt := wgt κ cs p)
  have hsl := (spot_lt hwH (p := p) (by omega)).1
  have htl := thn_lt (cs := cs) hwH (p := p) (by omega)
  have hcall : ∀ L, lwV tx L cs → WP X (d + 5) 7 (0, [some (.ref 38), some (.ref 19), some (.int (iI (p : Int))), some L, none], [], Wd f fl g gl hh v tx) (fun rv w2 => WP X (d + 6) 93 (148, [some (.ref 0), none, some (.int (iI (n : Int))), some (.int (iI (nxt s : Int))), some (.int (iI (acc : Int))), some (.int (iI (i : Int))), some (.int (iI (p : Int))), none], rv.toList ++ [], w2) P) := by
    intro L hL
    refine c_choose19 (κ := κ) (cs := cs) hL hwS hwH hwL hwT hxS hxH hxL hxT hp (fun hz n A B C st => ?_) fun hlt A B C D st A0 A6 A7 hD => ?_
    · have hnl : ¬ lyF κ false (wgt κ cs p) 0 < 1000000 := by omega
      refine b_x_months_148 (h := ?_) ..
      refine ⟨fun _ => ?_, fun c => absurd rfl c⟩
      refine b_x_months_186 (h := ?_) ..
      refine ⟨fun c => absurd rfl c, fun _ => ?_⟩
      rw [show va_up (va_up (va_up f 2437 n) 2438 (iI 1000000)) 2440 (iI (spot κ p)) 1222 = f 1222 by rw [va_ne (by decide), va_ne (by decide), va_ne (by decide)], hxL.1]
      refine ⟨fun c => ?_, fun c => ?_⟩
      · have c12 : κ 12 < 12 := by simp (disch := omega) only [z_lit, z_litl, z_neg, z_negl, z_add, z_sub, z_mul, z_addl, z_subl, z_mull, z_cc, z_cl, z_cr, z_cm, z_cml, z_cmr, z_lt, z_le, z_eq, z_ltl, z_lel, z_eql, z_nat, z_i2l, z_l2i, z_div, z_sh, Int.toNat_natCast, z_ts, z_tsl] at c; omega
        have eE : dyE κ cs p = va_up κ 22 (κ 22 + 1) := by unfold dyE; rw [if_neg hnl, if_pos c12]
        have hP := h (f 1222) (f 1223) n (iI 1000000) (iI (spot κ p)) (g 23) (upd (g 26) 0 ((g 26) 0 + (1 : Int32))) A B C (g 44) st L (xs_day hx' hw' en (by rw [eE]; exact hxH.cg hwH.1 fun i hi => va_ne (by omega)) (by rw [eE]; exact hxL.cg hwL.1 fun i hi => va_ne (by omega)) (xT_day hxT dyE_22 en))
        rw [show acc + dyB κ cs p = acc by unfold dyB; rw [if_neg hnl]; rfl, va_id (f := f) rfl, va_id (f := f) rfl, va_id (f := g) rfl, va_id (f := va_up (va_up (va_up (va_up g 26 _) 41 A) 42 B) 43 C) (k := 44) (by rw [va_ne (by decide), va_ne (by decide), va_ne (by decide), va_ne (by decide)])] at hP
        rw [i1]
        simp (disch := decide) only [va_ne, va_s, va_cm, va_tw]
        exact hP
      · have c12 : ¬ κ 12 < 12 := by simp (disch := omega) only [z_lit, z_litl, z_neg, z_negl, z_add, z_sub, z_mul, z_addl, z_subl, z_mull, z_cc, z_cl, z_cr, z_cm, z_cml, z_cmr, z_lt, z_le, z_eq, z_ltl, z_lel, z_eql, z_nat, z_i2l, z_l2i, z_div, z_sh, Int.toNat_natCast, z_ts, z_tsl] at c; omega
        have eE : dyE κ cs p = va_up (va_up κ 12 0) 22 (κ 22 + 1) := by unfold dyE; rw [if_neg hnl, if_neg c12]
        have hP := h 0 0 n (iI 1000000) (iI (spot κ p)) (g 23) (upd (g 26) 0 ((g 26) 0 + (1 : Int32))) A B C (g 44) st L (xs_day hx' hw' en (by rw [eE]; exact hxH.cg hwH.1 fun i hi => by rw [va_ne (by omega), va_ne (by omega)]) (by rw [eE]; exact ⟨rfl, rfl⟩) (xT_day hxT dyE_22 en))
        rw [show acc + dyB κ cs p = acc by unfold dyB; rw [if_neg hnl]; rfl, va_id (f := g) rfl, va_id (f := va_up (va_up (va_up (va_up g 26 _) 41 A) 42 B) 43 C) (k := 44) (by rw [va_ne (by decide), va_ne (by decide), va_ne (by decide), va_ne (by decide)])] at hP
        refine b_x_months_203 (h := ?_) ..
        rw [i1]
        simp (disch := decide) only [va_ne, va_s, va_cm, va_tw]
        exact hP
    · refine b_x_months_148 (h := ?_) ..
      refine ⟨fun c => absurd c (by decide), fun _ => ?_⟩
      refine c_follow19 (κ := κ) (cs := cs) (p := p) (s0 := spot κ p) (n := pln κ false (wgt κ cs p)) (pk := fun i => sgn κ false (wgt κ cs p) (psn κ false (wgt κ cs p) i)) (f := va_up (va_up (va_up f 2437 (iI (pln κ false (wgt κ cs p)))) 2438 (iI (lyF κ false (wgt κ cs p) 0))) 2440 (iI (spot κ p))) (g := va_up (va_up (va_up (va_up g 41 A) 42 B) 43 C) 44 D) hL.cp hwS hwT (by exact hxS) (by omega) hsl hple (by rw [va_ne (by decide), va_ne (by decide), va_s]) va_s (by exact A0) (by exact A6) (by exact A7) (fun i hi => ?_) fun a st' => ?_
      · obtain ⟨q1, q2, q3⟩ := psn_ok (md := false) (wt := wgt κ cs p) hwS hlt i
        obtain ⟨s1, -⟩ := sgn_spec (md := false) (wt := wgt κ cs p) hwS (pln_lt hi) q2
        exact ⟨s1, by rw [va_s]; exact hD i hi⟩
      · have eE : dyE κ cs p = va_up (va_up (slK κ p (thn κ cs p)) 12 0) 22 (κ 22 + 1) := by unfold dyE; rw [if_pos hlt]
        have hP := h 0 0 (iI (pln κ false (wgt κ cs p))) (iI (lyF κ false (wgt κ cs p) 0)) (iI (thn κ cs p : Nat)) (upd (g 23) p (iI (thn κ cs p : Nat))) (upd (g 26) 0 ((g 26) 0 + (1 : Int32))) a B C D st' L (xs_day hx' hw' en (by rw [eE]; exact (slK_x hxH hwH hp htl).cg (by rw [slK_o (by omega) (by omega) (by omega)]; exact hwH.1) fun i hi => by rw [va_ne (by omega), va_ne (by omega)]) (by rw [eE]; exact ⟨rfl, rfl⟩) (xT_day hxT dyE_22 en))
        rw [show acc + dyB κ cs p = acc + 1 by unfold dyB; rw [if_pos hlt]] at hP
        refine b_x_months_166 (h := ?_) ..
        rw [show (iI (p : Int)).toNatClampNeg = p by rw [z_nat (by omega)]; omega]
        refine ⟨by simp (disch := omega) only [z_lit, z_litl, z_neg, z_negl, z_add, z_sub, z_mul, z_addl, z_subl, z_mull, z_cc, z_cl, z_cr, z_cm, z_cml, z_cmr, z_lt, z_le, z_eq, z_ltl, z_lel, z_eql, z_nat, z_i2l, z_l2i, z_div, z_sh, Int.toNat_natCast, z_ts, z_tsl]; omega, ?_⟩
        refine b_x_months_186 (h := ?_) ..
        refine ⟨fun _ => ?_, fun c => absurd c (by decide)⟩
        refine b_x_months_203 (h := ?_) ..
        rw [i1, a1]
        simp (disch := decide) only [va_ne, va_s, va_cm, va_tw]
        exact hP
  have e56 : iI (κ 56 : Int) ≠ 0 := by
    intro c
    have c : iI (κ 56 : Int) = iI 0 := c
    rw [z_eq (by omega) (by omega)] at c
    omega
  rcases hF with ⟨h0, hcs⟩ | ⟨t, o, hF1, hF2, hF3, hF4⟩
  · refine b_x_months_112 (d := d + 4) (t0 := 0) (h := ?_) ..
    simp only [nxt_x hs, h68]
    rw [nxt_d (nxt_lt s) (by omega), hpd]
    exact ⟨e56, fun c => absurd c (force_N hxW h0), fun _ => hcall _ (Or.inl ⟨hcs, rfl⟩)⟩
  · obtain ⟨q1, q2, q3⟩ := force_T hxW hwW hF1 hF2 hF3
    refine b_x_months_112 (d := d + 4) (t0 := o) (h := ?_) ..
    simp only [nxt_x hs, h68]
    rw [nxt_d (nxt_lt s) (by omega), hpd]
    exact ⟨e56, fun _ => ⟨q2, q3, hcall _ (Or.inr ⟨o, rfl, hF4, hok⟩)⟩, fun c => absurd q1 c⟩
theorem dyH_x {f : Nat → Int32} {g : Nat → Nat → Int32} {hh : Nat → Nat → Option Nat} {tx : mm_W} {sp te : Nat → Int32} {hu cl : Int32} {κ : Nat → Nat} {c : Nat} (hw : wf κ) (hx : X19 f g hh tx sp hu cl te κ) (h12 : κ 12 < 12) : X19 f g hh tx sp (iI ((κ 12 + 1 : Nat) : Int)) (iI ((4 * codF κ (κ 12) + c : Nat) : Int)) te (dyH κ c) := by
  have en : ∀ i, 12 < i → dyH κ c i = κ i := fun i hi => dyH_o (by omega) (Or.inr hi)
  refine xs_day hx hw (fun i hi => en i (by omega)) (hx.2.1.cg hw.2.1.1 fun i hi => en i (by omega)) ⟨?_, ?_⟩ (hx.2.2.2.2.2.cg fun i hi => en i (by omega))
  · rw [(dyH_c h12).1]
  · rw [(dyH_c h12).1, codF, (dyH_c h12).2, codF_cg (c := κ) fun i hi => dyH_o (by omega) (Or.inl (by omega))]
theorem c_x_day {X : mm_X} {d : Nat} {f : Nat → Int32} {fl : Nat → Int64} {g : Nat → Nat → Int32} {gl : Nat → Nat → Int64} {hh : Nat → Nat → Option Nat} {v : Nat → Value} {tx : mm_W} {P : Option Value → mm_W → Prop} {κ : Nat → Nat} {cs : List pC} {s i n acc : Nat} (hw : wf κ) (hx : X19 f g hh tx (g 23) (f 1222) (f 1223) (g 26) κ) (hok : csOK cs) (hF : (κ 59 = 0 ∧ cs = []) ∨ ∃ t o, κ 59 = t + 1 ∧ t < κ 58 ∧ hh 25 t = some o ∧ lwX tx o cs) (hs : s < 1000003) (h68 : f 68 = iI (κ 56 : Int)) (h56 : 0 < κ 56) (h22 : κ 22 < 999) (hi : i < n) (hn : n ≤ 60)
    (h : ∀ (hu cl s1 s2 s3 : Int32) (sp te A B C D : Nat → Int32) (st : Nat → Int64) (L : Value), X19 f g hh tx sp hu cl te (dyE (dyH κ (nxt s % 4)) cs (nxt (nxt s) % κ 56)) → WP X (d + 6) 93 (64, [some (.ref 0), none, some (.int (iI (n : Int))), some (.int (iI (nxt (nxt s) : Int))), some (.int (iI ((acc + dyB (dyH κ (nxt s % 4)) cs (nxt (nxt s) % κ 56) : Nat) : Int))), some (.int (iI ((i + 1 : Nat) : Int))), none, none], [], Wd (va_up (va_up (va_up (va_up (va_up f 1222 hu) 1223 cl) 2437 s1) 2438 s2) 2440 s3) fl (va_up (va_up (va_up (va_up (va_up (va_up g 23 sp) 26 te) 41 A) 42 B) 43 C) 44 D) (va_up gl 40 st) hh (va_up v 2439 L) tx) P) :
    WP X (d + 6) 93 (64, [some (.ref 0), none, some (.int (iI (n : Int))), some (.int (iI (s : Int))), some (.int (iI (acc : Int))), some (.int (iI (i : Int))), none, none], [], Wd f fl g gl hh v tx) P := by
  have b56 := hw.2.1.1
  have b12 := hw.2.2.1.1
  have hc : nxt s % 4 ≤ 3 := by omega
  have hwd : wf (dyH κ (nxt s % 4)) := dyH_wf hw hc
  have en : ∀ i, 12 < i → dyH κ (nxt s % 4) i = κ i := fun i hi => dyH_o (by omega) (Or.inr hi)
  have hFd : (dyH κ (nxt s % 4) 59 = 0 ∧ cs = []) ∨ ∃ t o, dyH κ (nxt s % 4) 59 = t + 1 ∧ t < dyH κ (nxt s % 4) 58 ∧ hh 25 t = some o ∧ lwX tx o cs := by
    rw [en 59 (by omega), en 58 (by omega)]; exact hF
  have e56 := en 56 (by omega)
  have e22 := en 22 (by omega)
  refine b_x_months_64 (d := d + 5) (h := ?_) ..
  simp only [nxt_x hs]
  rw [show (4 : Int32) = iI ((4 : Nat) : Int) from rfl, nxt_d (nxt_lt s) (by omega)]
  refine ⟨fun c => by simp (disch := omega) only [z_lit, z_litl, z_neg, z_negl, z_add, z_sub, z_mul, z_addl, z_subl, z_mull, z_cc, z_cl, z_cr, z_cm, z_cml, z_cmr, z_lt, z_le, z_eq, z_ltl, z_lel, z_eql, z_nat, z_i2l, z_l2i, z_div, z_sh, Int.toNat_natCast, z_ts, z_tsl] at c; omega, fun _ => ⟨fun c => ?_, fun _ => ⟨fun c => ?_, fun c => ?_⟩⟩⟩
  · rw [hx.2.2.2.2.2.1] at c
    simp (disch := omega) only [z_lit, z_litl, z_neg, z_negl, z_add, z_sub, z_mul, z_addl, z_subl, z_mull, z_cc, z_cl, z_cr, z_cm, z_cml, z_cmr, z_lt, z_le, z_eq, z_ltl, z_lel, z_eql, z_nat, z_i2l, z_l2i, z_div, z_sh, Int.toNat_natCast, z_ts, z_tsl] at c
    omega
  · rw [hx.2.2.1.1] at c
    have c12 : ¬ κ 12 < 12 := by simp (disch := omega) only [z_lit, z_litl, z_neg, z_negl, z_add, z_sub, z_mul, z_addl, z_subl, z_mull, z_cc, z_cl, z_cr, z_cm, z_cml, z_cmr, z_lt, z_le, z_eq, z_ltl, z_lel, z_eql, z_nat, z_i2l, z_l2i, z_div, z_sh, Int.toNat_natCast, z_ts, z_tsl] at c; omega
    have eH : dyH κ (nxt s % 4) = κ := by unfold dyH; rw [if_neg c12]
    rw [eH] at h
    exact c_x_day2 hw hx hok hF (nxt_lt s) h68 h56 h22 h
  · rw [hx.2.2.1.1] at c
    have c12 : κ 12 < 12 := by simp (disch := omega) only [z_lit, z_litl, z_neg, z_negl, z_add, z_sub, z_mul, z_addl, z_subl, z_mull, z_cc, z_cl, z_cr, z_cm, z_cml, z_cmr, z_lt, z_le, z_eq, z_ltl, z_lel, z_eql, z_nat, z_i2l, z_l2i, z_div, z_sh, Int.toNat_natCast, z_ts, z_tsl] at c; omega
    rw [hx.2.2.1.1, hx.2.2.1.2, cod_shl (codF_11 hw.2.2.1 c12) hc, show iI (κ 12 : Int) + (1 : Int32) = iI ((κ 12 + 1 : Nat) : Int) by rw [show (1 : Int32) = iI 1 from rfl, z_add]; rfl]
    refine c_x_day2 (κ := dyH κ (nxt s % 4)) (f := va_up (va_up f 1223 _) 1222 _) hwd (by exact dyH_x hw hx c12) hok hFd (nxt_lt s) (by rw [e56]; exact h68) (by omega) (by omega) fun hu cl s1 s2 s3 sp te A B C D st L hxx => ?_
    rw [e56] at hxx ⊢
    have hP := h hu cl s1 s2 s3 sp te A B C D st L hxx
    simp (disch := decide) only [va_ne, va_s, va_cm, va_tw]
    exact hP
theorem dyT_s {cs : List pC} {n s : Nat} {κ : Nat → Nat} (h : ¬ 999 ≤ κ 22) : dyT cs (n + 1) κ s = ((dyT cs n (dyE (dyH κ (nxt s % 4)) cs (nxt (nxt s) % κ 56)) (nxt (nxt s))).1, dyB (dyH κ (nxt s % 4)) cs (nxt (nxt s) % κ 56) + (dyT cs n (dyE (dyH κ (nxt s % 4)) cs (nxt (nxt s) % κ 56)) (nxt (nxt s))).2) := by
  rw [dyT, if_neg h]
theorem c_x_days {X : mm_X} {d : Nat} {tx : mm_W} {P : Option Value → mm_W → Prop} {fl : Nat → Int64} {hh : Nat → Nat → Option Nat} {cs : List pC} {n : Nat} (hok : csOK cs) (hn : n ≤ 60) : ∀ (m i acc s : Nat) (κ : Nat → Nat) (f : Nat → Int32) (g : Nat → Nat → Int32) (gl : Nat → Nat → Int64) (v : Nat → Value), m + i = n → wf κ → X19 f g hh tx (g 23) (f 1222) (f 1223) (g 26) κ → ((κ 59 = 0 ∧ cs = []) ∨ ∃ t o, κ 59 = t + 1 ∧ t < κ 58 ∧ hh 25 t = some o ∧ lwX tx o cs) → s < 1000003 → f 68 = iI (κ 56 : Int) → 0 < κ 56 →
    (∀ (hu cl s1 s2 s3 : Int32) (sp te A B C D : Nat → Int32) (st : Nat → Int64) (L : Value), (∀ p, p < κ 56 → sp p = iI (spot (dyT cs m κ s).1 p)) → P (some (.int (iI ((acc + (dyT cs m κ s).2 : Nat) : Int)))) (Wd (va_up (va_up (va_up (va_up (va_up (va_up f 18 0) 1222 hu) 1223 cl) 2437 s1) 2438 s2) 2440 s3) fl (va_up (va_up (va_up (va_up (va_up (va_up g 23 sp) 26 te) 41 A) 42 B) 43 C) 44 D) (va_up gl 40 st) hh (va_up v 2439 L) tx)) →
    WP X (d + 6) 93 (64, [some (.ref 0), none, some (.int (iI (n : Int))), some (.int (iI (s : Int))), some (.int (iI (acc : Int))), some (.int (iI (i : Int))), none, none], [], Wd f fl g gl hh v tx) P := by
  intro m
  induction m with
  | zero =>
    intro i acc s κ f g gl v hmi hw hx hF hs h68 h56 h
    have hP := h (f 1222) (f 1223) (f 2437) (f 2438) (f 2440) (g 23) (g 26) (g 41) (g 42) (g 43) (g 44) (gl 40) (v 2439) (fun p hp => hx.2.1.2 p hp)
    rw [va_id (show va_up f 18 0 1222 = f 1222 from rfl), va_id (show va_up f 18 0 1223 = f 1223 from rfl), va_id (show va_up f 18 0 2437 = f 2437 from rfl), va_id (show va_up f 18 0 2438 = f 2438 from rfl), va_id (show va_up f 18 0 2440 = f 2440 from rfl), va_id (f := g) rfl, va_id (f := g) rfl, va_id (f := g) rfl, va_id (f := g) rfl, va_id (f := g) rfl, va_id (f := g) rfl, va_id (f := gl) rfl, va_id (f := v) rfl] at hP
    refine b_x_months_64 (d := d + 5) (h := ?_) ..
    refine ⟨fun _ => hP, fun c => ?_⟩
    exact absurd (by rw [show i = n by omega]; exact Int32.le_refl _) c
  | succ m ih =>
    intro i acc s κ f g gl v hmi hw hx hF hs h68 h56 h
    have b56 := hw.2.1.1
    by_cases c22 : 999 ≤ κ 22
    · have e : dyT cs (m + 1) κ s = (κ, 0) := by rw [dyT, if_pos c22]
      rw [e] at h
      have hP := h (f 1222) (f 1223) (f 2437) (f 2438) (f 2440) (g 23) (g 26) (g 41) (g 42) (g 43) (g 44) (gl 40) (v 2439) (fun p hp => hx.2.1.2 p hp)
      rw [va_id (show va_up f 18 0 1222 = f 1222 from rfl), va_id (show va_up f 18 0 1223 = f 1223 from rfl), va_id (show va_up f 18 0 2437 = f 2437 from rfl), va_id (show va_up f 18 0 2438 = f 2438 from rfl), va_id (show va_up f 18 0 2440 = f 2440 from rfl), va_id (f := g) rfl, va_id (f := g) rfl, va_id (f := g) rfl, va_id (f := g) rfl, va_id (f := g) rfl, va_id (f := g) rfl, va_id (f := gl) rfl, va_id (f := v) rfl] at hP
      have b22 := hw.2.2.2.2.2.1.1
      refine b_x_months_64 (d := d + 5) (h := ?_) ..
      refine ⟨fun _ => hP, fun _ => ⟨fun _ => hP, fun c => ?_⟩⟩
      rw [hx.2.2.2.2.2.1] at c
      simp (disch := omega) only [z_lit, z_litl, z_neg, z_negl, z_add, z_sub, z_mul, z_addl, z_subl, z_mull, z_cc, z_cl, z_cr, z_cm, z_cml, z_cmr, z_lt, z_le, z_eq, z_ltl, z_lel, z_eql, z_nat, z_i2l, z_l2i, z_div, z_sh, Int.toNat_natCast, z_ts, z_tsl] at c
      omega
    · have en : ∀ i, 23 ≤ i → dyE (dyH κ (nxt s % 4)) cs (nxt (nxt s) % κ 56) i = κ i := fun i hi => (dyE_o (by have := Nat.mod_lt (nxt (nxt s)) h56; omega) hi).trans (dyH_o (by omega) (Or.inr (by omega)))
      have hwd : wf (dyE (dyH κ (nxt s % 4)) cs (nxt (nxt s) % κ 56)) := dyE_wf (dyH_wf hw (by omega)) (by have := Nat.mod_lt (nxt (nxt s)) h56; omega) (by rw [dyH_o (by omega) (Or.inr (by omega))]; omega)
      rw [dyT_s c22] at h
      refine c_x_day (d := d) hw hx hok hF hs h68 h56 (by omega) (by omega) hn fun hu cl s1 s2 s3 sp te A B C D st L hxx => ?_
      refine ih (i + 1) _ (nxt (nxt s)) (dyE (dyH κ (nxt s % 4)) cs (nxt (nxt s) % κ 56)) _ _ _ _ (by omega) hwd (by exact hxx) (by rw [en 59 (by omega), en 58 (by omega)]; exact hF) (nxt_lt _) (by rw [en 56 (by omega)]; exact h68) (by rw [en 56 (by omega)]; exact h56) ?_
      rw [en 56 (by omega)]
      intro hu cl s1 s2 s3 sp te A B C D st L hsp
      have hP := h hu cl s1 s2 s3 sp te A B C D st L hsp
      simp (disch := decide) only [va_ne, va_s, va_cm, va_tw]
      rw [Nat.add_assoc]
      exact hP
/-- the reference's day -/
theorem c_m_day2 {X : mm_X} {f : Nat → Int32} {fl : Nat → Int64} {g : Nat → Nat → Int32} {gl : Nat → Nat → Int64} {hh : Nat → Nat → Option Nat} {v : Nat → Value} {tx : mm_W} {P : Option Value → mm_W → Prop} {κ : Nat → Nat} {cs : List pC} {p K : Nat} (hK : 64 ≤ K) (hm : ms (g 76) κ) (hw : wf κ) (hR : rfX κ (κ 59) cs) (hok : csOK cs) (hp : p < κ 56) (h22 : κ 22 < 999)
    (h : ∀ (x y z u : Int32) (K' A a l w r : Nat → Int32), ms K' (dyE κ cs p) → P (some (.int (iI (dyB κ cs p : Nat)))) (Wd (va_up (va_up (va_up (va_up f 4758 x) 4759 y) 4760 z) 4761 u) fl (va_up (va_up (va_up (va_up (va_up (va_up g 76 K') 86 A) 87 a) 88 l) 89 w) 90 r) gl hh v tx)) :
    WP X (K + 15) 251 (32, [some (.ref 74), none, some (.int (iI (p : Int))), none], [], Wd f fl g gl hh v tx) P := by
  obtain ⟨hwS, hwH, hwL, hwD, hwW, hwT, hwB⟩ := hw
  have b56 := hwH.1
  have b12 := hwL.1
  have e12 := hm.1 12 (by decide)
  have e22 := hm.1 22 (by decide)
  have htl := thn_lt (cs := cs) hwH (p := p) (by omega)
  have i1 : iI (κ 22 : Int) + (1 : Int32) = iI ((κ 22 + 1 : Nat) : Int) := by rw [show (1 : Int32) = iI 1 from rfl, z_add]; rfl
  refine b_m_dayIsDrawn_32 (h := ?_) ..
  refine c_m_stateThen (κ := κ) (cs := cs) (K := K) (p := p) hK (by exact hm) hwS hwL hwH hwT hwB hR hok (by omega) fun x y z u A a l w r => ?_
  by_cases hL : lyF κ false (wgt κ cs p) 0 < 1000000
  · rw [if_pos hL]
    have eE : dyE κ cs p = va_up (va_up (slK κ p (thn κ cs p)) 12 0) 22 (κ 22 + 1) := by unfold dyE; rw [if_pos hL]
    have eB : dyB κ cs p = 1 := by unfold dyB; rw [if_pos hL]
    obtain ⟨-, e40, e10, em⟩ := st_40 htl
    have n13 : ((13 : Int32) + iI (p : Int)).toNatClampNeg = 13 + p := by simp (disch := omega) only [z_lit, z_litl, z_neg, z_negl, z_add, z_sub, z_mul, z_addl, z_subl, z_mull, z_cc, z_cl, z_cr, z_cm, z_cml, z_cmr, z_lt, z_le, z_eq, z_ltl, z_lel, z_eql, z_nat, z_i2l, z_l2i, z_div, z_sh, Int.toNat_natCast, z_ts, z_tsl]
    have n16 : ((16 : Int32) + iI (p : Int)).toNatClampNeg = 16 + p := by simp (disch := omega) only [z_lit, z_litl, z_neg, z_negl, z_add, z_sub, z_mul, z_addl, z_subl, z_mull, z_cc, z_cl, z_cr, z_cm, z_cml, z_cmr, z_lt, z_le, z_eq, z_ltl, z_lel, z_eql, z_nat, z_i2l, z_l2i, z_div, z_sh, Int.toNat_natCast, z_ts, z_tsl]
    have n19 : ((19 : Int32) + iI (p : Int)).toNatClampNeg = 19 + p := by simp (disch := omega) only [z_lit, z_litl, z_neg, z_negl, z_add, z_sub, z_mul, z_addl, z_subl, z_mull, z_cc, z_cl, z_cr, z_cm, z_cml, z_cmr, z_lt, z_le, z_eq, z_ltl, z_lel, z_eql, z_nat, z_i2l, z_l2i, z_div, z_sh, Int.toNat_natCast, z_ts, z_tsl]
    have hne : ¬ iI (thn κ cs p : Int) = (-1 : Int32) := by
      intro c
      have c : iI (thn κ cs p : Int) = iI (-1) := c
      rw [z_eq (by omega) (by omega)] at c
      omega
    have hms := ((slK_ms hm p (thn κ cs p) (by omega)).up 0 (i := 12) (by decide)).up (κ 22 + 1) (i := 22) (by decide)
    rw [← eE] at hms
    have hP := h x y z u _ A a l w r hms
    rw [eB] at hP
    refine b_m_dayIsDrawn_37 (h := ?_) ..
    rw [e10, e40, em, n13, n16, n19]
    refine ⟨fun c => absurd c hne, fun _ => ⟨by simp (disch := omega) only [z_lit, z_litl, z_neg, z_negl, z_add, z_sub, z_mul, z_addl, z_subl, z_mull, z_cc, z_cl, z_cr, z_cm, z_cml, z_cmr, z_lt, z_le, z_eq, z_ltl, z_lel, z_eql, z_nat, z_i2l, z_l2i, z_div, z_sh, Int.toNat_natCast, z_ts, z_tsl]; omega, by simp (disch := omega) only [z_lit, z_litl, z_neg, z_negl, z_add, z_sub, z_mul, z_addl, z_subl, z_mull, z_cc, z_cl, z_cr, z_cm, z_cml, z_cmr, z_lt, z_le, z_eq, z_ltl, z_lel, z_eql, z_nat, z_i2l, z_l2i, z_div, z_sh, Int.toNat_natCast, z_ts, z_tsl]; omega, by simp (disch := omega) only [z_lit, z_litl, z_neg, z_negl, z_add, z_sub, z_mul, z_addl, z_subl, z_mull, z_cc, z_cl, z_cr, z_cm, z_cml, z_cmr, z_lt, z_le, z_eq, z_ltl, z_lel, z_eql, z_nat, z_i2l, z_l2i, z_div, z_sh, Int.toNat_natCast, z_ts, z_tsl]; omega, ?_⟩⟩
    refine b_m_dayIsDrawn_49 (h := ?_) ..
    refine ⟨fun _ => ?_, fun c => absurd c hne⟩
    refine b_m_dayIsDrawn_63 (h := ?_) ..
    refine b_m_dayIsDrawn_71 (h := ?_) ..
    refine ⟨fun c => absurd c hne, fun _ => ?_⟩
    simp (disch := decide) only [va_ne, va_s, va_cm, va_tw]
    rw [show (upd (upd (upd (upd (g 76) (13 + p) (iI ((thn κ cs p / 40 : Nat) : Int))) (16 + p) (iI ((thn κ cs p / 10 % 4 : Nat) : Int))) (19 + p) (iI ((thn κ cs p % 10 : Nat) : Int))) 12 0) 22 = iI (κ 22 : Int) by rw [upd_ne (by decide), upd_ne (by omega), upd_ne (by omega), upd_ne (by omega)]; exact e22, i1]
    exact hP
  · rw [if_neg hL]
    have eB : dyB κ cs p = 0 := by unfold dyB; rw [if_neg hL]
    refine b_m_dayIsDrawn_37 (h := ?_) ..
    refine ⟨fun _ => ?_, fun c => absurd rfl c⟩
    refine b_m_dayIsDrawn_49 (h := ?_) ..
    rw [show va_up (va_up (va_up (va_up (va_up g 86 A) 87 a) 88 l) 89 w) 90 r 76 = g 76 by rw [va_ne (by decide), va_ne (by decide), va_ne (by decide), va_ne (by decide), va_ne (by decide)], e12]
    refine ⟨fun c => absurd rfl c, fun _ => ⟨fun c => ?_, fun c => ?_⟩⟩
    · have c12 : κ 12 < 12 := by simp (disch := omega) only [z_lit, z_litl, z_neg, z_negl, z_add, z_sub, z_mul, z_addl, z_subl, z_mull, z_cc, z_cl, z_cr, z_cm, z_cml, z_cmr, z_lt, z_le, z_eq, z_ltl, z_lel, z_eql, z_nat, z_i2l, z_l2i, z_div, z_sh, Int.toNat_natCast, z_ts, z_tsl] at c; omega
      have eE : dyE κ cs p = va_up κ 22 (κ 22 + 1) := by unfold dyE; rw [if_neg hL, if_pos c12]
      have hms := hm.up (κ 22 + 1) (i := 22) (by decide)
      rw [← eE] at hms
      have hP := h x y z u _ A a l w r hms
      rw [eB] at hP
      refine b_m_dayIsDrawn_71 (h := ?_) ..
      refine ⟨fun _ => ?_, fun c => absurd rfl c⟩
      simp (disch := decide) only [va_ne, va_s, va_cm, va_tw]
      rw [e22, i1]
      exact hP
    · have c12 : ¬ κ 12 < 12 := by simp (disch := omega) only [z_lit, z_litl, z_neg, z_negl, z_add, z_sub, z_mul, z_addl, z_subl, z_mull, z_cc, z_cl, z_cr, z_cm, z_cml, z_cmr, z_lt, z_le, z_eq, z_ltl, z_lel, z_eql, z_nat, z_i2l, z_l2i, z_div, z_sh, Int.toNat_natCast, z_ts, z_tsl] at c; omega
      have eE : dyE κ cs p = va_up (va_up κ 12 0) 22 (κ 22 + 1) := by unfold dyE; rw [if_neg hL, if_neg c12]
      have hms := (hm.up 0 (i := 12) (by decide)).up (κ 22 + 1) (i := 22) (by decide)
      rw [← eE] at hms
      have hP := h x y z u _ A a l w r hms
      rw [eB] at hP
      refine b_m_dayIsDrawn_63 (h := ?_) ..
      refine b_m_dayIsDrawn_71 (h := ?_) ..
      refine ⟨fun _ => ?_, fun c => absurd rfl c⟩
      simp (disch := decide) only [va_ne, va_s, va_cm, va_tw]
      rw [show upd (g 76) 12 0 22 = iI (κ 22 : Int) by rw [upd_ne (by decide)]; exact e22, i1]
      exact hP
theorem c_m_day {X : mm_X} {f : Nat → Int32} {fl : Nat → Int64} {g : Nat → Nat → Int32} {gl : Nat → Nat → Int64} {hh : Nat → Nat → Option Nat} {v : Nat → Value} {tx : mm_W} {P : Option Value → mm_W → Prop} {κ : Nat → Nat} {cs : List pC} {s K : Nat} (hK : 64 ≤ K) (hm : ms (g 76) κ) (hw : wf κ) (hR : rfX κ (κ 59) cs) (hok : csOK cs) (hs : s < 1000003) (hfs : f 4787 = iI (s : Int)) (h56 : 0 < κ 56) (h22 : κ 22 < 999)
    (h : ∀ (x y z u : Int32) (K' A a l w r : Nat → Int32), ms K' (dyE (dyH κ (nxt s % 4)) cs (nxt (nxt s) % κ 56)) → P (some (.int (iI (dyB (dyH κ (nxt s % 4)) cs (nxt (nxt s) % κ 56) : Nat)))) (Wd (va_up (va_up (va_up (va_up (va_up f 4758 x) 4759 y) 4760 z) 4761 u) 4787 (iI (nxt (nxt s) : Int))) fl (va_up (va_up (va_up (va_up (va_up (va_up g 76 K') 86 A) 87 a) 88 l) 89 w) 90 r) gl hh v tx)) :
    WP X (K + 16) 251 (0, [some (.ref 74), none, none, none], [], Wd f fl g gl hh v tx) P := by
  have b56 := hw.2.1.1
  have b12 := hw.2.2.1.1
  have e12 := hm.1 12 (by decide)
  have e56 := hm.1 56 (by decide)
  have hc : nxt s % 4 ≤ 3 := by omega
  have hwd : wf (dyH κ (nxt s % 4)) := dyH_wf hw hc
  have en : ∀ i, 12 < i → dyH κ (nxt s % 4) i = κ i := fun i hi => dyH_o (by omega) (Or.inr hi)
  have hp := Nat.mod_lt (nxt (nxt s)) h56
  refine b_m_dayIsDrawn_0 (d := K + 14) (h := ?_) ..
  simp only [hfs, nxt_m hs, nxt_m (nxt_lt s), e56, e12]
  rw [nxt_d (nxt_lt _) (by omega), show (4 : Int32) = iI ((4 : Nat) : Int) from rfl, nxt_d (nxt_lt s) (by omega)]
  refine ⟨fun c => ?_, fun c => ?_, fun c => ?_⟩
  · have c : iI (κ 56 : Int) = iI 0 := c
    rw [z_eq (by omega) (by omega)] at c
    omega
  · have c12 : ¬ κ 12 < 12 := by simp (disch := omega) only [z_lit, z_litl, z_neg, z_negl, z_add, z_sub, z_mul, z_addl, z_subl, z_mull, z_cc, z_cl, z_cr, z_cm, z_cml, z_cmr, z_lt, z_le, z_eq, z_ltl, z_lel, z_eql, z_nat, z_i2l, z_l2i, z_div, z_sh, Int.toNat_natCast, z_ts, z_tsl] at c; omega
    have eH : dyH κ (nxt s % 4) = κ := by unfold dyH; rw [if_neg c12]
    rw [eH] at h
    refine c_m_day2 (κ := κ) (K := K + 1) (f := va_up f 4787 _) (by omega) (by exact hm) hw hR hok hp h22 fun x y z u K' A a l w r hms => ?_
    have hP := h x y z u K' A a l w r hms
    simp (disch := decide) only [va_ne, va_s, va_cm, va_tw]
    exact hP
  · have c12 : κ 12 < 12 := by simp (disch := omega) only [z_lit, z_litl, z_neg, z_negl, z_add, z_sub, z_mul, z_addl, z_subl, z_mull, z_cc, z_cl, z_cr, z_cm, z_cml, z_cmr, z_lt, z_le, z_eq, z_ltl, z_lel, z_eql, z_nat, z_i2l, z_l2i, z_div, z_sh, Int.toNat_natCast, z_ts, z_tsl] at c; omega
    have n0 : ((0 : Int32) + iI (κ 12 : Int)).toNatClampNeg = κ 12 := by simp (disch := omega) only [z_lit, z_litl, z_neg, z_negl, z_add, z_sub, z_mul, z_addl, z_subl, z_mull, z_cc, z_cl, z_cr, z_cm, z_cml, z_cmr, z_lt, z_le, z_eq, z_ltl, z_lel, z_eql, z_nat, z_i2l, z_l2i, z_div, z_sh, Int.toNat_natCast, z_ts, z_tsl]; omega
    have i1 : iI (κ 12 : Int) + (1 : Int32) = iI ((κ 12 + 1 : Nat) : Int) := by rw [show (1 : Int32) = iI 1 from rfl, z_add]; rfl
    refine ⟨by simp (disch := omega) only [z_lit, z_litl, z_neg, z_negl, z_add, z_sub, z_mul, z_addl, z_subl, z_mull, z_cc, z_cl, z_cr, z_cm, z_cml, z_cmr, z_lt, z_le, z_eq, z_ltl, z_lel, z_eql, z_nat, z_i2l, z_l2i, z_div, z_sh, Int.toNat_natCast, z_ts, z_tsl]; omega, ?_⟩
    rw [n0, upd_ne (by omega), e12, i1, va_tw]
    have hms0 := (hm.up (nxt s % 4) (i := κ 12) (by omega)).up (κ 12 + 1) (i := 12) (by decide)
    have eH : dyH κ (nxt s % 4) = va_up (va_up κ (κ 12) (nxt s % 4)) 12 (κ 12 + 1) := by unfold dyH; rw [if_pos c12]
    rw [← eH] at hms0
    refine c_m_day2 (κ := dyH κ (nxt s % 4)) (K := K + 1) (f := va_up f 4787 _) (g := va_up g 76 _) (by omega) (by exact hms0) hwd (hR.cg fun i hi => en i (by omega)) hok (by rw [en 56 (by omega)]; exact hp) (by rw [en 22 (by omega)]; exact h22) fun x y z u K' A a l w r hms => ?_
    have hP := h x y z u K' A a l w r hms
    simp (disch := decide) only [va_ne, va_s, va_cm, va_tw]
    exact hP
theorem dyT_ok {cs : List pC} : ∀ (m : Nat) (κ : Nat → Nat) (s : Nat), wf κ → 0 < κ 56 → wf (dyT cs m κ s).1 ∧ ∀ i, 23 ≤ i → (dyT cs m κ s).1 i = κ i := by
  intro m
  induction m with
  | zero => exact fun κ s hw _ => ⟨hw, fun i _ => rfl⟩
  | succ m ih =>
    intro κ s hw h56
    by_cases c22 : 999 ≤ κ 22
    · rw [show dyT cs (m + 1) κ s = (κ, 0) by rw [dyT, if_pos c22]]
      exact ⟨hw, fun i _ => rfl⟩
    · have b56 := hw.2.1.1
      have hp := Nat.mod_lt (nxt (nxt s)) h56
      have en : ∀ i, 23 ≤ i → dyE (dyH κ (nxt s % 4)) cs (nxt (nxt s) % κ 56) i = κ i := fun i hi => (dyE_o (by omega) hi).trans (dyH_o (by omega) (Or.inr (by omega)))
      have hwd : wf (dyE (dyH κ (nxt s % 4)) cs (nxt (nxt s) % κ 56)) := dyE_wf (dyH_wf hw (by omega)) (by omega) (by rw [dyH_o (by omega) (Or.inr (by omega))]; omega)
      rw [dyT_s c22]
      obtain ⟨q1, q2⟩ := ih _ (nxt (nxt s)) hwd (by rw [en 56 (by omega)]; exact h56)
      exact ⟨q1, fun i hi => (q2 i hi).trans (en i hi)⟩
theorem c_m_days {X : mm_X} {tx : mm_W} {P : Option Value → mm_W → Prop} {fl : Nat → Int64} {gl : Nat → Nat → Int64} {v : Nat → Value} {hh : Nat → Nat → Option Nat} {cs : List pC} {n K : Nat} (hK : 64 ≤ K) (hok : csOK cs) (hn : n ≤ 60) : ∀ (m i acc s : Nat) (κ : Nat → Nat) (f : Nat → Int32) (g : Nat → Nat → Int32), m + i = n → acc ≤ i → wf κ → ms (g 76) κ → rfX κ (κ 59) cs → s < 1000003 → f 4787 = iI (s : Int) → 0 < κ 56 →
    (∀ (x y z u sd : Int32) (K' A a l w r : Nat → Int32), ms K' (dyT cs m κ s).1 → WP X (K + 17) 252 (112, [some (.ref 74), none, none, some (.int (iI ((acc + (dyT cs m κ s).2 : Nat) : Int))), some (.int 0)], [], Wd (va_up (va_up (va_up (va_up (va_up f 4758 x) 4759 y) 4760 z) 4761 u) 4787 sd) fl (va_up (va_up (va_up (va_up (va_up (va_up g 76 K') 86 A) 87 a) 88 l) 89 w) 90 r) gl hh v tx) P) →
    WP X (K + 17) 252 (69, [some (.ref 74), none, some (.int (iI (n : Int))), some (.int (iI (acc : Int))), some (.int (iI (i : Int)))], [], Wd f fl g gl hh v tx) P := by
  intro m
  induction m with
  | zero =>
    intro i acc s κ f g hmi hai hw hm hR hs hfs h56 h
    have hP := h (f 4758) (f 4759) (f 4760) (f 4761) (f 4787) (g 76) (g 86) (g 87) (g 88) (g 89) (g 90) hm
    rw [va_id (f := f) rfl, va_id (f := f) rfl, va_id (f := f) rfl, va_id (f := f) rfl, va_id (f := f) rfl, va_id (f := g) rfl, va_id (f := g) rfl, va_id (f := g) rfl, va_id (f := g) rfl, va_id (f := g) rfl, va_id (f := g) rfl] at hP
    refine b_m_months_69 (h := ?_) ..
    refine ⟨fun _ => hP, fun c => ?_⟩
    exact absurd (by rw [show i = n by omega]; exact Int32.le_refl _) c
  | succ m ih =>
    intro i acc s κ f g hmi hai hw hm hR hs hfs h56 h
    have b56 := hw.2.1.1
    have b22 := hw.2.2.2.2.2.1.1
    by_cases c22 : 999 ≤ κ 22
    · have e : dyT cs (m + 1) κ s = (κ, 0) := by rw [dyT, if_pos c22]
      rw [e] at h
      have hP := h (f 4758) (f 4759) (f 4760) (f 4761) (f 4787) (g 76) (g 86) (g 87) (g 88) (g 89) (g 90) hm
      rw [va_id (f := f) rfl, va_id (f := f) rfl, va_id (f := f) rfl, va_id (f := f) rfl, va_id (f := f) rfl, va_id (f := g) rfl, va_id (f := g) rfl, va_id (f := g) rfl, va_id (f := g) rfl, va_id (f := g) rfl, va_id (f := g) rfl] at hP
      refine b_m_months_69 (h := ?_) ..
      refine ⟨fun _ => hP, fun _ => ⟨fun _ => hP, fun c => ?_⟩⟩
      rw [hm.1 22 (by decide)] at c
      simp (disch := omega) only [z_lit, z_litl, z_neg, z_negl, z_add, z_sub, z_mul, z_addl, z_subl, z_mull, z_cc, z_cl, z_cr, z_cm, z_cml, z_cmr, z_lt, z_le, z_eq, z_ltl, z_lel, z_eql, z_nat, z_i2l, z_l2i, z_div, z_sh, Int.toNat_natCast, z_ts, z_tsl] at c
      omega
    · have hp := Nat.mod_lt (nxt (nxt s)) h56
      have en : ∀ i, 23 ≤ i → dyE (dyH κ (nxt s % 4)) cs (nxt (nxt s) % κ 56) i = κ i := fun i hi => (dyE_o (by omega) hi).trans (dyH_o (by omega) (Or.inr (by omega)))
      have hwd : wf (dyE (dyH κ (nxt s % 4)) cs (nxt (nxt s) % κ 56)) := dyE_wf (dyH_wf hw (by omega)) (by omega) (by rw [dyH_o (by omega) (Or.inr (by omega))]; omega)
      rw [dyT_s c22] at h
      have i1 : iI (i : Int) + (1 : Int32) = iI ((i + 1 : Nat) : Int) := by rw [show (1 : Int32) = iI 1 from rfl, z_add]; rfl
      have hB : dyB (dyH κ (nxt s % 4)) cs (nxt (nxt s) % κ 56) = 0 ∨ dyB (dyH κ (nxt s % 4)) cs (nxt (nxt s) % κ 56) = 1 := by
        unfold dyB
        split
        · exact Or.inr rfl
        · exact Or.inl rfl
      refine b_m_months_69 (h := ?_) ..
      refine ⟨fun c => by simp (disch := omega) only [z_lit, z_litl, z_neg, z_negl, z_add, z_sub, z_mul, z_addl, z_subl, z_mull, z_cc, z_cl, z_cr, z_cm, z_cml, z_cmr, z_lt, z_le, z_eq, z_ltl, z_lel, z_eql, z_nat, z_i2l, z_l2i, z_div, z_sh, Int.toNat_natCast, z_ts, z_tsl] at c; omega, fun _ => ⟨fun c => ?_, fun _ => ?_⟩⟩
      · rw [hm.1 22 (by decide)] at c
        simp (disch := omega) only [z_lit, z_litl, z_neg, z_negl, z_add, z_sub, z_mul, z_addl, z_subl, z_mull, z_cc, z_cl, z_cr, z_cm, z_cml, z_cmr, z_lt, z_le, z_eq, z_ltl, z_lel, z_eql, z_nat, z_i2l, z_l2i, z_div, z_sh, Int.toNat_natCast, z_ts, z_tsl] at c
        omega
      refine c_m_day hK hm hw hR hok hs hfs h56 (by omega) fun x y z u K' A a l w r hms => ?_
      have go : ∀ b : Nat, b = dyB (dyH κ (nxt s % 4)) cs (nxt (nxt s) % κ 56) → WP X (K + 17) 252 (69, [some (.ref 74), none, some (.int (iI (n : Int))), some (.int (iI ((acc + b : Nat) : Int))), some (.int (iI ((i + 1 : Nat) : Int)))], [], Wd (va_up (va_up (va_up (va_up (va_up f 4758 x) 4759 y) 4760 z) 4761 u) 4787 (iI (nxt (nxt s) : Int))) fl (va_up (va_up (va_up (va_up (va_up (va_up g 76 K') 86 A) 87 a) 88 l) 89 w) 90 r) gl hh v tx) P := by
        intro b hb
        refine ih (i + 1) (acc + b) (nxt (nxt s)) (dyE (dyH κ (nxt s % 4)) cs (nxt (nxt s) % κ 56)) _ _ (by omega) (by omega) hwd (by exact hms) (hR.cg en) (nxt_lt _) va_s (by rw [en 56 (by omega)]; exact h56) ?_
        intro x y z u sd K' A a l w r hms
        have hP := h x y z u sd K' A a l w r hms
        simp (disch := decide) only [va_ne, va_s, va_cm, va_tw]
        rw [hb, Nat.add_assoc]
        exact hP
      refine b_m_months_93 (h := ?_) ..
      rw [i1]
      rcases hB with e | e
      · rw [e]
        refine ⟨fun _ => ?_, fun c => absurd rfl c⟩
        rw [show (0 : Int32) = iI 0 from rfl, z_add]
        exact go 0 e.symm
      · rw [e]
        refine ⟨fun c => absurd c (by decide), fun _ => ?_⟩
        rw [show (1 : Int32) = iI 1 from rfl, z_add]
        exact go 1 e.symm
theorem c_m_aside {X : mm_X} {d : Nat} {f : Nat → Int32} {fl : Nat → Int64} {g : Nat → Nat → Int32} {gl : Nat → Nat → Int64} {hh : Nat → Nat → Option Nat} {v : Nat → Value} {tx : mm_W} {P : Option Value → mm_W → Prop} (h : ∀ a : Nat → Int32, (∀ i, i < 23 → a i = g 76 i) → P none (Wd f fl (va_up g 79 a) gl hh v tx)) : WP X d 125 (0, [some (.ref 74), some (.int 0), none], [], Wd f fl g gl hh v tx) P := by
  refine b_m_laysAside_0 (h := ?_) ..
  have loop : ∀ i, i ≤ 23 → ∀ a : Nat → Int32, (∀ x, x < i → a x = g 76 x) → WP X d 125 (2, [some (.ref 74), some (.int 0), some (.int (iI i))], [], Wd f fl (va_up g 79 a) gl hh v tx) P := by
    apply k_up (Q := fun i => ∀ a : Nat → Int32, (∀ x, x < i → a x = g 76 x) → WP X d 125 (2, [some (.ref 74), some (.int 0), some (.int (iI i))], [], Wd f fl (va_up g 79 a) gl hh v tx) P)
    · intro a h1
      refine b_m_laysAside_2 (h := ?_) ..
      exact ⟨fun _ => h a h1, fun c => absurd (Int32.le_refl _) c⟩
    · intro i hi ih a h1
      refine b_m_laysAside_2 (h := ?_) ..
      simp (disch := omega) only [z_lit, z_litl, z_neg, z_negl, z_add, z_sub, z_mul, z_addl, z_subl, z_mull, z_cc, z_cl, z_cr, z_cm, z_cml, z_cmr, z_lt, z_le, z_eq, z_ltl, z_lel, z_eql, z_nat, z_i2l, z_l2i, z_div, z_sh, Int.toNat_natCast, z_ts, z_tsl, va_ne, va_s, va_tw]
      refine ⟨fun c => by omega, fun _ => ⟨by omega, by omega, ?_⟩⟩
      refine ih _ (fun x hx => ?_)
      rw [show ((23 : Int) * 0 + (i : Int)).toNat = i by omega]
      by_cases e : x = i
      · rw [e, upd_s]
      · rw [upd_ne (by omega)]; exact h1 x (by omega)
  have := loop 0 (by omega) (g 79) fun x hx => absurd hx (Nat.not_lt_zero x)
  rw [va_id (f := g) rfl] at this
  exact this
theorem c_m_takeBack {X : mm_X} {d : Nat} {f : Nat → Int32} {fl : Nat → Int64} {g : Nat → Nat → Int32} {gl : Nat → Nat → Int64} {hh : Nat → Nat → Option Nat} {v : Nat → Value} {tx : mm_W} {P : Option Value → mm_W → Prop} (h : ∀ a : Nat → Int32, (∀ i, i < 23 → a i = g 79 i) → (∀ i, 23 ≤ i → a i = g 76 i) → P none (Wd f fl (va_up g 76 a) gl hh v tx)) : WP X d 126 (0, [some (.ref 74), some (.int 0), none], [], Wd f fl g gl hh v tx) P := by
  refine b_m_takesBack_0 (h := ?_) ..
  have loop : ∀ i, i ≤ 23 → ∀ a : Nat → Int32, (∀ x, x < i → a x = g 79 x) → (∀ x, 23 ≤ x → a x = g 76 x) → WP X d 126 (2, [some (.ref 74), some (.int 0), some (.int (iI i))], [], Wd f fl (va_up g 76 a) gl hh v tx) P := by
    apply k_up (Q := fun i => ∀ a : Nat → Int32, (∀ x, x < i → a x = g 79 x) → (∀ x, 23 ≤ x → a x = g 76 x) → WP X d 126 (2, [some (.ref 74), some (.int 0), some (.int (iI i))], [], Wd f fl (va_up g 76 a) gl hh v tx) P)
    · intro a h1 h2
      refine b_m_takesBack_2 (h := ?_) ..
      exact ⟨fun _ => h a h1 h2, fun c => absurd (Int32.le_refl _) c⟩
    · intro i hi ih a h1 h2
      refine b_m_takesBack_2 (h := ?_) ..
      simp (disch := omega) only [z_lit, z_litl, z_neg, z_negl, z_add, z_sub, z_mul, z_addl, z_subl, z_mull, z_cc, z_cl, z_cr, z_cm, z_cml, z_cmr, z_lt, z_le, z_eq, z_ltl, z_lel, z_eql, z_nat, z_i2l, z_l2i, z_div, z_sh, Int.toNat_natCast, z_ts, z_tsl, va_ne, va_s, va_tw]
      refine ⟨fun c => by omega, fun _ => ⟨by omega, by omega, ?_⟩⟩
      refine ih _ (fun x hx => ?_) fun x hx => ?_
      · rw [show ((23 : Int) * 0 + (i : Int)).toNat = i by omega]
        by_cases e : x = i
        · rw [e, upd_s]
        · rw [upd_ne (by omega)]; exact h1 x (by omega)
      · rw [upd_ne (by omega)]; exact h2 x hx
  have := loop 0 (by omega) (g 76) (fun x hx => absurd hx (Nat.not_lt_zero x)) fun x _ => rfl
  rw [va_id (f := g) rfl] at this
  exact this
theorem c_m_kept {X : mm_X} {d : Nat} {f : Nat → Int32} {fl : Nat → Int64} {g : Nat → Nat → Int32} {gl : Nat → Nat → Int64} {hh : Nat → Nat → Option Nat} {v : Nat → Value} {tx : mm_W} {P : Option Value → mm_W → Prop} {l3 : Int32} (h : ∀ dr : Nat → Int32, (∀ i, i < 23 → dr i = g 76 i) → WP X d 126 (0, [some (.ref 74), some (.int 0), none], [], Wd f fl (va_up g 99 dr) gl hh v tx) (fun rv w2 => WP X (d + 1) 252 (144, [some (.ref 74), none, none, some (.int l3), none], rv.toList ++ [], w2) P)) : WP X (d + 1) 252 (112, [some (.ref 74), none, none, some (.int l3), some (.int 0)], [], Wd f fl g gl hh v tx) P := by
  have loop : ∀ i, i ≤ 23 → ∀ a : Nat → Int32, (∀ x, x < i → a x = g 76 x) → WP X (d + 1) 252 (112, [some (.ref 74), none, none, some (.int l3), some (.int (iI i))], [], Wd f fl (va_up g 99 a) gl hh v tx) P := by
    apply k_up (Q := fun i => ∀ a : Nat → Int32, (∀ x, x < i → a x = g 76 x) → WP X (d + 1) 252 (112, [some (.ref 74), none, none, some (.int l3), some (.int (iI i))], [], Wd f fl (va_up g 99 a) gl hh v tx) P)
    · intro a h1
      refine b_m_months_112 (h := ?_) ..
      exact ⟨fun _ => h a h1, fun c => absurd (Int32.le_refl _) c⟩
    · intro i hi ih a h1
      refine b_m_months_112 (h := ?_) ..
      simp (disch := omega) only [z_lit, z_litl, z_neg, z_negl, z_add, z_sub, z_mul, z_addl, z_subl, z_mull, z_cc, z_cl, z_cr, z_cm, z_cml, z_cmr, z_lt, z_le, z_eq, z_ltl, z_lel, z_eql, z_nat, z_i2l, z_l2i, z_div, z_sh, Int.toNat_natCast, z_ts, z_tsl, va_ne, va_s, va_tw]
      refine ⟨fun c => by omega, fun _ => ⟨by omega, by omega, ?_⟩⟩
      refine ih _ (fun x hx => ?_)
      by_cases e : x = i
      · rw [e, upd_s]
      · rw [upd_ne (by omega)]; exact h1 x (by omega)
  have := loop 0 (by omega) (g 99) fun x hx => absurd hx (Nat.not_lt_zero x)
  rw [va_id (f := g) rfl] at this
  exact this
theorem c_copy_19_1 {X : mm_X} {d : Nat} {f : Nat → Int32} {fl : Nat → Int64} {g : Nat → Nat → Int32} {gl : Nat → Nat → Int64} {hh : Nat → Nat → Option Nat} {v : Nat → Value} {tx : mm_W} {P : Option Value → mm_W → Prop} (hl : i_lw tx (hh 7)) (h : ∀ nl : Nat → Option Nat, (∀ t, t < 6 → nl t = (hh 7) t) → (∀ t, 6 ≤ t → nl t = (hh 25) t) → P none (Wd (va_up (va_up (va_up (va_up (va_up (va_up (va_up (va_up f 1216 (f 64)) 1220 (f 68)) 1222 (f 70)) 1223 (f 71)) 1224 (f 72)) 1226 (f 74)) 1228 (f 76)) 1230 (f 78)) fl (va_up (va_up (va_up (va_up (va_up (va_up (va_up g 20 (va_cpy (g 2) (g 20) 0 0 8)) 21 (va_cpy (g 3) (g 21) 0 0 8)) 22 (va_cpy (g 4) (g 22) 0 0 8)) 23 (va_cpy (g 5) (g 23) 0 0 3)) 24 (va_cpy (g 6) (g 24) 0 0 6)) 26 (va_cpy (g 8) (g 26) 0 0 3)) 27 (va_cpy (g 9) (g 27) 0 0 16)) gl (va_up hh 25 nl) v tx)) : WP X d 45 (0, [some (.ref 19), some (.ref 1), none], [], Wd f fl g gl hh v tx) P := by
  refine b_yst_copy_19_1_0 (h := ?_) ..
  have key : ∀ i, i ≤ 6 → ∀ nl : Nat → Option Nat, (∀ t, t < i → nl t = (hh 7) t) → (∀ t, i ≤ t → nl t = (hh 25) t) → WP X d 45 (169, [some (.ref 19), some (.ref 1), some (.int (iI i))], [], Wd (va_up (va_up (va_up (va_up (va_up (va_up (va_up (va_up f 1216 (f 64)) 1220 (f 68)) 1222 (f 70)) 1223 (f 71)) 1224 (f 72)) 1226 (f 74)) 1228 (f 76)) 1230 (f 78)) fl (va_up (va_up (va_up (va_up (va_up (va_up (va_up g 20 (va_cpy (g 2) (g 20) 0 0 8)) 21 (va_cpy (g 3) (g 21) 0 0 8)) 22 (va_cpy (g 4) (g 22) 0 0 8)) 23 (va_cpy (g 5) (g 23) 0 0 3)) 24 (va_cpy (g 6) (g 24) 0 0 6)) 26 (va_cpy (g 8) (g 26) 0 0 3)) 27 (va_cpy (g 9) (g 27) 0 0 16)) gl (va_up hh 25 nl) v tx) P := by
    apply k_up (Q := fun i => ∀ nl : Nat → Option Nat, (∀ t, t < i → nl t = (hh 7) t) → (∀ t, i ≤ t → nl t = (hh 25) t) → WP X d 45 (169, [some (.ref 19), some (.ref 1), some (.int (iI i))], [], Wd (va_up (va_up (va_up (va_up (va_up (va_up (va_up (va_up f 1216 (f 64)) 1220 (f 68)) 1222 (f 70)) 1223 (f 71)) 1224 (f 72)) 1226 (f 74)) 1228 (f 76)) 1230 (f 78)) fl (va_up (va_up (va_up (va_up (va_up (va_up (va_up g 20 (va_cpy (g 2) (g 20) 0 0 8)) 21 (va_cpy (g 3) (g 21) 0 0 8)) 22 (va_cpy (g 4) (g 22) 0 0 8)) 23 (va_cpy (g 5) (g 23) 0 0 3)) 24 (va_cpy (g 6) (g 24) 0 0 6)) 26 (va_cpy (g 8) (g 26) 0 0 3)) 27 (va_cpy (g 9) (g 27) 0 0 16)) gl (va_up hh 25 nl) v tx) P)
    · intro nl h1 h2
      refine b_yst_copy_19_1_169 (h := ?_) ..
      simp (disch := omega) only [z_lit, z_litl, z_neg, z_negl, z_add, z_sub, z_mul, z_addl, z_subl, z_mull, z_cc, z_cl, z_cr, z_cm, z_cml, z_cmr, z_lt, z_le, z_eq, z_ltl, z_lel, z_eql, z_nat, z_i2l, z_l2i, z_div, z_sh, Int.toNat_natCast, z_ts, z_tsl]
      exact ⟨fun _ => h nl h1 h2, fun c => by omega⟩
    · intro i hi ih nl h1 h2
      refine b_yst_copy_19_1_169 (h := ?_) ..
      have e1 : va_up hh 25 nl 7 = (hh 7) := va_ne (by decide)
      have e2 : va_up hh 25 nl 25 = nl := va_s
      rw [e1, e2, show (iI (i : Int)).toNatClampNeg = i by rw [z_nat (by omega)]; omega]
      refine ⟨fun c => by simp (disch := omega) only [z_lit, z_litl, z_neg, z_negl, z_add, z_sub, z_mul, z_addl, z_subl, z_mull, z_cc, z_cl, z_cr, z_cm, z_cml, z_cmr, z_lt, z_le, z_eq, z_ltl, z_lel, z_eql, z_nat, z_i2l, z_l2i, z_div, z_sh, Int.toNat_natCast, z_ts, z_tsl] at c; omega, fun _ => ⟨by simp (disch := omega) only [z_lit, z_litl, z_neg, z_negl, z_add, z_sub, z_mul, z_addl, z_subl, z_mull, z_cc, z_cl, z_cr, z_cm, z_cml, z_cmr, z_lt, z_le, z_eq, z_ltl, z_lel, z_eql, z_nat, z_i2l, z_l2i, z_div, z_sh, Int.toNat_natCast, z_ts, z_tsl]; omega, by simp (disch := omega) only [z_lit, z_litl, z_neg, z_negl, z_add, z_sub, z_mul, z_addl, z_subl, z_mull, z_cc, z_cl, z_cr, z_cm, z_cml, z_cmr, z_lt, z_le, z_eq, z_ltl, z_lel, z_eql, z_nat, z_i2l, z_l2i, z_div, z_sh, Int.toNat_natCast, z_ts, z_tsl]; omega, fun o ho => ?_, ?_⟩⟩
      · obtain ⟨tt, fs, rfl, hfs⟩ := hl i o ho
        exact ⟨fs, hfs⟩
      · rw [va_tw, show iI (i : Int) + (1 : Int32) = iI ((i + 1 : Nat) : Int) by rw [show (1 : Int32) = iI 1 from rfl, z_add]; rfl]
        refine ih _ (fun t ht => ?_) fun t ht => ?_
        · by_cases e : t = i
          · rw [e, va_s]
          · rw [va_ne e]; exact h1 t (by omega)
        · rw [va_ne (by omega)]; exact h2 t (by omega)
  have := key 0 (by omega) (hh 25) (fun t ht => absurd ht (Nat.not_lt_zero t)) fun t _ => rfl
  rw [show va_up hh 25 (hh 25) = hh by
    funext j
    by_cases e : j = 25
    · rw [e, va_s]
    · rw [va_ne e]] at this
  exact this
theorem o_months : k_op35 k_Inv := by
  intro a0 a1 X f fl g gl hh v tx hI
  have hI' := hI
  obtain ⟨κ, ⟨wS, wH, wL, wD, wW, wT, wB⟩, hm, ⟨xS, xH, xL, xD, xW, xT⟩, he, ht, ha, hi0, hi1, hd, hr⟩ := hI
  obtain ⟨z, hz, rfl⟩ := z_ex a0
  obtain ⟨y, hy, rfl⟩ := z_ex a1
  have b56 := wH.1
  have e56 := hm.1 56 (by decide)
  by_cases c1 : 0 ≤ z ∧ z ≤ 1000000 ∧ 1 ≤ y ∧ y ≤ 60
  · by_cases c0 : κ 56 = 0
    · have e0 : f 68 = 0 := by rw [xH.1, c0]; rfl
      have e1 : g 76 56 = 0 := by rw [e56, c0]; rfl
      refine b_x_months_0 (d := 1997) (h := ?_) ..
      simp (disch := omega) only [z_lit, z_litl, z_neg, z_negl, z_add, z_sub, z_mul, z_addl, z_subl, z_mull, z_cc, z_cl, z_cr, z_cm, z_cml, z_cmr, z_lt, z_le, z_eq, z_ltl, z_lel, z_eql, z_nat, z_i2l, z_l2i, z_div, z_sh, Int.toNat_natCast, z_ts, z_tsl]
      refine ⟨fun c => by omega, fun _ => ⟨fun c => by omega, fun _ => ⟨fun c => by omega, fun _ => ⟨fun _ => ⟨fun c => absurd e0 c, fun _ => k_mid (b_m_months_0 (d := 1998) (h := ?_) ..)⟩, fun c => by omega⟩⟩⟩⟩
      simp (disch := omega) only [z_lit, z_litl, z_neg, z_negl, z_add, z_sub, z_mul, z_addl, z_subl, z_mull, z_cc, z_cl, z_cr, z_cm, z_cml, z_cmr, z_lt, z_le, z_eq, z_ltl, z_lel, z_eql, z_nat, z_i2l, z_l2i, z_div, z_sh, Int.toNat_natCast, z_ts, z_tsl]
      exact ⟨fun _ => ⟨fun _ => ⟨fun c => absurd e1 c, fun _ => k_fin0 rfl (hI'.rf (iI (-3)) 3 (by decide))⟩, fun c => by omega⟩, fun c => by omega⟩
    · obtain ⟨s, rfl⟩ : ∃ s : Nat, z = s := ⟨z.toNat, by omega⟩
      obtain ⟨n, rfl⟩ : ∃ n : Nat, y = n := ⟨y.toNat, by omega⟩
      have hw : wf κ := ⟨wS, wH, wL, wD, wW, wT, wB⟩
      obtain ⟨cs, hok, hR, hF⟩ := force_X xW wW
      obtain ⟨tw, tn⟩ := dyT_ok (cs := cs) n κ s hw (by omega)
      have n0 : ¬ f 68 = 0 := by
        intro c
        rw [xH.1] at c
        have c : iI (κ 56 : Int) = iI 0 := c
        rw [z_eq (by omega) (by omega)] at c
        omega
      have n1 : ¬ g 76 56 = 0 := by
        intro c
        rw [e56] at c
        have c : iI (κ 56 : Int) = iI 0 := c
        rw [z_eq (by omega) (by omega)] at c
        omega
      refine b_x_months_0 (d := 1997) (h := ?_) ..
      simp (disch := omega) only [z_lit, z_litl, z_neg, z_negl, z_add, z_sub, z_mul, z_addl, z_subl, z_mull, z_cc, z_cl, z_cr, z_cm, z_cml, z_cmr, z_lt, z_le, z_eq, z_ltl, z_lel, z_eql, z_nat, z_i2l, z_l2i, z_div, z_sh, Int.toNat_natCast, z_ts, z_tsl]
      refine ⟨fun c => by omega, fun _ => ⟨fun c => by omega, fun _ => ⟨fun c => by omega, fun _ => ⟨fun _ => ⟨fun _ => ?_, fun c => absurd c n0⟩, fun c => by omega⟩⟩⟩⟩
      refine c_copy_19_1 hr.2.2.1 fun nl nl1 nl2 => ?_
      refine b_x_months_56 (h := ?_) ..
      refine c_x_days (d := 1993) (cs := cs) (n := n) hok (by omega) n 0 0 s κ _ _ _ _ (by omega) hw (by exact xs_copy ⟨xS, xH, xL, xD, xW, xT⟩ hw nl1) ?_ (by omega) (by exact xH.1) (by omega) fun hu cl s1 s2 s3 sp te A B C D st L hsp => ?_
      · rcases hF with h0 | ⟨t, o, h1, h2, h3, h4⟩
        · exact Or.inl h0
        · exact Or.inr ⟨t, o, h1, h2, by rw [va_s, nl1 t (by have := wW.1; omega)]; exact h3, h4⟩
      · refine k_mid (b_m_months_0 (d := 1998) (h := ?_) ..)
        simp (disch := omega) only [z_lit, z_litl, z_neg, z_negl, z_add, z_sub, z_mul, z_addl, z_subl, z_mull, z_cc, z_cl, z_cr, z_cm, z_cml, z_cmr, z_lt, z_le, z_eq, z_ltl, z_lel, z_eql, z_nat, z_i2l, z_l2i, z_div, z_sh, Int.toNat_natCast, z_ts, z_tsl]
        refine ⟨fun _ => ⟨fun _ => ⟨fun _ => ?_, fun c => absurd c n1⟩, fun c => by omega⟩, fun c => by omega⟩
        refine c_m_aside fun a9 ha9 => ?_
        refine b_m_months_64 (h := ?_) ..
        refine c_m_days (K := 1982) (cs := cs) (n := n) (by omega) hok (by omega) n 0 0 s κ _ _ (by omega) (by omega) hw (by exact hm) hR (by omega) (by rw [va_ne (by decide), va_s]) (by omega) fun x y z u sd K' A a l w r hms => ?_
        refine c_m_kept fun dr hdr => ?_
        refine c_m_takeBack fun k9 hk9 hk8 => ?_
        refine b_m_months_144 (h := ?_) ..
        have hdr : ∀ i, i < 23 → dr i = K' i := hdr
        have hk9 : ∀ i, i < 23 → k9 i = a9 i := hk9
        have hk8 : ∀ i, 23 ≤ i → k9 i = K' i := hk8
        have ek : k9 = g 76 := by
          funext i
          by_cases c : i < 23
          · rw [hk9 i c]; exact ha9 i c
          · rw [hk8 i (by omega)]
            by_cases e : i = 59
            · rw [e, hms.2, hm.2, tn 59 (by omega)]
            · rw [hms.1 i e, hm.1 i e, tn i (by omega)]
        subst ek
        refine k_fin0 rfl ⟨κ, hw, hm, ⟨xS, xH, xL, xD, xW, xT⟩, ⟨he.1, he.2.1, he.2.2.1, rfl, he.2.2.2.2⟩, ht, ha, hi0, hi1, ⟨Or.inr ⟨κ 56, (dyT cs n κ s).1, b56, by exact xH.1, by exact e56, fun p hp => ?_⟩, hd.2⟩, hr.1, hr.2.1, hr.2.2.1, hr.2.2.2.1, hr.2.2.1.copy hr.2.2.2.2.1 nl1 nl2, hr.2.2.2.2.2⟩
        obtain ⟨w1, w2, w3⟩ := tw.2.1.2 p (by omega)
        exact ⟨w1, w2, w3, hsp p hp, (hdr _ (by omega)).trans (hms.1 _ (by omega)), (hdr _ (by omega)).trans (hms.1 _ (by omega)), (hdr _ (by omega)).trans (hms.1 _ (by omega))⟩
  · have ref : WP X 1999 252 (0, [some (.ref 74), some (.int (iI z)), some (.int (iI y)), none, none], [], Wd (va_up f 18 (-1 : Int32)) fl (va_up g 55 (upd (g 55) 1 ((g 55) 1 + (1 : Int32)))) gl hh v tx) (k_fn (.int (iI (-1))) k_Inv tx) := by
      refine b_m_months_0 (d := 1998) (h := ?_) ..
      simp (disch := omega) only [z_lit, z_litl, z_neg, z_negl, z_add, z_sub, z_mul, z_addl, z_subl, z_mull, z_cc, z_cl, z_cr, z_cm, z_cml, z_cmr, z_lt, z_le, z_eq, z_ltl, z_lel, z_eql, z_nat, z_i2l, z_l2i, z_div, z_sh, Int.toNat_natCast, z_ts, z_tsl]
      refine ⟨fun c => ⟨fun c2 => by omega, fun _ => ?_⟩, fun _ => ?_⟩
      · exact k_fin0 rfl (hI'.rf (iI (-1)) 1 (by decide))
      · exact k_fin0 rfl (hI'.rf (iI (-1)) 1 (by decide))
    refine b_x_months_0 (d := 1997) (h := ?_) ..
    simp (disch := omega) only [z_lit, z_litl, z_neg, z_negl, z_add, z_sub, z_mul, z_addl, z_subl, z_mull, z_cc, z_cl, z_cr, z_cm, z_cml, z_cmr, z_lt, z_le, z_eq, z_ltl, z_lel, z_eql, z_nat, z_i2l, z_l2i, z_div, z_sh, Int.toNat_natCast, z_ts, z_tsl]
    refine ⟨fun _ => k_mid ref, fun _ => ⟨fun _ => k_mid ref, fun _ => ⟨fun _ => k_mid ref, fun _ => ⟨fun c => by omega, fun _ => k_mid ref⟩⟩⟩⟩
