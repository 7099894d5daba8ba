/-! the class runs orders: clause by clause -/
/-- a text of orders -/
def oTX (c cv : Nat → Nat) (size : Nat) (ws : List pC) : Prop := (∀ i, size ≤ i → c i = 0) ∧ pcK c cv true size 0 ws ∧ ws.length ≤ 12 ∧ (p_code ws).length ≤ 400 ∧ ∀ q, q ∈ ws → q.1 ≤ 3 ∧ q.2.1 ≤ 20 ∧ (q.1 = 1 ∨ q.1 = 3 → q.2.2.2.2.1 = fun _ => some 1)
theorem xo_rep {X : mm_X} {K : Nat} {fl : Nat → Int64} {hh : Nat → Nat → Option Nat} {tx : mm_W} {P : Option Value → mm_W → Prop} {f0 : Nat → Int32} {g0 : Nat → Nat → Int32} {lw : List pC} {κ0 : Nat → Nat} {ws l r : List pC} {q : pC} {c cv : Nat → Nat} {size : Nat} (hws : ws = l ++ q :: r) (hT : oTX c cv size ws) (hph : p_heads (g0 33) 0 0 ws) (hcd : cd (g0 34) 0 (p_code ws)) (hok : csOK lw) (hF : (κ0 59 = 0 ∧ lw = []) ∨ ∃ t o, κ0 59 = t + 1 ∧ t < κ0 58 ∧ hh 7 t = some o ∧ lwX tx o lw) :
    ∀ (n t m : Nat) (σ : oS) (f : Nat → Int32) (g : Nat → Nat → Int32) (gl : Nat → Nat → Int64) (v : Nat → Value), t + n = q.2.1 → m + n ≤ 1000 → oOK κ0 m σ → xO f0 g0 hh tx σ f g →
    (∀ σ', oRep lw q n σ = some σ' → ∀ f' g' gl' v', xO f0 g0 hh tx σ' f' g' → WP X (K + 8) 70 (79, [some (.ref 0), none, none, some (.ref 32), some (.int (iI (σ'.2.2.2.2.1 : Int))), some (.int (iI σ'.2.2.2.2.2)), some (.int (iI ((l.length + 1 : Nat) : Int))), none, none, none, none, none, none], [], Wd f' fl g' gl' hh v' tx) P) →
    (oRep lw q n σ = none → ∀ f' g' gl' v' (l4 l5 l7 l8 l9 l12 : Int32), fxO f' f0 → gxO g' g0 → WP X (K + 7) 45 (0, [some (.ref 1), some (.ref 10), none], [], Wd f' fl g' gl' hh v' tx) (fun rv w2 => WP X (K + 8) 70 (228, [some (.ref 0), none, none, some (.ref 32), some (.int l4), some (.int l5), some (.int (iI (l.length : Int))), some (.int l7), some (.int l8), some (.int l9), none, none, some (.int l12)], rv.toList ++ [], w2) P)) →
    WP X (K + 8) 70 (109, [some (.ref 0), none, none, some (.ref 32), some (.int (iI (σ.2.2.2.2.1 : Int))), some (.int (iI σ.2.2.2.2.2)), some (.int (iI (l.length : Int))), some (.int (iI (q.1 : Int))), some (.int (iI (q.2.1 : Int))), some (.int (iI (t : Int))), none, none, none], [], Wd f fl g gl hh v tx) P := by
  obtain ⟨hc0, hpk, h12, h400, hkd⟩ := hT
  obtain ⟨hk3, hk20, hk1⟩ := hkd q (by rw [hws]; exact List.mem_append_right _ (List.mem_cons_self ..))
  rw [hws] at hph hcd hpk h400 h12
  obtain ⟨d1, d2, d3, d4, d5⟩ := heads_at l 0 0 hph
  obtain ⟨p1, p2⟩ := pcK_at l 0 hpk
  have hcl := code_len (q := q) (r := r) (l := l)
  have hl : l.length ≤ 11 := by
    rw [List.length_append, List.length_cons] at h12
    omega
  simp only [Nat.zero_add] at d1 d2 d3 d4 d5 p1 p2
  intro n
  induction n with
  | zero =>
    intro t m σ f g gl v ht hm hO hx hnext hfail
    have ht : t = q.2.1 := by omega
    subst ht
    refine b_x_orders_109 (h := ⟨fun _ => ?_, fun c => absurd (Int32.le_refl _) c⟩) ..
    rw [i1N]
    exact hnext σ rfl f g gl v hx
  | succ n ih =>
    intro t m σ f g gl v ht hm hO hx hnext hfail
    have hE := oE_rg (κ := σ.1) (D := σ.2.2.2.2.1) (L := σ.2.2.2.2.2) hO.1.2.2.2.2.2.2 (by have := hO.2.2.2.2.2.1; omega) hO.2.2.2.2.2.2
    refine b_x_orders_109 (h := ⟨fun c => by simp (disch := omega) only [z_lit, z_litl, z_neg, z_negl, z_add, z_sub, z_mul, z_addl, z_subl, z_mull, z_cc, z_cl, z_cr, z_cm, z_cml, z_cmr, z_lt, z_le, z_eq, z_ltl, z_lel, z_eql, z_nat, z_i2l, z_l2i, z_div, z_sh, Int.toNat_natCast, z_ts, z_tsl] at c; omega, fun _ => ?_⟩) ..
    refine c_look (d := K + 3) (κ := σ.1) hO.1 hx.2.2.1 fun W a hW => ?_
    refine b_x_orders_124 (h := ?_) ..
    have hx1 : xO f0 g0 hh tx σ f (va_up (va_up g 37 W) 43 a) := hx.cg (fun _ _ => rfl) fun b b1 b2 => by rw [va_ne (by omega), va_ne b1]
    generalize hg1 : va_up (va_up g 37 W) 43 a = g1 at hx1
    have hW1 : ∀ w, w < 11 → g1 37 w = iI (oE σ.1 σ.2.2.2.2.1 σ.2.2.2.2.2 w) := fun w hw => by rw [← hg1]; exact hW w hw
    have e33 : g1 33 = g0 33 := hx1.2.1 33 (by omega) (by omega) (by omega) (by omega) (by omega)
    have e34 : g1 34 = g0 34 := hx1.2.1 34 (by omega) (by omega) (by omega) (by omega) (by omega)
    -- not run
    have skip : ¬ q.2.2.2.2.2 (oE σ.1 σ.2.2.2.2.1 σ.2.2.2.2.2) = some 1 → ∀ gl', WP X (K + 8) 70 (109, [some (.ref 0), none, none, some (.ref 32), some (.int (iI (σ.2.2.2.2.1 : Int))), some (.int (iI σ.2.2.2.2.2)), some (.int (iI (l.length : Int))), some (.int (iI (q.1 : Int))), some (.int (iI (q.2.1 : Int))), some (.int (iI ((t + 1 : Nat) : Int))), none, none, none], [], Wd f fl g1 gl' hh v tx) P := by
      intro hn gl'
      have es := oStep_skip (cs := lw) hn
      exact ih (t + 1) m σ f g1 gl' v (by omega) (by omega) hO hx1 (fun σ' h => hnext σ' ((oRep_s es).trans h)) fun h => hfail ((oRep_s es).trans h)
    refine c_value_A (d := K + 5) (c := c) (cv := cv) (size := size) (m := l.length) (what := 3) (o := (p_code l).length + q.2.2.1.length) (mode := 5) (C := q.2.2.2.1) (e := q.2.2.2.2.2) hE hW1 hc0 (Or.inr rfl) p2 (by omega) (by rw [e33]; exact d4) (by rw [e33]; exact d5) (by omega) (fun k x hkx => by rw [e34]; have := hcd _ x ((code_at (q := q) (r := r) (l := l)).2 hkx); rw [Nat.zero_add] at this; exact this) (fun y st hy => ?_) fun st hy => ?_
    · have hyr := (pcX_rg (Or.inr rfl) hc0 hE p2).1 y hy
      refine b_x_orders_139 (h := ?_) ..
      rw [show (1 : Int64) = lI 1 from rfl, z_cmp_eq (by omega) (by omega), i1N]
      refine ⟨fun y1 => ?_, fun y1 => skip (by rw [hy]; exact fun h => y1 (Option.some.inj h)) _⟩
      subst y1
      -- it is run
      have bad : oStep lw q σ = none → ∀ e : Int32, ¬ 0 ≤ e → ∀ f' g' gl' v', fxO f' f0 → gxO g' g0 → WP X (K + 8) 70 (210, [some (.ref 0), none, none, some (.ref 32), some (.int (iI (σ.2.2.2.2.1 : Int))), some (.int (iI σ.2.2.2.2.2)), some (.int (iI (l.length : Int))), some (.int (iI (q.1 : Int))), some (.int (iI (q.2.1 : Int))), some (.int (iI (t : Int))), none, none, none], [.int e], Wd f' fl g' gl' hh v' tx) P := by
        intro hs e he f' g' gl' v' hf hg
        exact b_x_orders_210 (h := ⟨fun c => absurd c he, fun _ => hfail (oRep_n hs) f' g' gl' v' _ _ _ _ _ _ hf hg⟩) ..
      have good : ∀ r' : (Nat → Nat) × Nat × Nat, r'.2.1 ≤ 1000 → oStep lw q σ = some (oPush σ q.1 r') → ∀ f' g' gl' v', xO f0 g0 hh tx (oPush σ q.1 r') f' g' → WP X (K + 8) 70 (210, [some (.ref 0), none, none, some (.ref 32), some (.int (iI (σ.2.2.2.2.1 : Int))), some (.int (iI σ.2.2.2.2.2)), some (.int (iI (l.length : Int))), some (.int (iI (q.1 : Int))), some (.int (iI (q.2.1 : Int))), some (.int (iI (t : Int))), none, none, none], [.int (iI (r'.2.1 : Int))], Wd f' fl g' gl' hh v' tx) P := by
        intro r' hr' hs f' g' gl' v' hx'
        have hO' := oStep_ok hO hs
        have nx := ih (t + 1) (m + 1) (oPush σ q.1 r') f' g' gl' v' (by omega) (by omega) hO' hx' (fun σ' h => hnext σ' ((oRep_s hs).trans h)) fun h => hfail ((oRep_s hs).trans h)
        have k2 : (iI (q.1 : Int) = (2 : Int32)) = (q.1 = 2) := by
          rw [show (2 : Int32) = iI 2 from rfl, z_eq (by omega) (by omega)]
          exact propext ⟨fun h => by omega, fun h => by omega⟩
        refine b_x_orders_210 (h := ?_) ..
        rw [k2, i1N, i1N]
        refine ⟨fun _ => ⟨fun n2 => ?_, fun y2 => ?_⟩, fun c => absurd (by simp (disch := omega) only [z_lit, z_litl, z_neg, z_negl, z_add, z_sub, z_mul, z_addl, z_subl, z_mull, z_cc, z_cl, z_cr, z_cm, z_cml, z_cmr, z_lt, z_le, z_eq, z_ltl, z_lel, z_eql, z_nat, z_i2l, z_l2i, z_div, z_sh, Int.toNat_natCast, z_ts, z_tsl]; omega) c⟩
        · have e : (oPush σ q.1 r').2.2.2.2.2 = σ.2.2.2.2.2 := if_neg n2
          rw [e] at nx
          exact nx
        · have e : (oPush σ q.1 r').2.2.2.2.2 = (r'.2.1 : Int) := if_pos y2
          rw [e] at nx
          exact nx
      have go : ∀ (z : Int) (gl2 : Nat → Nat → Int64), (-9223372036854775808 ≤ z ∧ z < 9223372036854775808) → (∀ r', oAct lw q.1 z σ.1 = some r' → oStep lw q σ = some (oPush σ q.1 r')) → (oAct lw q.1 z σ.1 = none → oStep lw q σ = none) → WP X (K + 8) 70 (162, [some (.ref 0), none, none, some (.ref 32), some (.int (iI (σ.2.2.2.2.1 : Int))), some (.int (iI σ.2.2.2.2.2)), some (.int (iI (l.length : Int))), some (.int (iI (q.1 : Int))), some (.int (iI (q.2.1 : Int))), some (.int (iI (t : Int))), none, none, none], [.long (lI z)], Wd f fl g1 gl2 hh v tx) P := by
        intro z gl2 hz hs1 hs0
        have rg : ∀ r' : (Nat → Nat) × Nat × Nat, oAct lw q.1 z σ.1 = some r' → r'.2.1 ≤ 1000 := fun r' hr => (oAct_ok hO.1 hr).2.2.2.2.2
        refine b_x_orders_162 (h := ?_) ..
        have hk : q.1 = 0 ∨ q.1 = 1 ∨ q.1 = 2 ∨ q.1 = 3 := by omega
        rcases hk with e | e | e | e
        · rw [e] at hs1 hs0 rg good bad ⊢
          refine ⟨fun c => absurd rfl c, fun _ => ?_⟩
          exact xo_hang (d := K + 6) (cs := lw) hO hx1 hz (fun r' hr f' g' hx' => b_x_orders_175 (h := good r' (rg r' hr) (hs1 r' hr) f' g' gl2 v hx') ..) fun hr e he => b_x_orders_175 (h := bad (hs0 hr) e he f g1 gl2 v hx1.1 hx1.2.1) ..
        · rw [e] at hs1 hs0 rg good bad ⊢
          refine ⟨fun _ => ⟨fun c => absurd rfl c, fun _ => ?_⟩, fun c => absurd c (by decide)⟩
          exact xo_take (d := K + 6) (cs := lw) (z := z) hO hx1 (fun r' hr f' g' hx' => b_x_orders_188 (h := good r' (rg r' hr) (hs1 r' hr) f' g' gl2 v hx') ..) fun hr e he => b_x_orders_188 (h := bad (hs0 hr) e he f g1 gl2 v hx1.1 hx1.2.1) ..
        · rw [e] at hs1 hs0 rg good bad ⊢
          refine ⟨fun _ => ⟨fun _ => ⟨fun c => absurd rfl c, fun _ => ?_⟩, fun c => absurd c (by decide)⟩, fun c => absurd c (by decide)⟩
          exact xo_sail (K := K + 1) (cs := lw) hO hx1 hok hF hz (fun r' hr f' g' gl' v' hx' => b_x_orders_203 (h := good r' (rg r' hr) (hs1 r' hr) f' g' gl' v' hx') ..) fun hr e he f' g' gl' v' hf hg => b_x_orders_203 (h := bad (hs0 hr) e he f' g' gl' v' hf hg) ..
        · rw [e] at hs1 hs0 rg good bad ⊢
          refine ⟨fun _ => ⟨fun _ => ⟨fun _ => ?_, fun c => absurd c (by decide)⟩, fun c => absurd c (by decide)⟩, fun c => absurd c (by decide)⟩
          exact xo_pass (d := K + 6) (cs := lw) (k := 3) (z := z) (by decide) hO hx1 (fun r' hr f' g' hx' => good r' (rg r' hr) (hs1 r' hr) f' g' gl2 v hx') fun hr e he => bad (hs0 hr) e he f g1 gl2 v hx1.1 hx1.2.1
      refine c_value_A (d := K + 5) (c := c) (cv := cv) (size := size) (m := l.length) (what := 2) (o := (p_code l).length) (mode := 2) (C := q.2.2.1) (e := q.2.2.2.2.1) hE hW1 hc0 (Or.inl rfl) p1 (by omega) (by rw [e33]; exact d3) (by rw [e33]; exact d4) (by omega) (fun k x hkx => by rw [e34]; have := hcd _ x ((code_at (q := q) (r := r) (l := l)).1 hkx); rw [Nat.zero_add] at this; exact this) (fun s st2 hs => ?_) fun st2 hs => ?_
      · have hsr := (pcX_rg (Or.inl rfl) hc0 hE p1).1 s hs
        obtain ⟨q1, q2⟩ := oStep_do (cs := lw) hy hs
        exact go s _ (by omega) q1 q2
      · have q0 := oStep_bad (cs := lw) hy hs
        have hk02 : q.1 = 0 ∨ q.1 = 2 := by
          by_cases e : q.1 = 1 ∨ q.1 = 3
          · rw [hk1 e] at hs; cases hs
          · omega
        have hno : oAct lw q.1 (-4000000000000000000) σ.1 = none := by
          unfold oAct
          rcases hk02 with e | e
          · rw [if_pos e, if_neg (by omega)]
          · rw [if_neg (by omega), if_neg (by omega), if_pos e, if_neg (by omega)]
        exact go (-4000000000000000000) _ (by omega) (fun r' hr => by rw [hno] at hr; cases hr) fun _ => q0
    · refine b_x_orders_139 (h := ⟨fun c => ?_, fun _ => ?_⟩) ..
      · have c : lg_cmp (lI (-4000000000000000000)) (lI 1) = 0 := c
        rw [z_cmp_eq (by omega) (by omega)] at c
        omega
      · rw [i1N]
        exact skip (by rw [hy]; exact fun h => by cases h) _
theorem xo_run {X : mm_X} {K : Nat} {fl : Nat → Int64} {hh : Nat → Nat → Option Nat} {tx : mm_W} {P : Option Value → mm_W → Prop} {f0 : Nat → Int32} {g0 : Nat → Nat → Int32} {lw : List pC} {κ0 : Nat → Nat} {ws : List pC} {c cv : Nat → Nat} {size : Nat} (hT : oTX c cv size ws) (hph : p_heads (g0 33) 0 0 ws) (hcd : cd (g0 34) 0 (p_code ws)) (h48 : f0 2048 = iI (ws.length : Int)) (hok : csOK lw) (hF : (κ0 59 = 0 ∧ lw = []) ∨ ∃ t o, κ0 59 = t + 1 ∧ t < κ0 58 ∧ hh 7 t = some o ∧ lwX tx o lw) :
    ∀ (r l : List pC) (σ : oS) (f : Nat → Int32) (g : Nat → Nat → Int32) (gl : Nat → Nat → Int64) (v : Nat → Value), ws = l ++ r → oOK κ0 (20 * l.length) σ → xO f0 g0 hh tx σ f g →
    (∀ σ', oRun lw r l.length σ = .inl σ' → oOK κ0 240 σ' → ∀ f' g' gl' v', xO f0 g0 hh tx σ' f' g' → P (some (.int (iI (σ'.2.2.2.2.1 : Int)))) (Wd (va_up f' 18 0) fl g' gl' hh v' tx)) →
    (∀ k, oRun lw r l.length σ = .inr k → ∀ f' g' gl' v' (l4 l5 l7 l8 l9 l12 : Int32), fxO f' f0 → gxO g' g0 → WP X (K + 7) 45 (0, [some (.ref 1), some (.ref 10), none], [], Wd f' fl g' gl' hh v' tx) (fun rv w2 => WP X (K + 8) 70 (228, [some (.ref 0), none, none, some (.ref 32), some (.int l4), some (.int l5), some (.int (iI (k : Int))), some (.int l7), some (.int l8), some (.int l9), none, none, some (.int l12)], rv.toList ++ [], w2) P)) →
    WP X (K + 8) 70 (79, [some (.ref 0), none, none, some (.ref 32), some (.int (iI (σ.2.2.2.2.1 : Int))), some (.int (iI σ.2.2.2.2.2)), some (.int (iI (l.length : Int))), none, none, none, none, none, none], [], Wd f fl g gl hh v tx) P := by
  have h12 := hT.2.2.1
  intro r
  induction r with
  | nil =>
    intro l σ f g gl v hws hO hx h1 h0
    have e : ws = l := by rw [hws, List.append_nil]
    have f48 : f 2048 = iI (l.length : Int) := (hx.1 2048 (by omega) (by omega) (by omega) (by omega)).trans (by rw [h48, e])
    refine b_x_orders_79 (h := ?_) ..
    rw [f48]
    exact ⟨fun _ => h1 σ rfl (hO.mono (by rw [← e]; omega)) f g gl v hx, fun c => absurd (Int32.le_refl _) c⟩
  | cons q r ih =>
    intro l σ f g gl v hws hO hx h1 h0
    have f48 : f 2048 = iI (ws.length : Int) := (hx.1 2048 (by omega) (by omega) (by omega) (by omega)).trans h48
    have e33 : g 33 = g0 33 := hx.2.1 33 (by omega) (by omega) (by omega) (by omega) (by omega)
    have hlen : ws.length = l.length + 1 + r.length := by rw [hws, List.length_append, List.length_cons]; omega
    have hq := hT.2.2.2.2 q (by rw [hws]; exact List.mem_append_right _ (List.mem_cons_self ..))
    have hph' := hph
    rw [hws] at hph'
    obtain ⟨d1, d2, -⟩ := heads_at l 0 0 hph'
    simp only [Nat.zero_add] at d1 d2
    have i0 : iI (l.length : Int) * (5 : Int32) + (0 : Int32) = iI ((5 * l.length : Nat) : Int) := by simp (disch := omega) only [z_lit, z_litl, z_neg, z_negl, z_add, z_sub, z_mul, z_addl, z_subl, z_mull, z_cc, z_cl, z_cr, z_cm, z_cml, z_cmr, z_lt, z_le, z_eq, z_ltl, z_lel, z_eql, z_nat, z_i2l, z_l2i, z_div, z_sh, Int.toNat_natCast, z_ts, z_tsl]; congr 1; omega
    have i1 : iI (l.length : Int) * (5 : Int32) + (1 : Int32) = iI ((5 * l.length + 1 : Nat) : Int) := by simp (disch := omega) only [z_lit, z_litl, z_neg, z_negl, z_add, z_sub, z_mul, z_addl, z_subl, z_mull, z_cc, z_cl, z_cr, z_cm, z_cml, z_cmr, z_lt, z_le, z_eq, z_ltl, z_lel, z_eql, z_nat, z_i2l, z_l2i, z_div, z_sh, Int.toNat_natCast, z_ts, z_tsl]; congr 1; omega
    have t0 : (iI ((5 * l.length : Nat) : Int)).toNatClampNeg = 5 * l.length := by rw [z_nat (by omega)]; omega
    have t1 : (iI ((5 * l.length + 1 : Nat) : Int)).toNatClampNeg = 5 * l.length + 1 := by rw [z_nat (by omega)]; omega
    refine b_x_orders_79 (h := ?_) ..
    rw [f48, i0, i1, t0, t1, e33, d1, d2]
    refine ⟨fun c => by simp (disch := omega) only [z_lit, z_litl, z_neg, z_negl, z_add, z_sub, z_mul, z_addl, z_subl, z_mull, z_cc, z_cl, z_cr, z_cm, z_cml, z_cmr, z_lt, z_le, z_eq, z_ltl, z_lel, z_eql, z_nat, z_i2l, z_l2i, z_div, z_sh, Int.toNat_natCast, z_ts, z_tsl] at c; omega, fun _ => ⟨fun c => by simp (disch := omega) only [z_lit, z_litl, z_neg, z_negl, z_add, z_sub, z_mul, z_addl, z_subl, z_mull, z_cc, z_cl, z_cr, z_cm, z_cml, z_cmr, z_lt, z_le, z_eq, z_ltl, z_lel, z_eql, z_nat, z_i2l, z_l2i, z_div, z_sh, Int.toNat_natCast, z_ts, z_tsl] at c; omega, fun _ => ⟨fun c => by simp (disch := omega) only [z_lit, z_litl, z_neg, z_negl, z_add, z_sub, z_mul, z_addl, z_subl, z_mull, z_cc, z_cl, z_cr, z_cm, z_cml, z_cmr, z_lt, z_le, z_eq, z_ltl, z_lel, z_eql, z_nat, z_i2l, z_l2i, z_div, z_sh, Int.toNat_natCast, z_ts, z_tsl] at c; omega, fun _ => ⟨by simp (disch := omega) only [z_lit, z_litl, z_neg, z_negl, z_add, z_sub, z_mul, z_addl, z_subl, z_mull, z_cc, z_cl, z_cr, z_cm, z_cml, z_cmr, z_lt, z_le, z_eq, z_ltl, z_lel, z_eql, z_nat, z_i2l, z_l2i, z_div, z_sh, Int.toNat_natCast, z_ts, z_tsl]; omega, fun c => by simp (disch := omega) only [z_lit, z_litl, z_neg, z_negl, z_add, z_sub, z_mul, z_addl, z_subl, z_mull, z_cc, z_cl, z_cr, z_cm, z_cml, z_cmr, z_lt, z_le, z_eq, z_ltl, z_lel, z_eql, z_nat, z_i2l, z_l2i, z_div, z_sh, Int.toNat_natCast, z_ts, z_tsl] at c; omega, fun _ => ⟨fun c => by simp (disch := omega) only [z_lit, z_litl, z_neg, z_negl, z_add, z_sub, z_mul, z_addl, z_subl, z_mull, z_cc, z_cl, z_cr, z_cm, z_cml, z_cmr, z_lt, z_le, z_eq, z_ltl, z_lel, z_eql, z_nat, z_i2l, z_l2i, z_div, z_sh, Int.toNat_natCast, z_ts, z_tsl] at c; omega, fun _ => ⟨by simp (disch := omega) only [z_lit, z_litl, z_neg, z_negl, z_add, z_sub, z_mul, z_addl, z_subl, z_mull, z_cc, z_cl, z_cr, z_cm, z_cml, z_cmr, z_lt, z_le, z_eq, z_ltl, z_lel, z_eql, z_nat, z_i2l, z_l2i, z_div, z_sh, Int.toNat_natCast, z_ts, z_tsl]; omega, ?_⟩⟩⟩⟩⟩⟩
    refine xo_rep (K := K) (κ0 := κ0) hws hT hph hcd hok hF q.2.1 0 (20 * l.length) σ f g gl v (by omega) (by omega) hO hx (fun σ' hs f' g' gl' v' hx' => ?_) fun hs f' g' gl' v' l4 l5 l7 l8 l9 l12 hf hg => ?_
    · have er : oRun lw (q :: r) l.length σ = oRun lw r (l.length + 1) σ' := by
        show (match oRep lw q q.2.1 σ with | none => Sum.inr l.length | some σ' => oRun lw r (l.length + 1) σ') = _
        rw [hs]
      have el : (l ++ [q]).length = l.length + 1 := by rw [List.length_append]; rfl
      have nx := ih (l ++ [q]) σ' f' g' gl' v' (by rw [hws, List.append_assoc]; rfl) ((oRep_ok _ _ hO hs).mono (by rw [el]; omega)) hx'
      rw [el] at nx
      exact nx (fun σ2 h2 => h1 σ2 (er.trans h2)) fun k h2 => h0 k (er.trans h2)
    · refine h0 l.length ?_ f' g' gl' v' l4 l5 l7 l8 l9 l12 hf hg
      show (match oRep lw q q.2.1 σ with | none => Sum.inr l.length | some σ' => oRun lw r (l.length + 1) σ') = _
      rw [hs]
