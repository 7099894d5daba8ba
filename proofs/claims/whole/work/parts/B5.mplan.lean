/-! plans: the reference -/
def fM (f' f : Nat → Int32) : Prop := ∀ a, (a < 4758 ∨ 4761 < a) → f' a = f a
def gM (g' g : Nat → Nat → Int32) : Prop := ∀ a, a ≠ 86 → a ≠ 87 → a ≠ 91 → a ≠ 92 → g' a = g a
theorem dmJ {k J : Nat} (hJ : 0 < J) (hk : k < 2147483648) (hJ2 : J < 2147483648) : iI (k : Int) / iI (J : Int) = iI ((k / J : Nat) : Int) ∧ iI (k : Int) - iI ((k / J : Nat) : Int) * iI (J : Int) = iI ((k % J : Nat) : Int) := by
  refine ⟨by rw [z_div (by omega) (by omega), Int.natCast_ediv], ?_⟩
  rw [z_mul, z_sub]
  congr 1
  have h2 : (k : Int) = ((k / J : Nat) : Int) * (J : Int) + ((k % J : Nat) : Int) := by
    rw [← Int.natCast_mul, ← Int.natCast_add, Nat.mul_comm, Nat.div_add_mod]
  omega
theorem c_m_laysPlan {X : mm_X} {f : Nat → Int32} {fl : Nat → Int64} {g : Nat → Nat → Int32} {gl : Nat → Nat → Int64} {hh : Nat → Nat → Option Nat} {v : Nat → Value} {tx : mm_W} {P : Option Value → mm_W → Prop} {κ : Nat → Nat} {cs : List pC} {p ce K : Nat} {E : Nat → Nat} (hK : 64 ≤ K) (hm : ms (g 76) κ) (hwS : wS κ) (hwL : wL κ) (hwH : wH κ) (hwT : wT κ) (hB : wB κ) (hR : rfX κ (κ 59) cs) (hok : csOK cs) (hp : p < 3) (hce : ce < 25) (hE : isDs (RlP (plN κ cs p) (plL κ) (κ 55) ce) E)
    (h : ∀ (f' : Nat → Int32) (g' : Nat → Nat → Int32), fM f' f → gM g' g → (∀ s m, s < 1000 → m < 6 → g' 91 (6 * s + m) = iI (stB κ cs p s m : Nat)) → (∀ s, s < 1000 → g' 92 s = iI (E s : Int)) → P none (Wd f' fl g' gl hh v tx)) :
    WP X (K + 14) 214 (0, [some (.ref 74), some (.int (iI (p : Int))), some (.int (iI (ce : Int))), none, none, none, none], [], Wd f fl g gl hh v tx) P := by
  have b55 := hwS.1
  have hN : NLok (plN κ cs p) (plL κ) (κ 55) := ⟨fun x j hx => stB_lt hx, fun j hj => ⟨(hwS.2.1 j hj).1, (hwS.2.1 j hj).2.1⟩⟩
  -- rounds
  have rounds : ∀ b (F : Nat → Nat) (q : Nat) (f' : Nat → Int32) (g' : Nat → Nat → Int32), sumF F 1000 < b → fM f' f → gM g' g → (∀ s m, s < 1000 → m < 6 → g' 91 (6 * s + m) = iI (stB κ cs p s m : Nat)) → (∀ s, s < 1000 → g' 92 s = iI (F s : Int)) → (∀ x, x < 1000 → F x ≤ 1000000 ∧ (F x < 1000000 → RlP (plN κ cs p) (plL κ) (κ 55) ce x (F x)) ∧ (x / 40 = ce → F x = 0)) → (q = 0 ∧ (∀ x j, x < 1000 → j < κ 55 → F x ≤ F (plN κ cs p x j) + plL κ j) ∨ q = 1) →
      WP X (K + 14) 214 (75, [some (.ref 74), none, none, some (.int (iI (q : Int))), none, none, none], [], Wd f' fl g' gl hh v tx) P := by
    intro b
    induction b with
    | zero => intro F q f' g' hb; exact absurd hb (Nat.not_lt_zero _)
    | succ b ihb =>
      intro F0 q f0 g0 hb hf hg hrow hF0 hv0 hq
      have q0 : (iI (q : Int) = (0 : Int32)) = (q = 0) := by
        have : q ≤ 1 := by rcases hq with ⟨e, -⟩ | e <;> omega
        rw [show (0 : Int32) = iI 0 from rfl, z_eq (by omega) (by omega)]
        exact propext ⟨fun a => by omega, fun a => by omega⟩
      refine b_m_laysPlan_75 (h := ?_) ..
      rw [q0]
      have fin : ∀ g' : Nat → Nat → Int32, gM g' g → (∀ s m, s < 1000 → m < 6 → g' 91 (6 * s + m) = iI (stB κ cs p s m : Nat)) → (∀ s, s < 1000 → g' 92 s = iI (F0 s : Int)) → (∀ x j, x < 1000 → j < κ 55 → F0 x ≤ F0 (plN κ cs p x j) + plL κ j) → P none (Wd f0 fl g' gl hh v tx) := fun g' hg' hrow' hF' hc => by
        have e := fixE hN hE hv0 hc
        exact h f0 g' hf hg' hrow' fun s hs => by rw [hF' s hs, e s hs]
      refine ⟨fun e => ?_, fun e => ?_⟩
      · rcases hq with ⟨-, hc⟩ | e1
        · exact fin g0 hg hrow hF0 hc
        · omega
      · have inner : ∀ w k : Nat, ∀ (F : Nat → Nat) (q : Nat) (g' : Nat → Nat → Int32), w + k = 1000 * κ 55 → gM g' g → (∀ s m, s < 1000 → m < 6 → g' 91 (6 * s + m) = iI (stB κ cs p s m : Nat)) → (∀ s, s < 1000 → g' 92 s = iI (F s : Int)) → (∀ x, x < 1000 → F x ≤ 1000000 ∧ (F x < 1000000 → RlP (plN κ cs p) (plL κ) (κ 55) ce x (F x)) ∧ (x / 40 = ce → F x = 0)) → (∀ x, F x ≤ F0 x) → (q = 0 ∧ F = F0 ∧ (∀ k', k' < k → F0 (k' / κ 55) ≤ F0 (plN κ cs p (k' / κ 55) (k' % κ 55)) + plL κ (k' % κ 55)) ∨ q = 1 ∧ sumF F 1000 < sumF F0 1000) →
            WP X (K + 14) 214 (84, [some (.ref 74), none, none, some (.int (iI (q : Int))), some (.int (iI (k : Int))), none, none], [], Wd f0 fl g' gl hh v tx) P := by
          intro w
          induction w with
          | zero =>
            intro k F q g' hw hg' hrow' hF hv hle hd
            have e55 : g' 76 55 = iI (κ 55 : Int) := by rw [hg' 76 (by decide) (by decide) (by decide) (by decide)]; exact hm.1 55 (by decide)
            have ek : (1000 : Int32) * iI (κ 55 : Int) = iI ((1000 * κ 55 : Nat) : Int) := by rw [show (1000 : Int32) = iI 1000 from rfl, z_mul]; congr 1
            refine b_m_laysPlan_84 (d := K + 12) (h := ?_) ..
            rw [e55, ek]
            refine ⟨fun _ => ?_, fun c => by simp (disch := omega) only [z_lit, z_litl, z_neg, z_negl, z_add, z_sub, z_mul, z_addl, z_subl, z_mull, z_cc, z_cl, z_cr, z_cm, z_cml, z_cmr, z_lt, z_le, z_eq, z_ltl, z_lel, z_eql, z_nat, z_i2l, z_l2i, z_div, z_sh, Int.toNat_natCast, z_ts, z_tsl] at c; omega⟩
            rcases hd with ⟨e0, e1, e2⟩ | ⟨e0, e1⟩
            · subst e0
              subst e1
              refine b_m_laysPlan_75 (h := ⟨fun _ => fin g' hg' hrow' hF fun x j hx hj => ?_, fun c => absurd rfl c⟩) ..
              have hlt : κ 55 * x + j < k := by
                have h1 : κ 55 * x + κ 55 ≤ κ 55 * 1000 := by
                  rw [← Nat.mul_succ]
                  exact Nat.mul_le_mul_left _ (by omega)
                rw [Nat.mul_comm (κ 55) 1000] at h1
                omega
              have := e2 _ hlt
              rw [Nat.mul_add_div (by omega), Nat.mul_add_mod, Nat.div_eq_of_lt hj, Nat.mod_eq_of_lt hj, Nat.add_zero] at this
              exact this
            · subst e0
              exact ihb F 1 f0 g' (by omega) hf hg' hrow' hF hv (Or.inr rfl)
          | succ w ihw =>
            intro k F q g' hw hg' hrow' hF hv hle hd
            have hJ : 0 < κ 55 := by
              by_cases c : κ 55 = 0
              · rw [c] at hw; omega
              · omega
            have hm' : ms (g' 76) κ := by rw [hg' 76 (by decide) (by decide) (by decide) (by decide)]; exact hm
            have e55 : g' 76 55 = iI (κ 55 : Int) := hm'.1 55 (by decide)
            have ek : (1000 : Int32) * iI (κ 55 : Int) = iI ((1000 * κ 55 : Nat) : Int) := by rw [show (1000 : Int32) = iI 1000 from rfl, z_mul]; congr 1
            obtain ⟨d1, d2⟩ := dmJ (k := k) hJ (by omega) (by omega)
            have hs : k / κ 55 < 1000 := Nat.div_lt_of_lt_mul (by rw [Nat.mul_comm]; omega)
            have hj : k % κ 55 < κ 55 := Nat.mod_lt _ hJ
            generalize hss : k / κ 55 = s at d1 d2 hs
            generalize hjj : k % κ 55 = j at d2 hj
            have h5 := (hwS.2.1 j hj).2.2.1
            have hl := hwS.2.1 j hj
            have e39 := hm'.1 (39 + j) (by omega)
            have e31 := hm'.1 (31 + j) (by omega)
            have t39 : ((39 : Int32) + iI (j : Int)).toNatClampNeg = 39 + j := by simp (disch := omega) only [z_lit, z_litl, z_neg, z_negl, z_add, z_sub, z_mul, z_addl, z_subl, z_mull, z_cc, z_cl, z_cr, z_cm, z_cml, z_cmr, z_lt, z_le, z_eq, z_ltl, z_lel, z_eql, z_nat, z_i2l, z_l2i, z_div, z_sh, Int.toNat_natCast, z_ts, z_tsl]
            have t31 : ((31 : Int32) + iI (j : Int)).toNatClampNeg = 31 + j := by simp (disch := omega) only [z_lit, z_litl, z_neg, z_negl, z_add, z_sub, z_mul, z_addl, z_subl, z_mull, z_cc, z_cl, z_cr, z_cm, z_cml, z_cmr, z_lt, z_le, z_eq, z_ltl, z_lel, z_eql, z_nat, z_i2l, z_l2i, z_div, z_sh, Int.toNat_natCast, z_ts, z_tsl]
            have o39 : ¬ ((39 : Int32) + iI (j : Int) < 0 ∨ 5667 ≤ 39 + j) := by simp (disch := omega) only [z_lit, z_litl, z_neg, z_negl, z_add, z_sub, z_mul, z_addl, z_subl, z_mull, z_cc, z_cl, z_cr, z_cm, z_cml, z_cmr, z_lt, z_le, z_eq, z_ltl, z_lel, z_eql, z_nat, z_i2l, z_l2i, z_div, z_sh, Int.toNat_natCast, z_ts, z_tsl]; omega
            have o31 : ¬ ((31 : Int32) + iI (j : Int) < 0 ∨ 5667 ≤ 31 + j) := by simp (disch := omega) only [z_lit, z_litl, z_neg, z_negl, z_add, z_sub, z_mul, z_addl, z_subl, z_mull, z_cc, z_cl, z_cr, z_cm, z_cml, z_cmr, z_lt, z_le, z_eq, z_ltl, z_lel, z_eql, z_nat, z_i2l, z_l2i, z_div, z_sh, Int.toNat_natCast, z_ts, z_tsl]; omega
            have e6 : (6 : Int32) * iI (s : Int) + iI (κ (39 + j) : Int) = iI ((6 * s + κ (39 + j) : Nat) : Int) := by rw [show (6 : Int32) = iI 6 from rfl, z_mul, z_add]; congr 1
            have t6 : (iI ((6 * s + κ (39 + j) : Nat) : Int)).toNatClampNeg = 6 * s + κ (39 + j) := by rw [z_nat (by omega)]; omega
            have o6 : ¬ (iI ((6 * s + κ (39 + j) : Nat) : Int) < 0 ∨ 6000 ≤ 6 * s + κ (39 + j)) := by simp (disch := omega) only [z_lit, z_litl, z_neg, z_negl, z_add, z_sub, z_mul, z_addl, z_subl, z_mull, z_cc, z_cl, z_cr, z_cm, z_cml, z_cmr, z_lt, z_le, z_eq, z_ltl, z_lel, z_eql, z_nat, z_i2l, z_l2i, z_div, z_sh, Int.toNat_natCast, z_ts, z_tsl]; omega
            have e91 := hrow' s (κ (39 + j)) hs (by omega)
            have hyl : stB κ cs p s (κ (39 + j)) < 1000 := stB_lt hs
            have eN : plN κ cs p s j = stB κ cs p s (κ (39 + j)) := rfl
            have skip : F s ≤ F (stB κ cs p s (κ (39 + j))) + κ (31 + j) → WP X (K + 14) 214 (84, [some (.ref 74), none, none, some (.int (iI (q : Int))), some (.int (iI ((k + 1 : Nat) : Int))), none, none], [], Wd f0 fl g' gl hh v tx) P := by
              intro hc
              refine ihw (k + 1) F q g' (by omega) hg' hrow' hF hv hle ?_
              rcases hd with ⟨e0, e1, e2⟩ | hd
              · refine Or.inl ⟨e0, e1, fun k' hk' => ?_⟩
                by_cases e : k' = k
                · rw [e, hss, hjj]
                  rw [e1] at hc
                  exact hc
                · exact e2 k' (by omega)
              · exact Or.inr hd
            have hvs := hv s hs
            have hstep : F (stB κ cs p s (κ (39 + j))) < 1000000 → RlP (plN κ cs p) (plL κ) (κ 55) ce s (F (stB κ cs p s (κ (39 + j))) + κ (31 + j)) := fun hlt => RlP.s (x := s) hj ((hv _ hyl).2.1 hlt)
            have hvy := (hv _ hyl).1
            generalize stB κ cs p s (κ (39 + j)) = y at e91 hyl skip hstep hvy
            have ty : (iI (y : Int)).toNatClampNeg = y := by rw [z_nat (by omega)]; omega
            have ts : (iI (s : Int)).toNatClampNeg = s := by rw [z_nat (by omega)]; omega
            have os : ¬ (iI (s : Int) < 0 ∨ 1000 ≤ s) := by simp (disch := omega) only [z_lit, z_litl, z_neg, z_negl, z_add, z_sub, z_mul, z_addl, z_subl, z_mull, z_cc, z_cl, z_cr, z_cm, z_cml, z_cmr, z_lt, z_le, z_eq, z_ltl, z_lel, z_eql, z_nat, z_i2l, z_l2i, z_div, z_sh, Int.toNat_natCast, z_ts, z_tsl]; omega
            refine b_m_laysPlan_84 (d := K + 12) (h := ?_) ..
            rw [e55, ek, d1, d2, t39, e39, e6, t6, e91, ty, t31, e31, ts, hF y hyl, hF s hs, i1N, z_add]
            refine ⟨fun c => by simp (disch := omega) only [z_lit, z_litl, z_neg, z_negl, z_add, z_sub, z_mul, z_addl, z_subl, z_mull, z_cc, z_cl, z_cr, z_cm, z_cml, z_cmr, z_lt, z_le, z_eq, z_ltl, z_lel, z_eql, z_nat, z_i2l, z_l2i, z_div, z_sh, Int.toNat_natCast, z_ts, z_tsl] at c; omega, fun _ => ⟨by simp (disch := omega) only [z_lit, z_litl, z_neg, z_negl, z_add, z_sub, z_mul, z_addl, z_subl, z_mull, z_cc, z_cl, z_cr, z_cm, z_cml, z_cmr, z_lt, z_le, z_eq, z_ltl, z_lel, z_eql, z_nat, z_i2l, z_l2i, z_div, z_sh, Int.toNat_natCast, z_ts, z_tsl]; omega, by simp (disch := omega) only [z_lit, z_litl, z_neg, z_negl, z_add, z_sub, z_mul, z_addl, z_subl, z_mull, z_cc, z_cl, z_cr, z_cm, z_cml, z_cmr, z_lt, z_le, z_eq, z_ltl, z_lel, z_eql, z_nat, z_i2l, z_l2i, z_div, z_sh, Int.toNat_natCast, z_ts, z_tsl]; omega, o39, o6, by simp (disch := omega) only [z_lit, z_litl, z_neg, z_negl, z_add, z_sub, z_mul, z_addl, z_subl, z_mull, z_cc, z_cl, z_cr, z_cm, z_cml, z_cmr, z_lt, z_le, z_eq, z_ltl, z_lel, z_eql, z_nat, z_i2l, z_l2i, z_div, z_sh, Int.toNat_natCast, z_ts, z_tsl]; omega, o31, fun c => ⟨os, fun c2 => ⟨os, ?_⟩, fun c2 => skip (by simp (disch := omega) only [z_lit, z_litl, z_neg, z_negl, z_add, z_sub, z_mul, z_addl, z_subl, z_mull, z_cc, z_cl, z_cr, z_cm, z_cml, z_cmr, z_lt, z_le, z_eq, z_ltl, z_lel, z_eql, z_nat, z_i2l, z_l2i, z_div, z_sh, Int.toNat_natCast, z_ts, z_tsl] at c2; omega)⟩, fun c => ⟨os, fun c2 => by simp (disch := omega) only [z_lit, z_litl, z_neg, z_negl, z_add, z_sub, z_mul, z_addl, z_subl, z_mull, z_cc, z_cl, z_cr, z_cm, z_cml, z_cmr, z_lt, z_le, z_eq, z_ltl, z_lel, z_eql, z_nat, z_i2l, z_l2i, z_div, z_sh, Int.toNat_natCast, z_ts, z_tsl] at c2; omega, fun _ => skip (by simp (disch := omega) only [z_lit, z_litl, z_neg, z_negl, z_add, z_sub, z_mul, z_addl, z_subl, z_mull, z_cc, z_cl, z_cr, z_cm, z_cml, z_cmr, z_lt, z_le, z_eq, z_ltl, z_lel, z_eql, z_nat, z_i2l, z_l2i, z_div, z_sh, Int.toNat_natCast, z_ts, z_tsl] at c; omega)⟩⟩⟩
            have c2 : F y + κ (31 + j) < F s := by simp (disch := omega) only [z_lit, z_litl, z_neg, z_negl, z_add, z_sub, z_mul, z_addl, z_subl, z_mull, z_cc, z_cl, z_cr, z_cm, z_cml, z_cmr, z_lt, z_le, z_eq, z_ltl, z_lel, z_eql, z_nat, z_i2l, z_l2i, z_div, z_sh, Int.toNat_natCast, z_ts, z_tsl] at c2; omega
            have ec : iI ((F y : Int) + (κ (31 + j) : Int)) = iI ((F y + κ (31 + j) : Nat) : Int) := by congr 1
            rw [ec]
            have hF' : ∀ x, (if x = s then F y + κ (31 + j) else F x) ≤ F x := fun x => by
              by_cases e : x = s
              · rw [if_pos e, e]; omega
              · rw [if_neg e]; exact Nat.le_refl _
            refine ihw (k + 1) (fun x => if x = s then F y + κ (31 + j) else F x) 1 _ (by omega) (fun a h1 h2 h3 h4 => (va_ne h4).trans (hg' a h1 h2 h3 h4)) (fun s' m hs' hm6 => hrow' s' m hs' hm6) (fun x hx => ?_) (fun x hx => ?_) (fun x => Nat.le_trans (hF' x) (hle x)) (Or.inr ⟨rfl, ?_⟩)
            · rw [va_s]
              by_cases e : x = s
              · rw [e, upd_s, if_pos rfl]
              · rw [upd_ne e, if_neg e]; exact hF x hx
            · by_cases e : x = s
              · rw [e, if_pos rfl]
                refine ⟨by omega, fun _ => hstep (by omega), fun e2 => ?_⟩
                have := hvs.2.2 e2
                omega
              · rw [if_neg e]; exact hv x hx
            · refine Nat.lt_of_lt_of_le (sumF_lt (z := s) ?_ 1000 (fun i _ => hF' i) hs) (sumF_le 1000 fun i _ => hle i)
              rw [if_pos rfl]
              exact c2
        exact inner (1000 * κ 55) 0 F0 0 g0 rfl hg hrow hF0 hv0 (fun _ => Nat.le_refl _) (Or.inl ⟨rfl, rfl, fun k' hk' => absurd hk' (Nat.not_lt_zero _)⟩)
  -- all states
  have states : ∀ u s : Nat, ∀ (f' : Nat → Int32) (g' : Nat → Nat → Int32), u + s = 1000 → fM f' f → gM g' g → (∀ s' m, s' < s → m < 6 → g' 91 (6 * s' + m) = iI (stB κ cs p s' m : Nat)) → (∀ s', s' < s → g' 92 s' = iI (if s' / 40 = ce then 0 else 1000000)) →
      WP X (K + 14) 214 (2, [some (.ref 74), some (.int (iI (p : Int))), some (.int (iI (ce : Int))), some (.int (iI (s : Int))), none, none, none], [], Wd f' fl g' gl hh v tx) P := by
    intro u
    induction u with
    | zero =>
      intro s f' g' hu hf hg hrow hF
      have hu : s = 1000 := by omega
      subst hu
      refine b_m_laysPlan_2 (h := ⟨fun _ => ?_, fun c => absurd (by decide) c⟩) ..
      refine rounds (sumF (fun x => if x / 40 = ce then 0 else 1000000) 1000 + 1) (fun x => if x / 40 = ce then 0 else 1000000) 1 f' g' (by omega) hf hg hrow (fun s hs => ?_) (fun x hx => ?_) (Or.inr rfl)
      · rw [hF s hs]
        congr 1
        by_cases c : s / 40 = ce
        · rw [if_pos c, if_pos c]; rfl
        · rw [if_neg c, if_neg c]; rfl
      · by_cases c : x / 40 = ce
        · rw [if_pos c]
          exact ⟨by omega, fun _ => RlP.z c, fun _ => rfl⟩
        · rw [if_neg c]
          exact ⟨Nat.le_refl _, fun e => by omega, fun e => absurd e c⟩
    | succ u ihu =>
      intro s f' g' hu hf hg hrow hF
      have hs : s < 1000 := by omega
      have ts : (iI (s : Int)).toNatClampNeg = s := by rw [z_nat (by omega)]; omega
      have os : ¬ (iI (s : Int) < 0 ∨ 1000 ≤ s) := by simp (disch := omega) only [z_lit, z_litl, z_neg, z_negl, z_add, z_sub, z_mul, z_addl, z_subl, z_mull, z_cc, z_cl, z_cr, z_cm, z_cml, z_cmr, z_lt, z_le, z_eq, z_ltl, z_lel, z_eql, z_nat, z_i2l, z_l2i, z_div, z_sh, Int.toNat_natCast, z_ts, z_tsl]; omega
      have e40 : iI (s : Int) / (10 : Int32) / (4 : Int32) = iI ((s / 40 : Nat) : Int) := (st_40 hs).2.1
      have means : ∀ w m : Nat, ∀ (f1 : Nat → Int32) (g1 : Nat → Nat → Int32), w + m = 6 → fM f1 f → gM g1 g → (∀ s' m, s' < s → m < 6 → g1 91 (6 * s' + m) = iI (stB κ cs p s' m : Nat)) → (∀ m', m' < m → g1 91 (6 * s + m') = iI (stB κ cs p s m' : Nat)) → (∀ s', s' < s + 1 → g1 92 s' = iI (if s' / 40 = ce then 0 else 1000000)) →
          WP X (K + 14) 214 (34, [some (.ref 74), some (.int (iI (p : Int))), some (.int (iI (ce : Int))), some (.int (iI (s : Int))), some (.int (iI (m : Int))), none, none], [], Wd f1 fl g1 gl hh v tx) P := by
        intro w
        induction w with
        | zero =>
          intro m f1 g1 hw hf1 hg1 hr1 hr2 hF1
          have hw : m = 6 := by omega
          subst hw
          refine b_m_laysPlan_34 (d := K + 13) (h := ⟨fun _ => ?_, fun c => absurd (by decide) c⟩) ..
          rw [i1N]
          refine ihu (s + 1) f1 g1 (by omega) hf1 hg1 (fun s' m hs' hm6 => ?_) hF1
          by_cases e : s' = s
          · subst e; exact hr2 m hm6
          · exact hr1 s' m (by omega) hm6
        | succ w ihw =>
          intro m f1 g1 hw hf1 hg1 hr1 hr2 hF1
          have hm6 : m < 6 := by omega
          have e6 : (6 : Int32) * iI (s : Int) + iI (m : Int) = iI ((6 * s + m : Nat) : Int) := by rw [show (6 : Int32) = iI 6 from rfl, z_mul, z_add]; congr 1
          have t6 : (iI ((6 * s + m : Nat) : Int)).toNatClampNeg = 6 * s + m := by rw [z_nat (by omega)]; omega
          have o6 : ¬ (iI ((6 * s + m : Nat) : Int) < 0 ∨ 6000 ≤ 6 * s + m) := by simp (disch := omega) only [z_lit, z_litl, z_neg, z_negl, z_add, z_sub, z_mul, z_addl, z_subl, z_mull, z_cc, z_cl, z_cr, z_cm, z_cml, z_cmr, z_lt, z_le, z_eq, z_ltl, z_lel, z_eql, z_nat, z_i2l, z_l2i, z_div, z_sh, Int.toNat_natCast, z_ts, z_tsl]; omega
          refine b_m_laysPlan_34 (d := K + 13) (h := ⟨fun c => by simp (disch := omega) only [z_lit, z_litl, z_neg, z_negl, z_add, z_sub, z_mul, z_addl, z_subl, z_mull, z_cc, z_cl, z_cr, z_cm, z_cml, z_cmr, z_lt, z_le, z_eq, z_ltl, z_lel, z_eql, z_nat, z_i2l, z_l2i, z_div, z_sh, Int.toNat_natCast, z_ts, z_tsl] at c; omega, fun _ => ?_⟩) ..
          rw [e6]
          refine c_m_stateBehind (K := K) (κ := κ) (cs := cs) hK (by rw [hg1 76 (by decide) (by decide) (by decide) (by decide)]; exact hm) hwS hwL hwH hwT hB hR hok hp hs (by omega) fun x y z u' A a => ?_
          refine b_m_laysPlan_60 (h := ?_) ..
          rw [t6, i1N]
          refine ⟨o6, ?_⟩
          refine ihw (m + 1) _ _ (by omega) (fun b hb => ?_) (fun b h1 h2 h3 h4 => ?_) (fun s' m' hs' hm' => ?_) (fun m' hm' => ?_) (fun s' hs' => hF1 s' hs')
          · rw [va_ne (by omega), va_ne (by omega), va_ne (by omega), va_ne (by omega)]; exact hf1 b hb
          · rw [va_ne h3, va_ne h2, va_ne h1]; exact hg1 b h1 h2 h3 h4
          · show upd (g1 91) (6 * s + m) _ (6 * s' + m') = _
            rw [upd_ne (by omega)]
            exact hr1 s' m' hs' hm'
          · show upd (g1 91) (6 * s + m) _ (6 * s + m') = _
            by_cases e : m' = m
            · rw [e, upd_s]
            · rw [upd_ne (by omega)]
              exact hr2 m' (by omega)
      have go : ∀ y : Int32, y = iI (if s / 40 = ce then 0 else 1000000) → WP X (K + 14) 214 (34, [some (.ref 74), some (.int (iI (p : Int))), some (.int (iI (ce : Int))), some (.int (iI (s : Int))), some (.int 0), none, none], [], Wd f' fl (va_up g' 92 (upd (g' 92) s y)) gl hh v tx) P := by
        intro y hy
        refine means 6 0 f' _ rfl hf (fun b h1 h2 h3 h4 => (va_ne h4).trans (hg b h1 h2 h3 h4)) (fun s' m hs' hm6 => hrow s' m hs' hm6) (fun m' hm' => absurd hm' (Nat.not_lt_zero _)) fun s' hs' => ?_
        rw [va_s]
        by_cases e : s' = s
        · rw [e, upd_s]; exact hy
        · rw [upd_ne e]; exact hF s' (by omega)
      refine b_m_laysPlan_2 (h := ?_) ..
      rw [e40, ts, z_eq (by omega) (by omega)]
      refine ⟨fun c => by simp (disch := omega) only [z_lit, z_litl, z_neg, z_negl, z_add, z_sub, z_mul, z_addl, z_subl, z_mull, z_cc, z_cl, z_cr, z_cm, z_cml, z_cmr, z_lt, z_le, z_eq, z_ltl, z_lel, z_eql, z_nat, z_i2l, z_l2i, z_div, z_sh, Int.toNat_natCast, z_ts, z_tsl] at c; omega, fun _ => ⟨fun c => ⟨os, go _ ?_⟩, fun c => ⟨os, go _ ?_⟩⟩⟩
      · rw [if_neg (by omega)]; rfl
      · rw [if_pos (by omega)]; rfl
  refine b_m_laysPlan_0 (h := ?_) ..
  exact states 1000 0 f g rfl (fun _ _ => rfl) (fun _ _ _ _ _ => rfl) (fun s' m hs' => absurd hs' (Nat.not_lt_zero _)) fun s' hs' => absurd hs' (Nat.not_lt_zero _)
theorem c_m_plan {X : mm_X} {f : Nat → Int32} {fl : Nat → Int64} {g : Nat → Nat → Int32} {gl : Nat → Nat → Int64} {hh : Nat → Nat → Option Nat} {v : Nat → Value} {tx : mm_W} {P : Option Value → mm_W → Prop} {κ : Nat → Nat} {cs : List pC} {p ce K : Nat} {i : Int} {E : Nat → Nat} (hK : 64 ≤ K) (hm : ms (g 76) κ) (hwS : wS κ) (hwL : wL κ) (hwH : wH κ) (hwT : wT κ) (hB : wB κ) (hR : rfX κ (κ 59) cs) (hok : csOK cs) (hp : p < κ 56) (hce : ce < 25) (hi : -1 ≤ i ∧ i < 2147483648) (hE : isDs (RlP (plN κ cs p) (plL κ) (κ 55) ce) E)
    (h : ∀ (f' : Nat → Int32) (g' : Nat → Nat → Int32) (r : Int), fM f' f → gM g' g → (E (spot κ p) = 1000000 ∧ r = -1 ∨ E (spot κ p) < 1000000 ∧ (i = -1 ∧ r = E (spot κ p) ∨ 0 ≤ i ∧ pthR (plN κ cs p) (plL κ) (κ 55) E i.toNat (spot κ p) r)) → P (some (.int (iI r))) (Wd f' fl g' gl hh v tx)) :
    WP X (K + 15) 215 (0, [some (.ref 74), some (.int (iI (p : Int))), some (.int (iI (ce : Int))), some (.int (iI i)), none, none, none], [], Wd f fl g gl hh v tx) P := by
  have b55 := hwS.1
  have b56 := hwH.1
  have e56 := hm.1 56 (by decide)
  have hN : NLok (plN κ cs p) (plL κ) (κ 55) := ⟨fun x j hx => stB_lt hx, fun j hj => ⟨(hwS.2.1 j hj).1, (hwS.2.1 j hj).2.1⟩⟩
  obtain ⟨D, hD⟩ := isDs_ex (RsP (plN κ cs p) (plL κ) (κ 55) (spot κ p))
  have hsp := spot_lt hwH (p := p) (by omega)
  have hDE := DE_of hN hsp.1 hD hE
  have hEm : ∀ x, E x ≤ 1000000 := fun x => (hE x).1
  refine b_m_plan_0 (d := K + 13) (h := ?_) ..
  rw [e56]
  refine ⟨fun _ => ⟨fun _ => ⟨fun _ => ?_, fun c => ?_⟩, fun c => ?_⟩, fun c => ?_⟩
  · refine c_m_laysPlan (K := K) (κ := κ) (cs := cs) hK hm hwS hwL hwH hwT hB hR hok (by omega) hce hE fun f1 g1 hf hg hrow hF => ?_
    have hm1 : ms (g1 76) κ := by rw [hg 76 (by decide) (by decide) (by decide) (by decide)]; exact hm
    have hP := fun r => h f1 g1 r hf hg
    have e13 := hm1.1 (13 + p) (by omega)
    have e16 := hm1.1 (16 + p) (by omega)
    have e19 := hm1.1 (19 + p) (by omega)
    have t13 : ((13 : Int32) + iI (p : Int)).toNatClampNeg = 13 + p := by simp (disch := omega) only [z_lit, z_litl, z_neg, z_negl, z_add, z_sub, z_mul, z_addl, z_subl, z_mull, z_cc, z_cl, z_cr, z_cm, z_cml, z_cmr, z_lt, z_le, z_eq, z_ltl, z_lel, z_eql, z_nat, z_i2l, z_l2i, z_div, z_sh, Int.toNat_natCast, z_ts, z_tsl]
    have t16 : ((16 : Int32) + iI (p : Int)).toNatClampNeg = 16 + p := by simp (disch := omega) only [z_lit, z_litl, z_neg, z_negl, z_add, z_sub, z_mul, z_addl, z_subl, z_mull, z_cc, z_cl, z_cr, z_cm, z_cml, z_cmr, z_lt, z_le, z_eq, z_ltl, z_lel, z_eql, z_nat, z_i2l, z_l2i, z_div, z_sh, Int.toNat_natCast, z_ts, z_tsl]
    have t19 : ((19 : Int32) + iI (p : Int)).toNatClampNeg = 19 + p := by simp (disch := omega) only [z_lit, z_litl, z_neg, z_negl, z_add, z_sub, z_mul, z_addl, z_subl, z_mull, z_cc, z_cl, z_cr, z_cm, z_cml, z_cmr, z_lt, z_le, z_eq, z_ltl, z_lel, z_eql, z_nat, z_i2l, z_l2i, z_div, z_sh, Int.toNat_natCast, z_ts, z_tsl]
    have o13 : ¬ ((13 : Int32) + iI (p : Int) < 0 ∨ 5667 ≤ 13 + p) := by simp (disch := omega) only [z_lit, z_litl, z_neg, z_negl, z_add, z_sub, z_mul, z_addl, z_subl, z_mull, z_cc, z_cl, z_cr, z_cm, z_cml, z_cmr, z_lt, z_le, z_eq, z_ltl, z_lel, z_eql, z_nat, z_i2l, z_l2i, z_div, z_sh, Int.toNat_natCast, z_ts, z_tsl]; omega
    have o16 : ¬ ((16 : Int32) + iI (p : Int) < 0 ∨ 5667 ≤ 16 + p) := by simp (disch := omega) only [z_lit, z_litl, z_neg, z_negl, z_add, z_sub, z_mul, z_addl, z_subl, z_mull, z_cc, z_cl, z_cr, z_cm, z_cml, z_cmr, z_lt, z_le, z_eq, z_ltl, z_lel, z_eql, z_nat, z_i2l, z_l2i, z_div, z_sh, Int.toNat_natCast, z_ts, z_tsl]; omega
    have o19 : ¬ ((19 : Int32) + iI (p : Int) < 0 ∨ 5667 ≤ 19 + p) := by simp (disch := omega) only [z_lit, z_litl, z_neg, z_negl, z_add, z_sub, z_mul, z_addl, z_subl, z_mull, z_cc, z_cl, z_cr, z_cm, z_cml, z_cmr, z_lt, z_le, z_eq, z_ltl, z_lel, z_eql, z_nat, z_i2l, z_l2i, z_div, z_sh, Int.toNat_natCast, z_ts, z_tsl]; omega
    have es : ((4 : Int32) * iI (κ (13 + p) : Int) + iI (κ (16 + p) : Int)) * (10 : Int32) + iI (κ (19 + p) : Int) = iI (spot κ p : Int) := by
      rw [show (4 : Int32) = iI 4 from rfl, show (10 : Int32) = iI 10 from rfl, z_mul, z_add, z_mul, z_add]
      congr 1
      unfold spot
      omega
    generalize hst : spot κ p = st at es hsp hDE hP
    have tst : (iI (st : Int)).toNatClampNeg = st := by rw [z_nat (by omega)]; omega
    have ost : ¬ (iI (st : Int) < 0 ∨ 1000 ≤ st) := by simp (disch := omega) only [z_lit, z_litl, z_neg, z_negl, z_add, z_sub, z_mul, z_addl, z_subl, z_mull, z_cc, z_cl, z_cr, z_cm, z_cml, z_cmr, z_lt, z_le, z_eq, z_ltl, z_lel, z_eql, z_nat, z_i2l, z_l2i, z_div, z_sh, Int.toNat_natCast, z_ts, z_tsl]; omega
    have hEs := hEm st
    have c6 : (iI (E st : Int) = (1000000 : Int32)) = (E st = 1000000) := by
      rw [show (1000000 : Int32) = iI 1000000 from rfl, z_eq (by omega) (by omega)]
      exact propext ⟨fun a => by omega, fun a => by omega⟩
    have ci : (iI i = (-1 : Int32)) = (i = -1) := by
      rw [show (-1 : Int32) = iI (-1) from rfl, z_eq (by omega) (by omega)]
    refine b_m_plan_31 (d := K + 13) (h := ?_) ..
    rw [t13, t16, t19, e13, e16, e19, es, tst, hF st hsp.1, c6, ci]
    refine ⟨o13, o16, o19, ost, fun c => ⟨ost, fun c2 => absurd c c2, fun _ => hP (-1) (Or.inl ⟨c, rfl⟩)⟩, fun c => ⟨fun c2 => ?_, fun c2 => ⟨ost, fun _ => ⟨ost, hP _ (Or.inr ⟨by omega, Or.inl ⟨c2, rfl⟩⟩)⟩, fun c3 => absurd c3 c⟩⟩⟩
    obtain ⟨n, rfl⟩ : ∃ n : Nat, i = n := ⟨i.toNat, by omega⟩
    have fin : ∀ r, pthR (plN κ cs p) (plL κ) (κ 55) E n st r → P (some (.int (iI r))) (Wd f1 fl g1 gl hh v tx) := fun r hr => hP r (Or.inr ⟨by omega, Or.inr ⟨by omega, by rw [Int.toNat_natCast]; exact hr⟩⟩)
    have walk : ∀ u k x : Nat, ∀ l5 : Int, x < 1000 → E x ≤ u → E x + k ≤ 999999 → k ≤ n → (∀ r, pthR (plN κ cs p) (plL κ) (κ 55) E (n - k) x r → pthR (plN κ cs p) (plL κ) (κ 55) E n st r) →
        WP X (K + 15) 215 (85, [some (.ref 74), none, none, some (.int (iI (n : Int))), some (.int (iI (x : Int))), some (.int (iI l5)), some (.int (iI (k : Int)))], [], Wd f1 fl g1 gl hh v tx) P := by
      intro u
      induction u with
      | zero =>
        intro k x l5 hx hu hk hkn hr
        have hz : E x = 0 := by omega
        have txx : (iI (x : Int)).toNatClampNeg = x := by rw [z_nat (by omega)]; omega
        refine b_m_plan_85 (h := ⟨fun c => by simp (disch := omega) only [z_lit, z_litl, z_neg, z_negl, z_add, z_sub, z_mul, z_addl, z_subl, z_mull, z_cc, z_cl, z_cr, z_cm, z_cml, z_cmr, z_lt, z_le, z_eq, z_ltl, z_lel, z_eql, z_nat, z_i2l, z_l2i, z_div, z_sh, Int.toNat_natCast, z_ts, z_tsl] at c; omega, fun _ => ?_⟩) ..
        rw [txx, hF x hx, hz]
        exact ⟨by simp (disch := omega) only [z_lit, z_litl, z_neg, z_negl, z_add, z_sub, z_mul, z_addl, z_subl, z_mull, z_cc, z_cl, z_cr, z_cm, z_cml, z_cmr, z_lt, z_le, z_eq, z_ltl, z_lel, z_eql, z_nat, z_i2l, z_l2i, z_div, z_sh, Int.toNat_natCast, z_ts, z_tsl]; omega, fun c => absurd rfl c, fun _ => fin (-1) (hr _ (pthR.z hz _))⟩
      | succ u ih =>
        intro k x l5 hx hu hk hkn hr
        have txx : (iI (x : Int)).toNatClampNeg = x := by rw [z_nat (by omega)]; omega
        have ox : ¬ (iI (x : Int) < 0 ∨ 1000 ≤ x) := by simp (disch := omega) only [z_lit, z_litl, z_neg, z_negl, z_add, z_sub, z_mul, z_addl, z_subl, z_mull, z_cc, z_cl, z_cr, z_cm, z_cml, z_cmr, z_lt, z_le, z_eq, z_ltl, z_lel, z_eql, z_nat, z_i2l, z_l2i, z_div, z_sh, Int.toNat_natCast, z_ts, z_tsl]; omega
        have hEx := hEm x
        have cz : (iI (E x : Int) = (0 : Int32)) = (E x = 0) := by
          rw [show (0 : Int32) = iI 0 from rfl, z_eq (by omega) (by omega)]
          exact propext ⟨fun a => by omega, fun a => by omega⟩
        refine b_m_plan_85 (h := ⟨fun c => by simp (disch := omega) only [z_lit, z_litl, z_neg, z_negl, z_add, z_sub, z_mul, z_addl, z_subl, z_mull, z_cc, z_cl, z_cr, z_cm, z_cml, z_cmr, z_lt, z_le, z_eq, z_ltl, z_lel, z_eql, z_nat, z_i2l, z_l2i, z_div, z_sh, Int.toNat_natCast, z_ts, z_tsl] at c; omega, fun _ => ?_⟩) ..
        rw [txx, hF x hx, cz]
        refine ⟨ox, fun hz => ?_, fun hz => fin (-1) (hr _ (pthR.z hz _))⟩
        obtain ⟨j, j1, j2, j3⟩ := hDE.ld (x := x) (by omega) hz
        have find : ∀ w q : Nat, w + q = j → WP X (K + 15) 215 (106, [some (.ref 74), none, none, some (.int (iI (n : Int))), some (.int (iI (x : Int))), some (.int (iI (q : Int))), some (.int (iI (k : Int)))], [], Wd f1 fl g1 gl hh v tx) P := by
          have one : ∀ q, q ≤ j → (E (stB κ cs p x (κ (39 + q))) + κ (31 + q) = E x → WP X (K + 15) 215 (85, [some (.ref 74), none, none, some (.int (iI (n : Int))), some (.int (iI (stB κ cs p x (κ (39 + q)) : Nat))), some (.int (iI (q : Int))), some (.int (iI (k : Int) + (1 : Int32)))], [], Wd f1 fl g1 gl hh v tx) P) → (E (stB κ cs p x (κ (39 + q))) + κ (31 + q) ≠ E x → WP X (K + 15) 215 (106, [some (.ref 74), none, none, some (.int (iI (n : Int))), some (.int (iI (x : Int))), some (.int (iI (q : Int) + (1 : Int32))), some (.int (iI (k : Int)))], [], Wd f1 fl g1 gl hh v tx) P) → WP X (K + 15) 215 (106, [some (.ref 74), none, none, some (.int (iI (n : Int))), some (.int (iI (x : Int))), some (.int (iI (q : Int))), some (.int (iI (k : Int)))], [], Wd f1 fl g1 gl hh v tx) P := by
            intro q hq hy hn
            have hqJ : q < κ 55 := by omega
            have h5 := (hwS.2.1 q hqJ).2.2.1
            have hl := hwS.2.1 q hqJ
            have e39 := hm1.1 (39 + q) (by omega)
            have e31 := hm1.1 (31 + q) (by omega)
            have t39 : ((39 : Int32) + iI (q : Int)).toNatClampNeg = 39 + q := by simp (disch := omega) only [z_lit, z_litl, z_neg, z_negl, z_add, z_sub, z_mul, z_addl, z_subl, z_mull, z_cc, z_cl, z_cr, z_cm, z_cml, z_cmr, z_lt, z_le, z_eq, z_ltl, z_lel, z_eql, z_nat, z_i2l, z_l2i, z_div, z_sh, Int.toNat_natCast, z_ts, z_tsl]
            have t31 : ((31 : Int32) + iI (q : Int)).toNatClampNeg = 31 + q := by simp (disch := omega) only [z_lit, z_litl, z_neg, z_negl, z_add, z_sub, z_mul, z_addl, z_subl, z_mull, z_cc, z_cl, z_cr, z_cm, z_cml, z_cmr, z_lt, z_le, z_eq, z_ltl, z_lel, z_eql, z_nat, z_i2l, z_l2i, z_div, z_sh, Int.toNat_natCast, z_ts, z_tsl]
            have o39 : ¬ ((39 : Int32) + iI (q : Int) < 0 ∨ 5667 ≤ 39 + q) := by simp (disch := omega) only [z_lit, z_litl, z_neg, z_negl, z_add, z_sub, z_mul, z_addl, z_subl, z_mull, z_cc, z_cl, z_cr, z_cm, z_cml, z_cmr, z_lt, z_le, z_eq, z_ltl, z_lel, z_eql, z_nat, z_i2l, z_l2i, z_div, z_sh, Int.toNat_natCast, z_ts, z_tsl]; omega
            have o31 : ¬ ((31 : Int32) + iI (q : Int) < 0 ∨ 5667 ≤ 31 + q) := by simp (disch := omega) only [z_lit, z_litl, z_neg, z_negl, z_add, z_sub, z_mul, z_addl, z_subl, z_mull, z_cc, z_cl, z_cr, z_cm, z_cml, z_cmr, z_lt, z_le, z_eq, z_ltl, z_lel, z_eql, z_nat, z_i2l, z_l2i, z_div, z_sh, Int.toNat_natCast, z_ts, z_tsl]; omega
            have e6 : (6 : Int32) * iI (x : Int) + iI (κ (39 + q) : Int) = iI ((6 * x + κ (39 + q) : Nat) : Int) := by rw [show (6 : Int32) = iI 6 from rfl, z_mul, z_add]; congr 1
            have t6 : (iI ((6 * x + κ (39 + q) : Nat) : Int)).toNatClampNeg = 6 * x + κ (39 + q) := by rw [z_nat (by omega)]; omega
            have o6 : ¬ (iI ((6 * x + κ (39 + q) : Nat) : Int) < 0 ∨ 6000 ≤ 6 * x + κ (39 + q)) := by simp (disch := omega) only [z_lit, z_litl, z_neg, z_negl, z_add, z_sub, z_mul, z_addl, z_subl, z_mull, z_cc, z_cl, z_cr, z_cm, z_cml, z_cmr, z_lt, z_le, z_eq, z_ltl, z_lel, z_eql, z_nat, z_i2l, z_l2i, z_div, z_sh, Int.toNat_natCast, z_ts, z_tsl]; omega
            have e91 := hrow x (κ (39 + q)) hx (by omega)
            have hyl : stB κ cs p x (κ (39 + q)) < 1000 := stB_lt hx
            have hEy := hEm (stB κ cs p x (κ (39 + q)))
            generalize stB κ cs p x (κ (39 + q)) = y at e91 hyl hy hn hEy
            have ty : (iI (y : Int)).toNatClampNeg = y := by rw [z_nat (by omega)]; omega
            have c7 : ((1000000 : Int32) = iI (E x : Int)) = (E x = 1000000) := by
              rw [show (1000000 : Int32) = iI 1000000 from rfl, z_eq (by omega) (by omega)]
              exact propext ⟨fun a => by omega, fun a => by omega⟩
            refine b_m_plan_106 (d := K + 13) (h := ?_) ..
            rw [t39, e39, e6, t6, e91, ty, t31, e31, txx, hF y hyl, hF x hx, z_add, z_eq (by omega) (by omega), c7]
            exact ⟨o39, o6, by simp (disch := omega) only [z_lit, z_litl, z_neg, z_negl, z_add, z_sub, z_mul, z_addl, z_subl, z_mull, z_cc, z_cl, z_cr, z_cm, z_cml, z_cmr, z_lt, z_le, z_eq, z_ltl, z_lel, z_eql, z_nat, z_i2l, z_l2i, z_div, z_sh, Int.toNat_natCast, z_ts, z_tsl]; omega, o31, fun c => ⟨ox, fun c2 => ⟨o39, o6, hy (by omega)⟩, fun c2 => hn (by omega)⟩, fun c => ⟨ox, fun c2 => by omega, fun _ => hn (by simp (disch := omega) only [z_lit, z_litl, z_neg, z_negl, z_add, z_sub, z_mul, z_addl, z_subl, z_mull, z_cc, z_cl, z_cr, z_cm, z_cml, z_cmr, z_lt, z_le, z_eq, z_ltl, z_lel, z_eql, z_nat, z_i2l, z_l2i, z_div, z_sh, Int.toNat_natCast, z_ts, z_tsl] at c; omega)⟩⟩
          intro w
          induction w with
          | zero =>
            intro q hq
            have hq : q = j := by omega
            subst hq
            refine one q (Nat.le_refl _) (fun _ => ?_) fun c => absurd j2 c
            have j2 : E (stB κ cs p x (κ (39 + q))) + κ (31 + q) = E x := j2
            have hl := (hwS.2.1 q j1).1
            rw [i1N]
            by_cases c : k = n
            · refine b_m_plan_85 (h := ⟨fun _ => ?_, fun c2 => by simp (disch := omega) only [z_lit, z_litl, z_neg, z_negl, z_add, z_sub, z_mul, z_addl, z_subl, z_mull, z_cc, z_cl, z_cr, z_cm, z_cml, z_cmr, z_lt, z_le, z_eq, z_ltl, z_lel, z_eql, z_nat, z_i2l, z_l2i, z_div, z_sh, Int.toNat_natCast, z_ts, z_tsl] at c2; omega⟩) ..
              refine fin _ (hr _ ?_)
              rw [c, Nat.sub_self]
              exact Or.inr ⟨hz, q, ⟨j1, j2, j3⟩, rfl⟩
            · refine ih (k + 1) _ q (stB_lt hx) (by omega) (by omega) (by omega) fun r hr2 => hr r ?_
              rw [show n - k = (n - (k + 1)) + 1 by omega]
              exact Or.inr ⟨hz, q, ⟨j1, j2, j3⟩, hr2⟩
          | succ w ihw =>
            intro q hq
            refine one q (by omega) (fun c => absurd c (j3 q (by omega))) fun _ => ?_
            rw [i1N]
            exact ihw (q + 1) (by omega)
        exact find j 0 rfl
    exact walk (E st) 0 st (-1) hsp.1 (Nat.le_refl _) (by omega) (Nat.zero_le _) fun _ hr => hr
  · simp (disch := omega) only [z_lit, z_litl, z_neg, z_negl, z_add, z_sub, z_mul, z_addl, z_subl, z_mull, z_cc, z_cl, z_cr, z_cm, z_cml, z_cmr, z_lt, z_le, z_eq, z_ltl, z_lel, z_eql, z_nat, z_i2l, z_l2i, z_div, z_sh, Int.toNat_natCast, z_ts, z_tsl] at c
    omega
  · simp (disch := omega) only [z_lit, z_litl, z_neg, z_negl, z_add, z_sub, z_mul, z_addl, z_subl, z_mull, z_cc, z_cl, z_cr, z_cm, z_cml, z_cmr, z_lt, z_le, z_eq, z_ltl, z_lel, z_eql, z_nat, z_i2l, z_l2i, z_div, z_sh, Int.toNat_natCast, z_ts, z_tsl] at c
    omega
  · simp (disch := omega) only [z_lit, z_litl, z_neg, z_negl, z_add, z_sub, z_mul, z_addl, z_subl, z_mull, z_cc, z_cl, z_cr, z_cm, z_cml, z_cmr, z_lt, z_le, z_eq, z_ltl, z_lel, z_eql, z_nat, z_i2l, z_l2i, z_div, z_sh, Int.toNat_natCast, z_ts, z_tsl] at c
    omega
