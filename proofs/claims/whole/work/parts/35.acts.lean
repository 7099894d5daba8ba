/-! what can be undone -/
def aS (a : Nat) : Nat := if a < 16 then 0 else 1
theorem aS_le {a : Nat} (h : a ≤ 16) : (a < 16 ∧ aS a = 0) ∨ (a = 16 ∧ aS a = 1) := by
  unfold aS
  split <;> omega
def pushC (a c : Nat) (ac ac' : Nat → Int32) : Prop := (∀ i, i < a - aS a → ac' i = ac (i + aS a)) ∧ ac' (a - aS a) = iI c
def pushM (a w : Nat) (K : Nat → Int32) (le le' : Nat → Int32) : Prop := (∀ i, i < 24 * (a - aS a) → le' i = le (i + 24 * aS a)) ∧ (∀ i, i < 23 → le' (24 * (a - aS a) + i) = K i) ∧ le' (24 * (a - aS a) + 23) = iI w
theorem spot_cg {R R' : Nat → Nat} {p : Nat} (hp : p < 3) (h : ∀ i, i < 23 → R' i = R i) : spot R' p = spot R p := by
  rw [spot, spot, h _ (by omega), h _ (by omega), h _ (by omega)]
theorem i_act.cg {m c : Nat} {R R' S S' : Nat → Nat} (h : i_act m c R S) (hm : m ≤ 3) (h1 : R 12 ≤ 12) (h2 : S 12 ≤ 12) (e : ∀ i, i < 23 → R' i = R i) (e2 : ∀ i, i < 23 → S' i = S i) : i_act m c R' S' := by
  unfold i_act at h ⊢
  rw [e 12 (by omega), e2 12 (by omega), e 22 (by omega), e2 22 (by omega)]
  rcases h with ⟨a1, a2, a3, a4, a5⟩ | ⟨a1, a2, a3, a4, a5, a6⟩ | ⟨a1, a2, a3, a4, a5, a6, a7⟩ | ⟨a1, a2, a3, a4, a5⟩
  · refine Or.inl ⟨a1, a2, fun i hi => ?_, fun p hp => ?_, a5⟩
    · rw [e _ (by omega), e2 _ (by omega)]; exact a3 i hi
    · rw [spot_cg (by omega) e, spot_cg (by omega) e2]; exact a4 p hp
  · refine Or.inr (Or.inl ⟨a1, a2, fun i hi => ?_, ?_, fun p hp => ?_, a6⟩)
    · rw [e _ (by omega), e2 _ (by omega)]; exact a3 i hi
    · rw [e _ (by omega)]; exact a4
    · rw [spot_cg (by omega) e, spot_cg (by omega) e2]; exact a5 p hp
  · refine Or.inr (Or.inr (Or.inl ⟨a1, a2, fun i hi => ?_, a4, fun p hp hn => ?_, ?_, a7⟩))
    · rw [e _ (by omega), e2 _ (by omega)]; exact a3 i hi
    · rw [spot_cg (by omega) e, spot_cg (by omega) e2]; exact a5 p hp hn
    · rw [spot_cg (by omega) e]; exact a6
  · refine Or.inr (Or.inr (Or.inr ⟨a1, a2, fun i hi => ?_, fun p hp => ?_, a5⟩))
    · rw [e _ (by omega), e2 _ (by omega)]; exact a3 i hi
    · rw [spot_cg (by omega) e, spot_cg (by omega) e2]; exact a4 p hp
theorem i_acts_n {xa ma : Int32} {ac le : Nat → Int32} {κ : Nat → Nat} (h : i_acts xa ma ac le κ) : ∃ a : Nat, a ≤ 16 ∧ xa = iI a ∧ ma = iI a := by
  obtain ⟨a, c, R, h1, h2, h3, -⟩ := h
  exact ⟨a, h1, h2, h3⟩
theorem i_acts.push {xa ma : Int32} {ac ac' le le' K : Nat → Int32} {κ κ' : Nat → Nat} {a c : Nat} (h : i_acts xa ma ac le κ) (hxa : xa = iI a) (ha : a ≤ 16) (hc : c < 2147483648) (hp : pushC a c ac ac') (hq : pushM a (c % 4) K le le') (hK : ∀ i, i < 23 → K i = iI (κ i)) (hH : wH κ) (hL : wL κ) (hD : κ 22 ≤ 999) (h56 : κ' 56 = κ 56) (hL2 : κ' 12 ≤ 12) (act : i_act (κ 56) c κ κ') : i_acts (iI ((a - aS a + 1 : Nat) : Int)) (iI ((a - aS a + 1 : Nat) : Int)) ac' le' κ' := by
  obtain ⟨a1, c0, R, h1, h2, h3, h4, h5⟩ := h
  have ea : a1 = a := by
    rw [h2, z_eq (by omega) (by omega)] at hxa
    omega
  subst ea
  have hs := aS_le ha
  refine ⟨a1 - aS a1 + 1, fun k => if k = a1 - aS a1 then c else c0 (k + aS a1), fun k => if k = a1 - aS a1 + 1 then κ' else R (k + aS a1), by omega, rfl, rfl, fun i hi => by simp only [if_true], fun k hk => ?_⟩
  rw [h56]
  by_cases e : k = a1 - aS a1
  · subst e
    simp only [if_true]
    rw [if_neg (by omega), show a1 - aS a1 + aS a1 = a1 by omega]
    refine ⟨hc, hp.2, fun i hi => ?_, hq.2.2, hH.cg fun i hi => ?_, hL.cg fun i hi => h4 i (by omega), ?_, act.cg hH.1 hL.1 hL2 (fun i hi => h4 i hi) fun i hi => rfl⟩
    · rw [hq.2.1 i hi, hK i hi, h4 i hi]
    · show (if i < 23 then R a1 i else κ' i) = κ i
      split
      · rename_i h; exact h4 i h
      · rw [show i = 56 by omega]; exact h56
    · rw [h4 22 (by omega)]; exact hD
  · obtain ⟨g1, g2, g3, g4, g5, g6, g7, g8⟩ := h5 (k + aS a1) (by omega)
    simp only [if_neg e]
    rw [if_neg (by omega), if_neg (by omega), show k + 1 + aS a1 = k + aS a1 + 1 by omega]
    refine ⟨g1, ?_, fun i hi => ?_, ?_, g5.cg fun i hi => ?_, g6, g7, g8⟩
    · rw [hp.1 k (by omega)]; exact g2
    · rw [hq.1 _ (by omega), show 24 * k + i + 24 * aS a1 = 24 * (k + aS a1) + i by omega]; exact g3 i hi
    · rw [hq.1 _ (by omega), show 24 * k + 23 + 24 * aS a1 = 24 * (k + aS a1) + 23 by omega]; exact g4
    · show (if i < 23 then R (k + aS a1) i else κ' i) = (if i < 23 then R (k + aS a1) i else κ i)
      split
      · rfl
      · rw [show i = 56 by omega]; exact h56
theorem c_remember {X : mm_X} {d : Nat} {f : Nat → Int32} {fl : Nat → Int64} {g : Nat → Nat → Int32} {gl : Nat → Nat → Int64} {hh : Nat → Nat → Option Nat} {v : Nat → Value} {tx : mm_W} {P : Option Value → mm_W → Prop} {a c : Nat} (ha : a ≤ 16) (hf : f 78 = iI a) (h : ∀ ac', pushC a c (g 9) ac' → P none (Wd (va_up f 78 (iI ((a - aS a + 1 : Nat) : Int))) fl (va_up g 9 ac') gl hh v tx)) : WP X d 51 (0, [some (.ref 1), some (.int (iI c))], [], Wd f fl g gl hh v tx) P := by
  have hs := aS_le ha
  refine b_yst_remember_1_0 (h := ?_) ..
  simp (disch := omega) only [z_lit, z_litl, z_neg, z_negl, z_add, z_sub, z_mul, z_addl, z_subl, z_mull, z_cc, z_cl, z_cr, z_cm, z_cml, z_cmr, z_lt, z_le, z_eq, z_ltl, z_lel, z_eql, z_nat, z_i2l, z_l2i, z_div, z_sh, Int.toNat_natCast, z_ts, z_tsl, hf, va_tw]
  refine ⟨fun c1 => ⟨by omega, ?_⟩, fun c1 => ?_⟩
  · have := h (upd (g 9) a (iI c)) ⟨fun i hi => by rw [upd_ne (by omega), show i + aS a = i by omega], by rw [show a - aS a = a by omega, upd_s]⟩
    rw [show a - aS a + 1 = a + 1 by omega] at this
    exact this
  · have := h (upd (va_cpy (g 9) (g 9) 1 0 15) 15 (iI c)) ⟨fun i hi => by
      rw [upd_ne (by omega), pk_cpy_in (by omega) (by omega)]
      congr 1
      omega, by rw [show a - aS a = 15 by omega, upd_s]⟩
    rw [show a - aS a + 1 = 16 by omega] at this
    exact this
theorem c_keeps54 {X : mm_X} {d : Nat} {f : Nat → Int32} {fl : Nat → Int64} {g : Nat → Nat → Int32} {gl : Nat → Nat → Int64} {hh : Nat → Nat → Option Nat} {v : Nat → Value} {tx : mm_W} {P : Option Value → mm_W → Prop} {k w : Nat} (hk : k ≤ 15) (hf : f 4777 = iI k) (h : ∀ b : Nat → Int32, (∀ x, x < 24 * k → b x = g 97 x) → (∀ x, x < 23 → b (24 * k + x) = g 76 x) → b (24 * k + 23) = iI w → P none (Wd (va_up f 4777 (iI ((k + 1 : Nat) : Int))) fl (va_up g 97 b) gl hh v tx)) : WP X d 232 (54, [some (.ref 74), some (.int (iI w)), some (.int 24), some (.int 0)], [], Wd f fl g gl hh v tx) P := by
  have key : ∀ i, i ≤ 23 → ∀ b : Nat → Int32, (∀ x, x < 24 * k → b x = g 97 x) → (∀ x, x < i → b (24 * k + x) = g 76 x) → WP X d 232 (54, [some (.ref 74), some (.int (iI w)), some (.int (iI 24)), some (.int (iI i))], [], Wd f fl (va_up g 97 b) gl hh v tx) P := by
    apply k_up (Q := fun i => ∀ b : Nat → Int32, (∀ x, x < 24 * k → b x = g 97 x) → (∀ x, x < i → b (24 * k + x) = g 76 x) → WP X d 232 (54, [some (.ref 74), some (.int (iI w)), some (.int (iI 24)), some (.int (iI i))], [], Wd f fl (va_up g 97 b) gl hh v tx) P)
    · intro b h1 h2
      refine b_m_keeps_54 (h := ?_) ..
      simp (disch := omega) only [z_lit, z_litl, z_neg, z_negl, z_add, z_sub, z_mul, z_addl, z_subl, z_mull, z_cc, z_cl, z_cr, z_cm, z_cml, z_cmr, z_lt, z_le, z_eq, z_ltl, z_lel, z_eql, z_nat, z_i2l, z_l2i, z_div, z_sh, Int.toNat_natCast, z_ts, z_tsl, hf, va_s, va_ne, va_tw]
      refine ⟨fun _ => ⟨by omega, ?_⟩, fun c => by omega⟩
      refine h _ (fun x hx => ?_) (fun x hx => ?_) ?_
      · rw [upd_ne (by omega)]; exact h1 x hx
      · rw [upd_ne (by omega)]; exact h2 x hx
      · rw [upd_s]
    · intro i hi ih b h1 h2
      refine b_m_keeps_54 (h := ?_) ..
      simp (disch := omega) only [z_lit, z_litl, z_neg, z_negl, z_add, z_sub, z_mul, z_addl, z_subl, z_mull, z_cc, z_cl, z_cr, z_cm, z_cml, z_cmr, z_lt, z_le, z_eq, z_ltl, z_lel, z_eql, z_nat, z_i2l, z_l2i, z_div, z_sh, Int.toNat_natCast, z_ts, z_tsl, hf, va_s, va_ne, va_tw]
      refine ⟨fun c => by omega, fun _ => ⟨by omega, by omega, ?_⟩⟩
      refine ih _ (fun x hx => ?_) (fun x hx => ?_)
      · rw [upd_ne (by omega)]; exact h1 x hx
      · by_cases e : x = i
        · rw [e, upd_s]
        · rw [upd_ne (by omega)]; exact h2 x (by omega)
  have := key 0 (by omega) (g 97) (fun x _ => rfl) fun x hx => absurd hx (Nat.not_lt_zero x)
  rw [show va_up g 97 (g 97) = g by
    funext j
    by_cases e : j = 97
    · rw [e, va_s]
    · rw [va_ne e]] at this
  exact this
theorem c_m_keeps {X : mm_X} {d : Nat} {f : Nat → Int32} {fl : Nat → Int64} {g : Nat → Nat → Int32} {gl : Nat → Nat → Int64} {hh : Nat → Nat → Option Nat} {v : Nat → Value} {tx : mm_W} {P : Option Value → mm_W → Prop} {a w : Nat} (ha : a ≤ 16) (hf : f 4777 = iI a) (h : ∀ le', pushM a w (g 76) (g 97) le' → P none (Wd (va_up f 4777 (iI ((a - aS a + 1 : Nat) : Int))) fl (va_up g 97 le') gl hh v tx)) : WP X d 232 (0, [some (.ref 74), some (.int (iI w)), none, none], [], Wd f fl g gl hh v tx) P := by
  have hs := aS_le ha
  refine b_m_keeps_0 (h := ?_) ..
  simp (disch := omega) only [z_lit, z_litl, z_neg, z_negl, z_add, z_sub, z_mul, z_addl, z_subl, z_mull, z_cc, z_cl, z_cr, z_cm, z_cml, z_cmr, z_lt, z_le, z_eq, z_ltl, z_lel, z_eql, z_nat, z_i2l, z_l2i, z_div, z_sh, Int.toNat_natCast, z_ts, z_tsl, hf]
  refine ⟨fun c => ?_, fun c => ?_⟩
  · refine c_keeps54 (k := a) (by omega) hf fun b h1 h2 h3 => ?_
    have := h b ⟨fun i hi => by rw [h1 i (by omega), show i + 24 * aS a = i by omega], fun i hi => by rw [show a - aS a = a by omega]; exact h2 i hi, by rw [show a - aS a = a by omega]; exact h3⟩
    rw [show a - aS a + 1 = a + 1 by omega] at this
    exact this
  · have key : ∀ i, i ≤ 360 → ∀ b : Nat → Int32, (∀ x, x < i → b x = g 97 (x + 24)) → (∀ x, i ≤ x → b x = g 97 x) → WP X d 232 (14, [some (.ref 74), some (.int (iI w)), some (.int (iI 24)), some (.int (iI i))], [], Wd f fl (va_up g 97 b) gl hh v tx) P := by
      apply k_up (Q := fun i => ∀ b : Nat → Int32, (∀ x, x < i → b x = g 97 (x + 24)) → (∀ x, i ≤ x → b x = g 97 x) → WP X d 232 (14, [some (.ref 74), some (.int (iI w)), some (.int (iI 24)), some (.int (iI i))], [], Wd f fl (va_up g 97 b) gl hh v tx) P)
      · intro b h1 h2
        refine b_m_keeps_14 (h := ?_) ..
        simp (disch := omega) only [z_lit, z_litl, z_neg, z_negl, z_add, z_sub, z_mul, z_addl, z_subl, z_mull, z_cc, z_cl, z_cr, z_cm, z_cml, z_cmr, z_lt, z_le, z_eq, z_ltl, z_lel, z_eql, z_nat, z_i2l, z_l2i, z_div, z_sh, Int.toNat_natCast, z_ts, z_tsl, hf, va_s, va_ne]
        refine ⟨fun _ => ?_, fun c => by omega⟩
        refine c_keeps54 (f := va_up f 4777 (iI ((a : Int) - 1))) (g := va_up g 97 b) (k := 15) (by omega) ?_ fun b2 g1 g2 g3 => ?_
        · rw [va_s]
          congr 1
          omega
        · have := h b2 ⟨fun i hi => by rw [g1 i (by omega), va_s, h1 i (by omega)]; congr 1; omega, fun i hi => by rw [show a - aS a = 15 by omega]; exact g2 i hi, by rw [show a - aS a = 15 by omega]; exact g3⟩
          rw [show a - aS a + 1 = 15 + 1 by omega] at this
          rw [va_tw, va_tw]
          exact this
      · intro i hi ih b h1 h2
        refine b_m_keeps_14 (h := ?_) ..
        simp (disch := omega) only [z_lit, z_litl, z_neg, z_negl, z_add, z_sub, z_mul, z_addl, z_subl, z_mull, z_cc, z_cl, z_cr, z_cm, z_cml, z_cmr, z_lt, z_le, z_eq, z_ltl, z_lel, z_eql, z_nat, z_i2l, z_l2i, z_div, z_sh, Int.toNat_natCast, z_ts, z_tsl, hf, va_s, va_ne, va_tw]
        refine ⟨fun c => by omega, fun _ => ⟨by omega, by omega, ?_⟩⟩
        refine ih _ (fun x hx => ?_) (fun x hx => ?_)
        · by_cases e : x = i
          · rw [e, upd_s]; exact h2 _ (by omega)
          · rw [upd_ne e]; exact h1 x (by omega)
        · rw [upd_ne (by omega)]; exact h2 x (by omega)
    have := key 0 (by omega) (g 97) (fun x hx => absurd hx (Nat.not_lt_zero x)) fun x _ => rfl
    rw [show va_up g 97 (g 97) = g by
      funext j
      by_cases e : j = 97
      · rw [e, va_s]
      · rw [va_ne e]] at this
    exact this
