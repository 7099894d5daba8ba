/-! the class reads a text -/
theorem ts_ex {b : Nat → Nat} {n : Nat} : ∃ N, N ≤ n ∧ ts b n N = n ∧ ∀ k, k < N → ts b n k < n := by
  have main : ∀ m, (∃ N, N ≤ n ∧ ts b n N = n ∧ ∀ k, k < N → ts b n k < n) ∨ (∀ k, k ≤ m → ts b n k < n ∧ k ≤ ts b n k) := by
    intro m
    induction m with
    | zero =>
      by_cases c : ts b n 0 < n
      · exact Or.inr fun k hk => by
          have : k = 0 := by omega
          subst this
          exact ⟨c, Nat.zero_le _⟩
      · have := ts_le (b := b) (n := n) 0
        exact Or.inl ⟨0, Nat.zero_le _, by omega, fun k hk => absurd hk (Nat.not_lt_zero k)⟩
    | succ m ih =>
      rcases ih with h | h
      · exact Or.inl h
      · have hm := h m (Nat.le_refl _)
        have hu := ts_up (b := b) hm.1
        by_cases c : ts b n (m + 1) < n
        · refine Or.inr fun k hk => ?_
          by_cases e : k = m + 1
          · subst e
            exact ⟨c, by omega⟩
          · exact h k (by omega)
        · have := ts_le (b := b) (n := n) (m + 1)
          exact Or.inl ⟨m + 1, by omega, by omega, fun k hk => (h k (by omega)).1⟩
  rcases main n with h | h
  · exact h
  · have := h n (Nat.le_refl _)
    omega
theorem ph_cg {h h' : Nat → Int32} : ∀ {cs : List pC} {j o : Nat}, p_heads h j o cs → (∀ q, q < 5 * (j + cs.length) → h' q = h q) → p_heads h' j o cs
  | [], _, _, _, _ => trivial
  | q :: qs, j, o, hp, he => by
    obtain ⟨h1, h2, h3, h4, h5, h6⟩ := hp
    have el : (q :: qs).length = qs.length + 1 := rfl
    rw [el] at he
    exact ⟨(he _ (by omega)).trans h1, (he _ (by omega)).trans h2, (he _ (by omega)).trans h3, (he _ (by omega)).trans h4, (he _ (by omega)).trans h5, ph_cg h6 fun r hr => he r (by omega)⟩
theorem ph_snoc {h : Nat → Int32} {q : pC} : ∀ {cs : List pC} {j o : Nat}, p_heads h j o cs → p_heads h (j + cs.length) (o + (p_code cs).length) [q] → p_heads h j o (cs ++ [q])
  | [], _, _, _, h2 => h2
  | r :: qs, j, o, h1, h2 => by
    obtain ⟨a1, a2, a3, a4, a5, a6⟩ := h1
    refine ⟨a1, a2, a3, a4, a5, ph_snoc a6 ?_⟩
    have e1 : (p_code (r :: qs)).length = r.2.2.1.length + r.2.2.2.1.length + (p_code qs).length := by
      unfold p_code
      rw [List.flatMap_cons, List.length_append, List.length_append]
    rw [e1, show (r :: qs).length = qs.length + 1 from rfl] at h2
    rw [show j + 1 + qs.length = j + (qs.length + 1) by omega, show o + r.2.2.1.length + r.2.2.2.1.length + (p_code qs).length = o + (r.2.2.1.length + r.2.2.2.1.length + (p_code qs).length) by omega]
    exact h2
theorem pcode_snoc {cs : List pC} {q : pC} : p_code (cs ++ [q]) = p_code cs ++ (q.2.2.1 ++ q.2.2.2.1) := by
  unfold p_code
  rw [List.flatMap_append, List.flatMap_cons, List.flatMap_nil, List.append_nil]
/-- but for what a text's reading changes the same -/
def smy (f' f : Nat → Int32) : Prop := ∀ a, a ≠ 1985 → (a < 1989 ∨ 1993 < a) → a ≠ 2048 → a ≠ 2049 → f' a = f a
theorem smx.y {f2 f' f : Nat → Int32} (h : smy f' f) (hs : smx f2 f') : smy f2 f := fun a h1 h2 h3 h4 => (hs a h2 h4).trans (h a h1 h2 h3 h4)
theorem smz.y {f2 f' f : Nat → Int32} (h : smy f' f) (hs : smz f2 f') : smy f2 f := fun a h1 h2 h3 h4 => (hs a h1 h2 h4).trans (h a h1 h2 h3 h4)
theorem smz.t {f2 f' f : Nat → Int32} (h : smx f' f) (hs : smz f2 f') : smz f2 f := fun a h1 h2 h4 => (hs a h1 h2 h4).trans (h a h2 h4)
theorem smx.t {f2 f' f : Nat → Int32} (h : smx f' f) (hs : smx f2 f') : smx f2 f := fun a h2 h4 => (hs a h2 h4).trans (h a h2 h4)
def XRT (f0 : Nat → Int32) (fl : Nat → Int64) (g : Nat → Nat → Int32) (gl : Nat → Nat → Int64) (hh : Nat → Nat → Option Nat) (v : Nat → Value) (tx : mm_W) (b : Nat → Nat) (n : Nat) (cs0 : List pC) (P : Option Value → mm_W → Prop) (r : Option (Nat ⊕ List pC)) : Prop :=
  (∀ cs, r = some (.inr cs) → ∀ f' a' h', smy f' f0 → f' 1985 = -1 → f' 2048 = iI ((cs0 ++ cs).length : Nat) → f' 2049 = iI ((p_code (cs0 ++ cs)).length : Nat) → p_heads h' 0 0 (cs0 ++ cs) → cd a' 0 (p_code (cs0 ++ cs)) → P (some (.int 1)) (Wd f' fl (va_up (va_up g 33 h') 34 a') gl hh v tx)) ∧
  (∀ k, r = some (.inl k) → ∀ f' a' h', smy f' f0 → f' 1985 = iI (ts b n k : Int) → P (some (.int 0)) (Wd f' fl (va_up (va_up g 33 h') 34 a') gl hh v tx))
theorem xt_all {X : mm_X} {f0 : Nat → Int32} {fl : Nat → Int64} {g : Nat → Nat → Int32} {gl : Nat → Nat → Int64} {hh : Nat → Nat → Option Nat} {v : Nat → Value} {tx : mm_W} {b : Nat → Nat} {n N K : Nat} {sec : Bool} {P : Option Value → mm_W → Prop} (hX : CX g b n N) (hSec : f0 1988 = (if sec = true then 1 else 0)) (hK : 24 ≤ K) :
    ∀ (m l4 i p : Nat) (cs0 : List pC) (f a h : Nat → Int32), l4 + m = 12 → cs0.length = l4 → i ≤ N → p ≤ 50 → (p_code cs0).length ≤ i → smy f f0 → f 1985 = -1 → CK f v b n i → f 1989 = iI (p : Int) → f 2049 = iI ((p_code cs0).length : Nat) → f 2048 = iI (l4 : Int) → cd a 0 (p_code cs0) → p_heads h 0 0 cs0 → XRT f0 fl g gl hh v tx b n cs0 P (p_text (tcK b n) (tvK b n) sec 4900 N m i p (p_code cs0).length) →
    WP X (K + 7) 33 (10, [some (.ref 31), none, none, none, some (.int (iI (l4 : Int))), none, none, none, none, none], [], Wd f fl (va_up (va_up g 33 h) 34 a) gl hh v tx) P := by
  intro m
  have N4 := hX.N4
  induction m with
  | zero =>
    intro l4 i p cs0 f a h hm hcs hi hp ho hs h85 hC h89 h49 h48 hcd hph hR
    refine b_yre_parse_31_30_10 (h := ⟨fun _ => ?_, fun c => absurd (by simp (disch := omega) only [z_lit, z_litl, z_neg, z_negl, z_add, z_sub, z_mul, z_addl, z_subl, z_mull, z_cc, z_cl, z_cr, z_cm, z_cml, z_cmr, z_lt, z_le, z_eq, z_ltl, z_lel, z_eql, z_nat, z_i2l, z_l2i, z_div, z_sh, Int.toNat_natCast, z_ts, z_tsl]; omega) c⟩) ..
    exact cx_fail hC (b_yre_parse_31_30_242 (h := ⟨Or.inl rfl, hR.2 i rfl _ a h (smz.y hs (smx.r f).u5) va_s⟩) ..)
  | succ m ih =>
    intro l4 i p cs0 f a h hm hcs hi hp ho hs h85 hC h89 h49 h48 hcd hph hR
    have hXh : CX (va_up g 33 h) b n N := hX
    have f88 : f 1988 = (if sec = true then 1 else 0) := (hs 1988 (by omega) (by omega) (by omega) (by omega)).trans hSec
    have all := fun M => xd_all (X := X) (f0 := f) (fl := fl) (gl := gl) (hh := hh) (v := v) (tx := tx) hXh f88 M
    generalize ho' : (p_code cs0).length = o at ho h49 hR hcd
    rw [p_text] at hR
    have bad : ∀ k, p_clause (tcK b n) (tvK b n) sec 4900 i p o = some (.inl k) → ∀ f' a', smz f' f → f' 1985 = iI (ts b n k : Int) → P (some (.int 0)) (Wd f' fl (va_up (va_up g 33 h) 34 a') gl hh v tx) := fun k hk f' a' hs' h5 => hR.2 k (by rw [hk]) f' a' h (smz.y hs hs') h5
    have at183 : ∀ (j p' : Nat) (q : pC) (f' a' : Nat → Int32), p_clause (tcK b n) (tvK b n) sec 4900 i p o = some (.inr (j, p', q)) → o + q.2.2.1.length + q.2.2.2.1.length ≤ j → smx f' f → CK f' v b n j → f' 1989 = iI (p' : Int) → f' 2049 = iI ((o + q.2.2.1.length + q.2.2.2.1.length : Nat) : Int) → (∀ r, r < o → a' r = a r) → cd a' o (q.2.2.1 ++ q.2.2.2.1) → WP X (K + 7) 33 (183, [some (.ref 31), none, none, none, some (.int (iI (l4 : Int))), some (.int (iI (q.1 : Int))), some (.int (iI (o : Int))), none, some (.int (iI ((o + q.2.2.1.length : Nat) : Int))), some (.int (iI (q.2.1 : Int)))], [], Wd f' fl (va_up (va_up g 33 h) 34 a') gl hh v tx) P := by
      intro j p' q f' a' hq hoj hs' hC' a89 a49 alo acd
      obtain ⟨k1, k2⟩ := pc_le hX.c0 hq hi hp
      rw [hq] at hR
      have hR : XRT f0 fl g gl hh v tx b n cs0 P (if tcK b n j = 159 then (match p_text (tcK b n) (tvK b n) sec 4900 N m (j + 1) p' (o + q.2.2.1.length + q.2.2.2.1.length) with
          | none => none
          | some (.inl r) => some (.inl r)
          | some (.inr qs) => some (.inr (q :: qs)))
        else if j = N then some (.inr [q]) else some (.inl j)) := hR
      have m59 : (f' 1990 = (59 : Int32)) = (tcK b n j = 159) := hC'.m (w := 59) hX.b (by omega) (by omega) (by omega)
      have m1 : (f' 1990 = (-1 : Int32)) = (j = N) := by
        have hr := tM_rg hX.b n (ts b n j)
        rw [hC'.2.2.1, show (-1 : Int32) = iI (-1) from rfl, z_eq (by omega) (by omega)]
        refine propext ⟨fun e => ?_, fun e => ?_⟩
        · by_cases c : j < N
          · have := hX.2.2.2.2.2 j c
            have hb2 := hX.b (ts b n j)
            unfold tM at e
            rw [if_neg (by omega)] at e
            split at e
            · omega
            · split at e <;> omega
          · omega
        · subst e
          unfold tM
          rw [if_pos (by rw [hX.2.2.2.2.1]; exact Nat.le_refl _)]
      have h48' : f' 2048 = iI (l4 : Int) := (hs' _ (by omega) (by omega)).trans h48
      have hl4 : l4 < 12 := by omega
      have t0 : (iI (l4 : Int) * (5 : Int32) + (0 : Int32)).toNatClampNeg = 5 * l4 := by simp (disch := omega) only [z_lit, z_litl, z_neg, z_negl, z_add, z_sub, z_mul, z_addl, z_subl, z_mull, z_cc, z_cl, z_cr, z_cm, z_cml, z_cmr, z_lt, z_le, z_eq, z_ltl, z_lel, z_eql, z_nat, z_i2l, z_l2i, z_div, z_sh, Int.toNat_natCast, z_ts, z_tsl]; omega
      have t1 : (iI (l4 : Int) * (5 : Int32) + (1 : Int32)).toNatClampNeg = 5 * l4 + 1 := by simp (disch := omega) only [z_lit, z_litl, z_neg, z_negl, z_add, z_sub, z_mul, z_addl, z_subl, z_mull, z_cc, z_cl, z_cr, z_cm, z_cml, z_cmr, z_lt, z_le, z_eq, z_ltl, z_lel, z_eql, z_nat, z_i2l, z_l2i, z_div, z_sh, Int.toNat_natCast, z_ts, z_tsl]; omega
      have t2 : (iI (l4 : Int) * (5 : Int32) + (2 : Int32)).toNatClampNeg = 5 * l4 + 2 := by simp (disch := omega) only [z_lit, z_litl, z_neg, z_negl, z_add, z_sub, z_mul, z_addl, z_subl, z_mull, z_cc, z_cl, z_cr, z_cm, z_cml, z_cmr, z_lt, z_le, z_eq, z_ltl, z_lel, z_eql, z_nat, z_i2l, z_l2i, z_div, z_sh, Int.toNat_natCast, z_ts, z_tsl]; omega
      have t3 : (iI (l4 : Int) * (5 : Int32) + (3 : Int32)).toNatClampNeg = 5 * l4 + 3 := by simp (disch := omega) only [z_lit, z_litl, z_neg, z_negl, z_add, z_sub, z_mul, z_addl, z_subl, z_mull, z_cc, z_cl, z_cr, z_cm, z_cml, z_cmr, z_lt, z_le, z_eq, z_ltl, z_lel, z_eql, z_nat, z_i2l, z_l2i, z_div, z_sh, Int.toNat_natCast, z_ts, z_tsl]; omega
      have t4 : (iI (l4 : Int) * (5 : Int32) + (4 : Int32)).toNatClampNeg = 5 * l4 + 4 := by simp (disch := omega) only [z_lit, z_litl, z_neg, z_negl, z_add, z_sub, z_mul, z_addl, z_subl, z_mull, z_cc, z_cl, z_cr, z_cm, z_cml, z_cmr, z_lt, z_le, z_eq, z_ltl, z_lel, z_eql, z_nat, z_i2l, z_l2i, z_div, z_sh, Int.toNat_natCast, z_ts, z_tsl]; omega
      refine b_yre_parse_31_30_183 (h := ?_) ..
      rw [h48', m59, m1, a49, t0, t1, t2, t3, t4, i1N]
      simp (disch := decide) only [va_ne, va_s, va_cm, va_tw]
      generalize hh2 : upd (upd (upd (upd (upd h (5 * l4) (iI (q.1 : Int))) (5 * l4 + 1) (iI (q.2.1 : Int))) (5 * l4 + 2) (iI (o : Int))) (5 * l4 + 3) (iI ((o + q.2.2.1.length : Nat) : Int))) (5 * l4 + 4) (iI ((o + q.2.2.1.length + q.2.2.2.1.length : Nat) : Int)) = h2
      have hlo : ∀ r, r < 5 * l4 → h2 r = h r := fun r hr => by
        rw [← hh2, upd_ne (by omega), upd_ne (by omega), upd_ne (by omega), upd_ne (by omega), upd_ne (by omega)]
      have hph2 : p_heads h2 0 0 (cs0 ++ [q]) := by
        refine ph_snoc (ph_cg hph fun r hr => hlo r (by omega)) ?_
        rw [ho', hcs, ← hh2]
        refine ⟨?_, ?_, ?_, ?_, ?_, trivial⟩
        · rw [upd_ne (by omega), upd_ne (by omega), upd_ne (by omega), upd_ne (by omega), show 5 * (0 + l4) = 5 * l4 by omega, upd_s]
        · rw [upd_ne (by omega), upd_ne (by omega), upd_ne (by omega), show 5 * (0 + l4) + 1 = 5 * l4 + 1 by omega, upd_s]
        · rw [upd_ne (by omega), upd_ne (by omega), show 5 * (0 + l4) + 2 = 5 * l4 + 2 by omega, upd_s, Nat.zero_add]
        · rw [upd_ne (by omega), show 5 * (0 + l4) + 3 = 5 * l4 + 3 by omega, upd_s, Nat.zero_add]
        · rw [show 5 * (0 + l4) + 4 = 5 * l4 + 4 by omega, upd_s, Nat.zero_add]
      have ecode : p_code (cs0 ++ [q]) = p_code cs0 ++ (q.2.2.1 ++ q.2.2.2.1) := pcode_snoc
      have elen : (p_code (cs0 ++ [q])).length = o + q.2.2.1.length + q.2.2.2.1.length := by rw [ecode, List.length_append, List.length_append, ho']; omega
      have ccd : cd a' 0 (p_code (cs0 ++ [q])) := by
        rw [ecode]
        exact (hcd.mono (Nat.le_refl _) fun r hr => alo r (by omega)).app (by rw [Nat.zero_add, ho']; exact acd)
      have hs2 : smy (va_up f' 2048 (iI ((l4 + 1 : Nat) : Int))) f0 := fun r r1 r2 r3 r4 => (va_ne r3).trans (smx.y hs hs' r r1 r2 r3 r4)
      have hC2 : CK (va_up f' 2048 (iI ((l4 + 1 : Nat) : Int))) v b n j := hC'
      have b85 : (va_up f' 2048 (iI ((l4 + 1 : Nat) : Int))) 1985 = -1 := (va_ne (by decide)).trans ((hs' _ (by omega) (by omega)).trans h85)
      refine ⟨fun c => by simp (disch := omega) only [z_lit, z_litl, z_neg, z_negl, z_add, z_sub, z_mul, z_addl, z_subl, z_mull, z_cc, z_cl, z_cr, z_cm, z_cml, z_cmr, z_lt, z_le, z_eq, z_ltl, z_lel, z_eql, z_nat, z_i2l, z_l2i, z_div, z_sh, Int.toNat_natCast, z_ts, z_tsl] at c; omega, fun _ => ⟨fun c => by simp (disch := omega) only [z_lit, z_litl, z_neg, z_negl, z_add, z_sub, z_mul, z_addl, z_subl, z_mull, z_cc, z_cl, z_cr, z_cm, z_cml, z_cmr, z_lt, z_le, z_eq, z_ltl, z_lel, z_eql, z_nat, z_i2l, z_l2i, z_div, z_sh, Int.toNat_natCast, z_ts, z_tsl] at c; omega, fun _ => ⟨by simp (disch := omega) only [z_lit, z_litl, z_neg, z_negl, z_add, z_sub, z_mul, z_addl, z_subl, z_mull, z_cc, z_cl, z_cr, z_cm, z_cml, z_cmr, z_lt, z_le, z_eq, z_ltl, z_lel, z_eql, z_nat, z_i2l, z_l2i, z_div, z_sh, Int.toNat_natCast, z_ts, z_tsl]; omega, by simp (disch := omega) only [z_lit, z_litl, z_neg, z_negl, z_add, z_sub, z_mul, z_addl, z_subl, z_mull, z_cc, z_cl, z_cr, z_cm, z_cml, z_cmr, z_lt, z_le, z_eq, z_ltl, z_lel, z_eql, z_nat, z_i2l, z_l2i, z_div, z_sh, Int.toNat_natCast, z_ts, z_tsl]; omega, by simp (disch := omega) only [z_lit, z_litl, z_neg, z_negl, z_add, z_sub, z_mul, z_addl, z_subl, z_mull, z_cc, z_cl, z_cr, z_cm, z_cml, z_cmr, z_lt, z_le, z_eq, z_ltl, z_lel, z_eql, z_nat, z_i2l, z_l2i, z_div, z_sh, Int.toNat_natCast, z_ts, z_tsl]; omega, by simp (disch := omega) only [z_lit, z_litl, z_neg, z_negl, z_add, z_sub, z_mul, z_addl, z_subl, z_mull, z_cc, z_cl, z_cr, z_cm, z_cml, z_cmr, z_lt, z_le, z_eq, z_ltl, z_lel, z_eql, z_nat, z_i2l, z_l2i, z_div, z_sh, Int.toNat_natCast, z_ts, z_tsl]; omega, by simp (disch := omega) only [z_lit, z_litl, z_neg, z_negl, z_add, z_sub, z_mul, z_addl, z_subl, z_mull, z_cc, z_cl, z_cr, z_cm, z_cml, z_cmr, z_lt, z_le, z_eq, z_ltl, z_lel, z_eql, z_nat, z_i2l, z_l2i, z_div, z_sh, Int.toNat_natCast, z_ts, z_tsl]; omega, fun y59 => ?_, fun n59 => ⟨fun yN => ?_, fun nN => ?_⟩⟩⟩⟩
      · rw [if_pos y59] at hR
        have hjN : j < N := hX.s (by rw [y59]; decide)
        refine cx_step (g := va_up g 33 h2) hX hC2 hjN fun f3 hf3 hC3 => ?_
        refine b_yre_parse_31_30_232 (h := ?_) ..
        rw [i1N]
        have hs3 : smy f3 f0 := fun r r1 r2 r3 r4 => (hf3 r (by omega)).trans (hs2 r r1 r2 r3 r4)
        refine ih (l4 + 1) (j + 1) p' (cs0 ++ [q]) f3 a' h2 (by omega) (by rw [List.length_append, hcs]; rfl) hjN k2 (by omega) hs3 ((hf3 _ (by omega)).trans b85) hC3 ((hf3 _ (by omega)).trans ((va_ne (by decide)).trans a89)) ((hf3 _ (by omega)).trans ((va_ne (by decide)).trans (by rw [a49, elen]))) ((hf3 _ (by omega)).trans va_s) ccd hph2 ?_
        rw [elen]
        refine ⟨fun cs hcs2 => ?_, fun k hk => hR.2 k (by rw [hk])⟩
        have := hR.1 (q :: cs) (by rw [hcs2])
        rw [List.append_assoc]
        exact this
      · rw [if_neg n59, if_pos yN] at hR
        exact hR.1 [q] rfl _ a' h2 hs2 b85 (by rw [va_s, List.length_append, hcs]; rfl) (by rw [va_ne (by decide), a49, elen]) hph2 ccd
      · rw [if_neg n59, if_neg nN] at hR
        refine cx_fail (g := va_up g 33 h2) hC2 (b_yre_parse_31_30_219 (h := ⟨fun _ => ?_, fun c => absurd rfl c⟩) ..)
        exact hR.2 j rfl _ a' h2 (smz.y hs2 (smx.r _).u5) va_s
    have at149 : ∀ (k j p1 j2 t : Nat) (C1 : List Nat) (e1 : pE → Option Int) (f' a' : Nat → Int32), p_kind sec (tcK b n i) = some k → p_sum0 (tcK b n) (tvK b n) sec 4900 k (i + 1) p o = some (.inr (j, p1, C1, e1)) → p_times (tcK b n) (tvK b n) sec j = .inr (j2, t) → t ≤ 20 → j2 ≤ N → p1 ≤ 50 → o + C1.length ≤ j2 → smx f' f → CK f' v b n j2 → f' 1989 = iI (p1 : Int) → f' 2049 = iI ((o + C1.length : Nat) : Int) → (∀ r, r < o → a' r = a r) → cd a' o C1 → WP X (K + 7) 33 (149, [some (.ref 31), none, none, none, some (.int (iI (l4 : Int))), some (.int (iI (k : Int))), some (.int (iI (o : Int))), none, some (.int (iI ((o + C1.length : Nat) : Int))), none], [.int (iI (t : Int))], Wd f' fl (va_up (va_up g 33 h) 34 a') gl hh v tx) P := by
      intro k j p1 j2 t C1 e1 f' a' hk hsu hti ht hj2 hp1 ho2 hs' hC' a89 a49 alo acd
      have ec : p_clause (tcK b n) (tvK b n) sec 4900 i p o = (match p_test (tcK b n) (tvK b n) sec 4900 j2 p1 (o + C1.length) with
        | none => none
        | some (.inl q) => some (.inl q)
        | some (.inr (j3, p3, C2, e2)) => some (.inr (j3, p3, k, t, C1, C2, e1, e2))) := by
        unfold p_clause
        rw [hk]
        simp only [hsu, hti]
        rfl
      refine b_yre_parse_31_30_149 (h := ⟨fun _ => ?_, fun c => ?_⟩) ..
      · refine cx_one (g := va_up g 33 h) (c := 3) hX hC' (by decide) rfl (by decide) (by decide) (fun ew => ?_) fun n0 => ?_
        · have hj3 : j2 < N := hX.s (by rw [ew]; decide)
          have et : p_test (tcK b n) (tvK b n) sec 4900 j2 p1 (o + C1.length) = pP (tcK b n) (tvK b n) sec 4900 5 0 (j2 + 1) p1 (o + C1.length) 0 [] p_e0 := by unfold p_test; rw [if_pos ew]
          rw [et] at ec
          refine b_yre_parse_31_30_165 (h := ⟨fun c => absurd rfl c, fun _ => ?_⟩) ..
          refine cx_step (g := va_up g 33 h) hX hC' hj3 fun f2 hf2 hC2 => ?_
          have hs2 := hs'.st hf2
          refine b_yre_parse_31_30_172 (h := ?_) ..
          have r5 : p_rk 5 = 6 := rfl
          refine all 4900 5 0 (j2 + 1) p1 (o + C1.length) 0 0 [] p_e0 K f2 a' _ (by omega) (by omega) (by omega) (by omega) hp1 (by omega) (by omega) (show o + C1.length + 0 + 0 ≤ j2 + 1 by omega) (fun _ => rfl) (fun h => by omega) (p_tot hX.c0 4900 5 0 (j2 + 1) p1 _ 0 [] p_e0 (by omega) (by omega) (by omega) hp1 (fun h => by omega) (by omega)) hs2 hC2 ((hf2 _ (by omega)).trans a89) ((hf2 _ (by omega)).trans a49) cd.nil ⟨fun j3 p3 C2 e2 h1 f3 a3 hs3 hC3 b89 b49 blo bcd => ?_, fun k3 h1 f3 a3 hs3 b85 => ?_⟩
          · obtain ⟨g1, g2, g3, g4, g5, g6, -⟩ := p_inv hX.c0 E00_ok _ _ _ _ _ _ _ _ _ _ _ _ _ h1 (by omega) (by omega) (by omega) hp1 (fun h => by omega)
            have g6 := g6 (by omega) (by omega)
            rw [h1] at ec
            refine b_yre_parse_31_30_178 (h := ⟨fun _ => ?_, fun c => absurd c (by decide)⟩) ..
            exact at183 j3 p3 (k, t, C1, C2, e1, e2) f3 a3 ec (show o + C1.length + C2.length ≤ j3 by omega) hs3 hC3 b89 b49 (fun r hr => (blo r (by omega)).trans (alo r hr)) ((acd.mono (Nat.le_refl _) blo).app bcd)
          · rw [h1] at ec
            exact b_yre_parse_31_30_178 (h := ⟨fun c => absurd rfl c, fun _ => bad k3 ec f3 a3 hs3 b85⟩) ..
        · have et : p_test (tcK b n) (tvK b n) sec 4900 j2 p1 (o + C1.length) = some (.inr (j2, p1, [], fun _ => some 1)) := by unfold p_test; rw [if_neg n0]
          rw [et] at ec
          refine b_yre_parse_31_30_165 (h := ⟨fun _ => ?_, fun c => absurd c (by decide)⟩) ..
          exact at183 j2 p1 (k, t, C1, [], e1, fun _ => some 1) f' a' ec (show o + C1.length + 0 ≤ j2 by omega) hs' hC' a89 a49 alo (by show cd a' o (C1 ++ []); rw [List.append_nil]; exact acd)
      · have c : iI (t : Int) = iI (-1) := c
        rw [z_eq (by omega) (by omega)] at c
        omega
    have at116 : ∀ (k j p1 : Nat) (C1 : List Nat) (e1 : pE → Option Int) (f' a' : Nat → Int32), p_kind sec (tcK b n i) = some k → p_sum0 (tcK b n) (tvK b n) sec 4900 k (i + 1) p o = some (.inr (j, p1, C1, e1)) → j ≤ N → p1 ≤ 50 → o + C1.length ≤ j → smx f' f → CK f' v b n j → f' 1989 = iI (p1 : Int) → f' 2049 = iI ((o + C1.length : Nat) : Int) → (∀ r, r < o → a' r = a r) → cd a' o C1 → WP X (K + 7) 33 (116, [some (.ref 31), none, none, none, some (.int (iI (l4 : Int))), some (.int (iI (k : Int))), some (.int (iI (o : Int))), none, none, none], [], Wd f' fl (va_up (va_up g 33 h) 34 a') gl hh v tx) P := by
      intro k j p1 C1 e1 f' a' hk hsu hj hp1 ho2 hs' hC' a89 a49 alo acd
      have a88 : f' 1988 = (if sec = true then 1 else 0) := (hs' _ (by omega) (by omega)).trans f88
      have one : p_times (tcK b n) (tvK b n) sec j = .inr (j, 1) → WP X (K + 7) 33 (148, [some (.ref 31), none, none, none, some (.int (iI (l4 : Int))), some (.int (iI (k : Int))), some (.int (iI (o : Int))), none, some (.int (iI ((o + C1.length : Nat) : Int))), none], [], Wd f' fl (va_up (va_up g 33 h) 34 a') gl hh v tx) P := fun hti =>
        b_yre_parse_31_30_148 (h := at149 k j p1 j 1 C1 e1 f' a' hk hsu hti (by omega) hj hp1 ho2 hs' hC' a89 a49 alo acd) ..
      refine b_yre_parse_31_30_116 (h := ?_) ..
      rw [a88, a49]
      cases sec with
      | false => exact ⟨fun _ => one (by unfold p_times; rw [if_neg fun h => absurd h.1 (by decide)]), fun c => absurd rfl c⟩
      | true =>
        refine ⟨fun c => absurd c (by decide), fun _ => ?_⟩
        refine cx_one (g := va_up g 33 h) (c := 23) hX hC' (by decide) rfl (by decide) (by decide) (fun ew => ?_) fun n0 => ?_
        · have hjN : j < N := hX.s (by rw [ew]; decide)
          have et : p_times (tcK b n) (tvK b n) true j = if tcK b n (j + 1) = 50 ∧ 1 ≤ tvK b n (j + 1) ∧ tvK b n (j + 1) ≤ 20 then .inr (j + 2, tvK b n (j + 1)) else .inl (j + 1) := by unfold p_times; rw [if_pos ⟨rfl, ew⟩]
          refine b_yre_parse_31_30_138 (h := ⟨fun c => absurd rfl c, fun _ => ?_⟩) ..
          refine b_yre_times_31_0 (h := ?_) ..
          refine cx_step (g := va_up g 33 h) hX hC' hjN fun f2 hf2 hC2 => ?_
          have hs2 := hs'.st hf2
          have n48 : (f2 1990 = (48 : Int32)) = (tcK b n (j + 1) = 50) := hC2.d hX.b
          have no : ¬ (tcK b n (j + 1) = 50 ∧ 1 ≤ tvK b n (j + 1) ∧ tvK b n (j + 1) ≤ 20) → WP X (K + 5) 40 (0, [some (.ref 31)], [], Wd f2 fl (va_up (va_up g 33 h) 34 a') gl hh v tx) (fun rv w2 => WP X (K + 6) 35 (34, [some (.ref 31), none], rv.toList ++ [], w2) (fun rv w2 => WP X (K + 7) 33 (145, [some (.ref 31), none, none, none, some (.int (iI (l4 : Int))), some (.int (iI (k : Int))), some (.int (iI (o : Int))), none, some (.int (iI ((o + C1.length : Nat) : Int))), none], rv.toList ++ [], w2) P)) := by
            intro hn
            rw [if_neg hn] at et
            have ec : p_clause (tcK b n) (tvK b n) true 4900 i p o = some (.inl (j + 1)) := by
              unfold p_clause
              rw [hk]
              simp only [hsu, et]
            refine cx_fail (g := va_up g 33 h) hC2 (b_yre_times_31_34 (h := ?_) ..)
            refine b_yre_parse_31_30_145 (h := ?_) ..
            exact b_yre_parse_31_30_149 (h := ⟨fun c => absurd rfl c, fun _ => bad (j + 1) ec _ a' hs2.u5 va_s⟩) ..
          refine b_yre_times_31_4 (h := ?_) ..
          rw [n48]
          refine ⟨fun c => no fun h => c h.1, fun y50 => ?_⟩
          have b93 := hC2.n y50
          rw [b93]
          refine ⟨fun c => no fun h => ?_, fun c => ⟨fun c2 => ?_, fun c2 => no fun h => ?_⟩⟩
          · simp (disch := omega) only [z_lit, z_litl, z_neg, z_negl, z_add, z_sub, z_mul, z_addl, z_subl, z_mull, z_cc, z_cl, z_cr, z_cm, z_cml, z_cmr, z_lt, z_le, z_eq, z_ltl, z_lel, z_eql, z_nat, z_i2l, z_l2i, z_div, z_sh, Int.toNat_natCast, z_ts, z_tsl] at c
            omega
          · have hv : 1 ≤ tvK b n (j + 1) ∧ tvK b n (j + 1) ≤ 20 := by
              simp (disch := omega) only [z_lit, z_litl, z_neg, z_negl, z_add, z_sub, z_mul, z_addl, z_subl, z_mull, z_cc, z_cl, z_cr, z_cm, z_cml, z_cmr, z_lt, z_le, z_eq, z_ltl, z_lel, z_eql, z_nat, z_i2l, z_l2i, z_div, z_sh, Int.toNat_natCast, z_ts, z_tsl] at c
              simp (disch := omega) only [z_lit, z_litl, z_neg, z_negl, z_add, z_sub, z_mul, z_addl, z_subl, z_mull, z_cc, z_cl, z_cr, z_cm, z_cml, z_cmr, z_lt, z_le, z_eq, z_ltl, z_lel, z_eql, z_nat, z_i2l, z_l2i, z_div, z_sh, Int.toNat_natCast, z_ts, z_tsl] at c2
              omega
            have hj2 : j + 1 < N := hX.s (by rw [y50]; decide)
            rw [if_pos ⟨y50, hv⟩] at et
            rw [show min (tvK b n (j + 1)) 1001 = tvK b n (j + 1) by omega]
            refine cx_step (g := va_up g 33 h) hX hC2 hj2 fun f3 hf3 hC3 => ?_
            refine b_yre_times_31_46 (h := ?_) ..
            refine b_yre_parse_31_30_145 (h := ?_) ..
            exact at149 k j p1 (j + 2) (tvK b n (j + 1)) C1 e1 f3 a' hk hsu et hv.2 hj2 hp1 (by omega) (hs2.st hf3) hC3 ((hf3 _ (by omega)).trans ((hf2 _ (by omega)).trans a89)) ((hf3 _ (by omega)).trans ((hf2 _ (by omega)).trans a49)) alo acd
          · simp (disch := omega) only [z_lit, z_litl, z_neg, z_negl, z_add, z_sub, z_mul, z_addl, z_subl, z_mull, z_cc, z_cl, z_cr, z_cm, z_cml, z_cmr, z_lt, z_le, z_eq, z_ltl, z_lel, z_eql, z_nat, z_i2l, z_l2i, z_div, z_sh, Int.toNat_natCast, z_ts, z_tsl] at c2
            omega
        · refine b_yre_parse_31_30_138 (h := ⟨fun _ => one ?_, fun c => absurd c (by decide)⟩) ..
          unfold p_times
          rw [if_neg fun h => n0 h.2]
    have at35 : WP X (K + 7) 33 (35, [some (.ref 31), none, none, none, some (.int (iI (l4 : Int))), none, none, none, none, none], [.int (iI (pkV (pkR b n (ts b n i) (wdk sec))))], Wd f fl (va_up (va_up g 33 h) 34 a) gl hh v tx) P := by
      rw [pkR_kind hX.b (n := n) (s := ts b n i) sec]
      show WP X (K + 7) 33 (35, _, [.int (iI (pkV (p_kind sec (tcK b n i))))], _) P
      cases hk : p_kind sec (tcK b n i) with
      | none =>
        refine b_yre_parse_31_30_35 (h := ⟨fun c => absurd rfl c, fun _ => ?_⟩) ..
        exact cx_fail (g := va_up g 33 h) hC (b_yre_parse_31_30_47 (h := ⟨Or.inl rfl, bad i (by unfold p_clause; rw [hk]) _ a (smx.r f).u5 va_s⟩) ..)
      | some k =>
        rw [show pkV (some k) = (k : Int) from rfl]
        have hiN : i < N := hX.s fun h => by rw [h] at hk; revert hk; cases sec <;> (intro hk; cases hk)
        have kn := p_kind_n hk
        have hk3 : k ≤ 3 := by
          cases sec with
          | false => have := kn.2.2.1 rfl; omega
          | true => have := kn.2.2.2 rfl; omega
        refine b_yre_parse_31_30_35 (h := ⟨fun _ => ?_, fun c => ?_⟩) ..
        · refine cx_step (g := va_up g 33 h) hX hC hiN fun f2 hf2 hC2 => ?_
          have hs2 := (smx.r f).st hf2
          have b89 : f2 1989 = iI (p : Int) := (hf2 _ (by omega)).trans h89
          have b49 : f2 2049 = iI (o : Int) := (hf2 _ (by omega)).trans h49
          have b88 : f2 1988 = (if sec = true then 1 else 0) := (hf2 _ (by omega)).trans f88
          have no : p_summed sec k = false → WP X (K + 7) 33 (98, [some (.ref 31), none, none, none, some (.int (iI (l4 : Int))), some (.int (iI (k : Int))), some (.int (iI (o : Int))), none, none, none], [.int 0], Wd f2 fl (va_up (va_up g 33 h) 34 a) gl hh v tx) P := by
            intro hsm
            refine b_yre_parse_31_30_98 (h := ⟨fun _ => ?_, fun c => absurd rfl c⟩) ..
            exact at116 k (i + 1) p [] (fun _ => some 1) f2 a hk (by unfold p_sum0; rw [if_neg (by rw [hsm]; decide)]) hiN hp (show o + 0 ≤ i + 1 by omega) hs2 hC2 b89 b49 (fun _ _ => rfl) cd.nil
          have yes : p_summed sec k = true → WP X (K + 7) 33 (98, [some (.ref 31), none, none, none, some (.int (iI (l4 : Int))), some (.int (iI (k : Int))), some (.int (iI (o : Int))), none, none, none], [.int 1], Wd f2 fl (va_up (va_up g 33 h) 34 a) gl hh v tx) P := by
            intro hsm
            have es : p_sum0 (tcK b n) (tvK b n) sec 4900 k (i + 1) p o = pP (tcK b n) (tvK b n) sec 4900 2 0 (i + 1) p o 0 [] p_e0 := by unfold p_sum0; rw [if_pos hsm]
            refine b_yre_parse_31_30_98 (h := ⟨fun c => absurd c (by decide), fun _ => ?_⟩) ..
            have r2 : p_rk 2 = 3 := rfl
            refine all 4900 2 0 (i + 1) p o 0 0 [] p_e0 (K + 3) f2 a _ (by omega) (by omega) (by omega) (by omega) hp (by omega) (by omega) (show o + 0 + 0 ≤ i + 1 by omega) (fun _ => rfl) (fun h => by omega) (p_tot hX.c0 4900 2 0 (i + 1) p _ 0 [] p_e0 (by omega) (by omega) (by omega) hp (fun h => by omega) (by omega)) hs2 hC2 b89 b49 cd.nil ⟨fun j3 p3 C2 e2 h1 f3 a3 hs3 hC3 c89 c49 blo bcd => ?_, fun k3 h1 f3 a3 hs3 c85 => ?_⟩
            · obtain ⟨g1, g2, g3, g4, g5, g6, -⟩ := p_inv hX.c0 E00_ok _ _ _ _ _ _ _ _ _ _ _ _ _ h1 (by omega) (by omega) (by omega) hp (fun h => by omega)
              have g6 := g6 (by omega) (by omega)
              refine b_yre_parse_31_30_111 (h := ⟨fun _ => ?_, fun c => absurd c (by decide)⟩) ..
              exact at116 k j3 p3 C2 e2 f3 a3 hk (es.trans h1) g2 g3 (by omega) hs3 hC3 c89 c49 blo bcd
            · refine b_yre_parse_31_30_111 (h := ⟨fun c => absurd rfl c, fun _ => bad k3 ?_ f3 a3 hs3 c85⟩) ..
              unfold p_clause
              rw [hk]
              simp only [es, h1]
          refine b_yre_parse_31_30_52 (h := ?_) ..
          rw [b88, b49]
          have k0 : (iI (k : Int) = (0 : Int32)) = (k = 0) := by
            rw [show (0 : Int32) = iI 0 from rfl, z_eq (by omega) (by omega)]
            exact propext ⟨fun h => by omega, fun h => by omega⟩
          have k2 : (iI (k : Int) = (2 : Int32)) = (k = 2) := by
            rw [show (2 : Int32) = iI 2 from rfl, z_eq (by omega) (by omega)]
            exact propext ⟨fun h => by omega, fun h => by omega⟩
          rw [k0, k2]
          cases sec with
          | false => exact ⟨fun _ => ⟨fun e => no (by subst e; rfl), fun e => yes (by unfold p_summed; simp [e])⟩, fun c => absurd rfl c⟩
          | true => exact ⟨fun c => absurd c (by decide), fun _ => ⟨fun e => b_yre_parse_31_30_79 (h := yes (by subst e; rfl)) .., fun e => ⟨fun e2 => no (by unfold p_summed; simp [e, e2]), fun e2 => b_yre_parse_31_30_79 (h := yes (by subst e2; rfl)) ..⟩⟩⟩
        · have c : iI (k : Int) = iI (-1) := c
          rw [z_eq (by omega) (by omega)] at c
          omega
    refine b_yre_parse_31_30_10 (h := ⟨fun c => ?_, fun _ => ?_⟩) ..
    · simp (disch := omega) only [z_lit, z_litl, z_neg, z_negl, z_add, z_sub, z_mul, z_addl, z_subl, z_mull, z_cc, z_cl, z_cr, z_cm, z_cml, z_cmr, z_lt, z_le, z_eq, z_ltl, z_lel, z_eql, z_nat, z_i2l, z_l2i, z_div, z_sh, Int.toNat_natCast, z_ts, z_tsl] at c
      omega
    · show (f 1988 = 0 → _) ∧ (¬ f 1988 = 0 → _)
      rw [f88]
      cases sec with
      | false => exact ⟨fun _ => b_yre_parse_31_30_32 (h := cx_pick (g := va_up g 33 h) hX hC (ws := wdk false) rfl (by decide) (by decide) (wdk_ok false) at35) .., fun c => absurd rfl c⟩
      | true => exact ⟨fun c => absurd c (by decide), fun _ => b_yre_parse_31_30_32a (h := cx_pick (g := va_up g 33 h) hX hC (ws := wdk true) rfl (by decide) (by decide) (wdk_ok true) at35) ..⟩
/-- but for these the same -/
def smw (f' f : Nat → Int32) : Prop := ∀ a, a < 1985 ∨ (1993 < a ∧ a ≠ 2048 ∧ a ≠ 2049) → f' a = f a
theorem c_x_parse {X : mm_X} {f : Nat → Int32} {fl : Nat → Int64} {g : Nat → Nat → Int32} {gl : Nat → Nat → Int64} {hh : Nat → Nat → Option Nat} {v : Nat → Value} {tx : mm_W} {P : Option Value → mm_W → Prop} {b : Nat → Nat} {n N K : Nat} {sec : Bool} (hK : 24 ≤ K) (hX : CX g b n N)
    (h1 : ∀ (cs : List pC) (f' a33 a34 : Nat → Int32), p_text (tcK b n) (tvK b n) sec 4900 N 12 0 0 0 = some (.inr cs) → smw f' f → f' 1985 = -1 → f' 2048 = iI (cs.length : Nat) → f' 2049 = iI ((p_code cs).length : Nat) → p_heads a33 0 0 cs → cd a34 0 (p_code cs) → P (some (.int 1)) (Wd f' fl (va_up (va_up g 33 a33) 34 a34) gl hh (va_up v 1986 (.ref 30)) tx))
    (h0 : ∀ (k : Nat) (f' a33 a34 : Nat → Int32), p_text (tcK b n) (tvK b n) sec 4900 N 12 0 0 0 = some (.inl k) → smw f' f → f' 1985 = iI (ts b n k : Int) → P (some (.int 0)) (Wd f' fl (va_up (va_up g 33 a33) 34 a34) gl hh (va_up v 1986 (.ref 30)) tx)) :
    WP X (K + 7) 33 (0, [some (.ref 31), some (.ref 30), some (.int (iI (n : Int))), some (.int (if sec = true then 1 else 0)), none, none, none, none, none, none], [], Wd f fl g gl hh v tx) P := by
  have hn := hX.1
  refine b_yre_parse_31_30_0 (h := ?_) ..
  refine b_yre_begin_31_30_0 (h := ⟨by cases sec <;> first | exact Or.inl rfl | exact Or.inr rfl, ?_⟩) ..
  have e87 : (if (400 : Int32) < iI (n : Int) then (400 : Int32) else iI (n : Int)) = iI (n : Int) := if_neg (by simp (disch := omega) only [z_lit, z_litl, z_neg, z_negl, z_add, z_sub, z_mul, z_addl, z_subl, z_mull, z_cc, z_cl, z_cr, z_cm, z_cml, z_cmr, z_lt, z_le, z_eq, z_ltl, z_lel, z_eql, z_nat, z_i2l, z_l2i, z_div, z_sh, Int.toNat_natCast, z_ts, z_tsl]; omega)
  rw [e87]
  refine c_step (b := b) (n := n) (e := 0) (v := va_up v 1986 (.ref 30)) hn hX.2.1 hX.2.2.1 rfl rfl rfl (Nat.zero_le _) ?_
  refine b_yre_begin_31_30_55 (h := ?_) ..
  refine b_yre_parse_31_30_7 (h := ?_) ..
  have main : ∀ f2 : Nat → Int32, smw f2 f → CK f2 (va_up v 1986 (.ref 30)) b n 0 → f2 1988 = (if sec = true then 1 else 0) → f2 1985 = -1 → f2 1989 = iI ((0 : Nat) : Int) → f2 2049 = iI ((0 : Nat) : Int) → f2 2048 = iI ((0 : Nat) : Int) → WP X (K + 7) 33 (10, [some (.ref 31), none, none, none, some (.int 0), none, none, none, none, none], [], Wd f2 fl g gl hh (va_up v 1986 (.ref 30)) tx) P := by
    intro f2 hs hC e88 e85 e89 e49 e48
    have hw : ∀ f', smy f' f2 → smw f' f := fun f' h a ha => (h a (by omega) (by omega) (by omega) (by omega)).trans (hs a ha)
    have := xt_all (X := X) (f0 := f2) (fl := fl) (gl := gl) (hh := hh) (v := va_up v 1986 (.ref 30)) (tx := tx) (P := P) hX e88 hK 12 0 0 0 [] f2 (g 34) (g 33) rfl rfl (Nat.zero_le _) (Nat.zero_le _) (Nat.zero_le _) (fun _ _ _ _ _ => rfl) e85 hC e89 e49 e48 cd.nil trivial ⟨fun cs hcs f' a' h' hs' q1 q2 q3 q4 q5 => h1 cs f' h' a' hcs (hw f' hs') q1 q2 q3 q4 q5, fun k hk f' a' h' hs' q1 => h0 k f' h' a' hk (hw f' hs') q1⟩
    rw [show va_up (va_up g 33 (g 33)) 34 (g 34) = g by rw [va_id (f := g) rfl, va_id rfl]] at this
    exact this
  refine main _ (fun a ha => ?_) ⟨rfl, rfl, rfl, rfl, rfl, rfl⟩ rfl rfl rfl rfl rfl
  rw [va_ne (by omega), va_ne (by omega), va_ne (by omega), va_ne (by omega), va_ne (by omega), va_ne (by omega), va_ne (by omega), va_ne (by omega), va_ne (by omega), va_ne (by omega), va_ne (by omega)]
