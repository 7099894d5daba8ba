/-! the class runs orders -/
theorem c_value_A {X : mm_X} {d : Nat} {f : Nat → Int32} {fl : Nat → Int64} {g : Nat → Nat → Int32} {gl : Nat → Nat → Int64} {hh : Nat → Nat → Option Nat} {v : Nat → Value} {tx : mm_W} {P : Option Value → mm_W → Prop} {E : pE} {c cv : Nat → Nat} {size m what o mode : Nat} {C : List Nat} {e : pE → Option Int} (hE : ∀ w, -2147483648 ≤ E w ∧ E w < 2147483648) (hW : ∀ w, w < 11 → g 37 w = iI (E w)) (hc0 : ∀ i, size ≤ i → c i = 0) (hmode : mode = 2 ∨ mode = 5) (hX : pcX c cv true size mode o C e) (hm : 5 * m + what + 1 < 60) (hh1 : g 33 (5 * m + what) = iI (o : Int)) (hh2 : g 33 (5 * m + what + 1) = iI ((o + C.length : Nat) : Int)) (hlen : o + C.length ≤ 400) (hcode : ∀ k x, C[k]? = some x → g 34 (o + k) = iI ((x : Nat) : Int))
    (hS : ∀ y st, e E = some y → P (some (.long (lI y))) (Wd f fl g (va_up gl 36 st) hh v tx)) (hN : ∀ st, e E = none → P (some (.long (-4000000000000000000))) (Wd f fl g (va_up gl 36 st) hh v tx)) : WP X (d + 2) 30 (0, [some (.ref 35), some (.ref 32), some (.int (iI (m : Int))), some (.int (iI (what : Int))), some (.ref 37), none, none, none, none, none, none, none, none], [], Wd f fl g gl hh v tx) P := by
  have e1 : iI (m : Int) * (5 : Int32) + iI (what : Int) = iI ((5 * m + what : Nat) : Int) := by simp (disch := omega) only [z_lit, z_litl, z_neg, z_negl, z_add, z_sub, z_mul, z_addl, z_subl, z_mull, z_cc, z_cl, z_cr, z_cm, z_cml, z_cmr, z_lt, z_le, z_eq, z_ltl, z_lel, z_eql, z_nat, z_i2l, z_l2i, z_div, z_sh, Int.toNat_natCast, z_ts, z_tsl]; congr 1; omega
  have e2 : iI (m : Int) * (5 : Int32) + (iI (what : Int) + (1 : Int32)) = iI ((5 * m + what + 1 : Nat) : Int) := by simp (disch := omega) only [z_lit, z_litl, z_neg, z_negl, z_add, z_sub, z_mul, z_addl, z_subl, z_mull, z_cc, z_cl, z_cr, z_cm, z_cml, z_cmr, z_lt, z_le, z_eq, z_ltl, z_lel, z_eql, z_nat, z_i2l, z_l2i, z_div, z_sh, Int.toNat_natCast, z_ts, z_tsl]; congr 1; omega
  have t1 : (iI ((5 * m + what : Nat) : Int)).toNatClampNeg = 5 * m + what := by rw [z_nat (by omega)]; omega
  have t2 : (iI ((5 * m + what + 1 : Nat) : Int)).toNatClampNeg = 5 * m + what + 1 := by rw [z_nat (by omega)]; omega
  have emin : (if (400 : Int32) < iI ((o + C.length : Nat) : Int) then (400 : Int32) else iI ((o + C.length : Nat) : Int)) = iI ((o + C.length : Nat) : Int) := if_neg (by simp (disch := omega) only [z_lit, z_litl, z_neg, z_negl, z_add, z_sub, z_mul, z_addl, z_subl, z_mull, z_cc, z_cl, z_cr, z_cm, z_cml, z_cmr, z_lt, z_le, z_eq, z_ltl, z_lel, z_eql, z_nat, z_i2l, z_l2i, z_div, z_sh, Int.toNat_natCast, z_ts, z_tsl]; omega)
  have g36 : va_up gl 36 (gl 36) = gl := va_id rfl
  have n1 : ¬ iI ((5 * m + what : Nat) : Int) < 0 := by simp (disch := omega) only [z_lit, z_litl, z_neg, z_negl, z_add, z_sub, z_mul, z_addl, z_subl, z_mull, z_cc, z_cl, z_cr, z_cm, z_cml, z_cmr, z_lt, z_le, z_eq, z_ltl, z_lel, z_eql, z_nat, z_i2l, z_l2i, z_div, z_sh, Int.toNat_natCast, z_ts, z_tsl]; omega
  have n2 : ¬ iI ((5 * m + what + 1 : Nat) : Int) < 0 := by simp (disch := omega) only [z_lit, z_litl, z_neg, z_negl, z_add, z_sub, z_mul, z_addl, z_subl, z_mull, z_cc, z_cl, z_cr, z_cm, z_cml, z_cmr, z_lt, z_le, z_eq, z_ltl, z_lel, z_eql, z_nat, z_i2l, z_l2i, z_div, z_sh, Int.toNat_natCast, z_ts, z_tsl]; omega
  have n3 : ¬ (60 : Int32) ≤ iI ((5 * m + what : Nat) : Int) := by simp (disch := omega) only [z_lit, z_litl, z_neg, z_negl, z_add, z_sub, z_mul, z_addl, z_subl, z_mull, z_cc, z_cl, z_cr, z_cm, z_cml, z_cmr, z_lt, z_le, z_eq, z_ltl, z_lel, z_eql, z_nat, z_i2l, z_l2i, z_div, z_sh, Int.toNat_natCast, z_ts, z_tsl]; omega
  have n4 : ¬ (60 : Int32) ≤ iI ((5 * m + what + 1 : Nat) : Int) := by simp (disch := omega) only [z_lit, z_litl, z_neg, z_negl, z_add, z_sub, z_mul, z_addl, z_subl, z_mull, z_cc, z_cl, z_cr, z_cm, z_cml, z_cmr, z_lt, z_le, z_eq, z_ltl, z_lel, z_eql, z_nat, z_i2l, z_l2i, z_div, z_sh, Int.toNat_natCast, z_ts, z_tsl]; omega
  have n5 : ¬ iI (o : Int) < 0 := by simp (disch := omega) only [z_lit, z_litl, z_neg, z_negl, z_add, z_sub, z_mul, z_addl, z_subl, z_mull, z_cc, z_cl, z_cr, z_cm, z_cml, z_cmr, z_lt, z_le, z_eq, z_ltl, z_lel, z_eql, z_nat, z_i2l, z_l2i, z_div, z_sh, Int.toNat_natCast, z_ts, z_tsl]; omega
  refine b_yma_value_35_32_37_0 (h := ?_) ..
  rw [e1, e2, t1, t2, hh1, hh2, emin]
  refine ⟨fun c => absurd c n1, fun _ => ⟨fun c => absurd c n3, fun _ => ⟨fun c => ?_, fun c => absurd c n2, fun _ => ⟨fun c => absurd c n4, fun _ => ⟨fun c => ?_, fun c => absurd c n5, fun _ => ?_⟩⟩⟩⟩⟩
  · rcases c with c | c
    · exact n1 c
    · omega
  · rcases c with c | c
    · exact n2 c
    · omega
  rcases hX with ⟨rfl, rfl⟩ | ⟨n, i, p, j, p', h1, h2, h3⟩
  · refine ⟨fun c => absurd c (by rw [show o + ([] : List Nat).length = o from rfl]; exact fun q => Int32.lt_irrefl q), fun _ => ?_⟩
    have := hS 1 (gl 36) rfl
    rw [g36] at this
    exact this
  · have hpos := (p_pos _ _ _ _ _ _ _ _ _ _ _ _ _ h1 (by omega)).1 (by omega)
    have run : WP X (d + 1 + 1) 30 (47, [some (.ref 35), some (.ref 32), none, none, some (.ref 37), none, some (.int (iI ((o + C.length : Nat) : Int))), some (.int (iI ((0 : Nat) : Int))), some (.int (iI ((o : Nat) : Int))), none, none, none, none], [], Wd f fl g (va_up gl 36 (gl 36)) hh v tx) P := by
      have fin : ∀ y st', e E = some y → (∀ k, k < 0 → st' k = gl 36 k) → st' 0 = lI y → WP X (d + 1 + 1) 30 (47, [some (.ref 35), some (.ref 32), none, none, some (.ref 37), none, some (.int (iI ((o + C.length : Nat) : Int))), some (.int (iI ((0 + 1 : Nat) : Int))), some (.int (iI ((o + C.length : Nat) : Int))), none, none, none, none], [], Wd f fl g (va_up gl 36 st') hh v tx) P := by
        intro y st' hy _ hst
        refine b_yma_value_35_32_37_47 (h := ?_) ..
        rw [show va_up gl 36 st' 36 = st' from va_s, hst]
        refine ⟨fun _ => ⟨fun c => absurd rfl c, fun _ => hS y st' hy⟩, fun c => absurd (Int32.le_refl _) c⟩
      rcases hmode with rfl | rfl
      · exact xc_allA hE hW hc0 n _ _ _ _ _ _ _ _ _ _ _ _ h1 (by omega) (by omega) h2 h3 (fun h => by omega) 0 (o + C.length) (gl 36) (d + 1) P (by omega) (by omega) hlen (by omega) hcode fin hN
      · exact xc_allA hE hW hc0 n _ _ _ _ _ _ _ _ _ _ _ _ h1 (by omega) (by omega) h2 h3 (fun h => by omega) 0 (o + C.length) (gl 36) (d + 1) P (by omega) (by omega) hlen (by omega) hcode fin hN
    rw [g36] at run
    exact ⟨fun _ => run, fun c => absurd (by simp (disch := omega) only [z_lit, z_litl, z_neg, z_negl, z_add, z_sub, z_mul, z_addl, z_subl, z_mull, z_cc, z_cl, z_cr, z_cm, z_cml, z_cmr, z_lt, z_le, z_eq, z_ltl, z_lel, z_eql, z_nat, z_i2l, z_l2i, z_div, z_sh, Int.toNat_natCast, z_ts, z_tsl]; omega) c⟩
theorem oE_5 {κ : Nat → Nat} {D : Nat} {L : Int} {s : Nat} (h : s < 3) : oE κ D L (5 + s) = (if s < κ 56 then (κ (13 + s) : Int) else -1) ∧ oE κ D L (8 + s) = (if s < κ 56 then (κ (19 + s) : Int) else -1) := by
  refine ⟨?_, ?_⟩
  · unfold oE
    rw [if_neg (by omega), if_neg (by omega), if_neg (by omega), if_neg (by omega), if_neg (by omega), if_pos (by omega), show 5 + s - 5 = s by omega]
  · unfold oE
    rw [if_neg (by omega), if_neg (by omega), if_neg (by omega), if_neg (by omega), if_neg (by omega), if_neg (by omega), if_pos (by omega), show 8 + s - 8 = s by omega]
theorem oE_4 {κ : Nat → Nat} {D : Nat} {L : Int} : oE κ D L 0 = (κ 22 : Int) ∧ oE κ D L 1 = (D : Int) ∧ oE κ D L 2 = L ∧ oE κ D L 3 = (κ 12 : Int) ∧ iI (oE κ D L 4) = wy κ (κ 12) 0 := ⟨rfl, rfl, rfl, rfl, Int32.ofInt_toInt _⟩
theorem c_look {X : mm_X} {d : Nat} {f : Nat → Int32} {fl : Nat → Int64} {g : Nat → Nat → Int32} {gl : Nat → Nat → Int64} {hh : Nat → Nat → Option Nat} {v : Nat → Value} {tx : mm_W} {P : Option Value → mm_W → Prop} {κ : Nat → Nat} {D : Nat} {L : Int} (hw : wf κ) (hx : xs (f 64) (g 2) (g 3) (g 4) (f 68) (g 5) (f 70) (f 71) (f 72) (g 6) (f 74) (hh 7) (f 76) (g 8) tx κ) (h : ∀ W a : Nat → Int32, (∀ w, w < 11 → W w = iI (oE κ D L w)) → P none (Wd f fl (va_up (va_up g 37 W) 43 a) gl hh v tx)) : WP X (d + 4) 104 (0, [some (.ref 0), some (.int (iI (D : Int))), some (.int (iI L)), none, none], [], Wd f fl g gl hh v tx) P := by
  obtain ⟨hS, hH, hL, hD, hW, hT, hB⟩ := hw
  obtain ⟨xS, xH, xL, xD, xW, xT⟩ := hx
  have b56 := hH.1
  refine b_x_look_0 (h := ?_) ..
  rw [va_tw, va_tw, va_tw]
  refine c_fitting (κ := κ) hS hL hD (by exact xS) (by exact xL) (by exact xD) (D := 0) (Or.inl rfl) fun a => ?_
  refine b_x_look_59 (h := ⟨by decide, ?_⟩) ..
  rw [show ((4 : Int32).toNatClampNeg) = 4 from rfl, show ∀ W : Nat → Int32, va_up (va_up g 37 W) 43 a 37 = W from fun W => rfl]
  have loop : ∀ i, i ≤ 3 → ∀ W : Nat → Int32, (∀ w, w < 5 → W w = iI (oE κ D L w)) → (∀ s, s < i → W (5 + s) = iI (oE κ D L (5 + s)) ∧ W (8 + s) = iI (oE κ D L (8 + s))) → WP X (d + 4) 104 (62, [some (.ref 0), none, none, some (.int (iI (i : Int))), none], [], Wd f fl (va_up (va_up g 37 W) 43 a) gl hh v tx) P := by
    refine k_up (Q := fun i => ∀ W : Nat → Int32, (∀ w, w < 5 → W w = iI (oE κ D L w)) → (∀ s, s < i → W (5 + s) = iI (oE κ D L (5 + s)) ∧ W (8 + s) = iI (oE κ D L (8 + s))) → WP X (d + 4) 104 (62, [some (.ref 0), none, none, some (.int (iI (i : Int))), none], [], Wd f fl (va_up (va_up g 37 W) 43 a) gl hh v tx) P) (fun W h1 h2 => ?_) fun i hi ih W h1 h2 => ?_
    · refine b_x_look_62 (h := ⟨fun _ => h W a fun w hw => ?_, fun c => absurd (by decide) c⟩) ..
      by_cases c : w < 5
      · exact h1 w c
      · by_cases c2 : w < 8
        · have := (h2 (w - 5) (by omega)).1
          rw [show 5 + (w - 5) = w by omega] at this
          exact this
        · have := (h2 (w - 8) (by omega)).2
          rw [show 8 + (w - 8) = w by omega] at this
          exact this
    · have k5 : ((5 : Int32) + iI (i : Int)).toNatClampNeg = 5 + i := by simp (disch := omega) only [z_lit, z_litl, z_neg, z_negl, z_add, z_sub, z_mul, z_addl, z_subl, z_mull, z_cc, z_cl, z_cr, z_cm, z_cml, z_cmr, z_lt, z_le, z_eq, z_ltl, z_lel, z_eql, z_nat, z_i2l, z_l2i, z_div, z_sh, Int.toNat_natCast, z_ts, z_tsl]
      have k8 : ((8 : Int32) + iI (i : Int)).toNatClampNeg = 8 + i := by simp (disch := omega) only [z_lit, z_litl, z_neg, z_negl, z_add, z_sub, z_mul, z_addl, z_subl, z_mull, z_cc, z_cl, z_cr, z_cm, z_cml, z_cmr, z_lt, z_le, z_eq, z_ltl, z_lel, z_eql, z_nat, z_i2l, z_l2i, z_div, z_sh, Int.toNat_natCast, z_ts, z_tsl]
      have k0 : (iI (i : Int)).toNatClampNeg = i := by rw [z_nat (by omega)]; omega
      obtain ⟨o5, o8⟩ := oE_5 (κ := κ) (D := D) (L := L) (s := i) hi
      have e68 : f 68 = iI (κ 56 : Int) := xH.1
      -- laid
      have lay : ∀ x y : Int32, x = iI (oE κ D L (5 + i)) → y = iI (oE κ D L (8 + i)) → WP X (d + 4) 104 (62, [some (.ref 0), none, none, some (.int (iI (i : Int) + (1 : Int32))), none], [], Wd f fl (va_up (va_up g 37 (upd (upd W (5 + i) x) (8 + i) y)) 43 a) gl hh v tx) P := by
        intro x y hx hy
        rw [i1N]
        refine ih _ (fun w hw => ?_) fun s hs => ?_
        · rw [upd_ne (by omega), upd_ne (by omega)]; exact h1 w hw
        · by_cases e : s = i
          · subst e
            rw [upd_s, upd_ne (by omega), upd_s]
            exact ⟨hx, hy⟩
          · rw [upd_ne (by omega), upd_ne (by omega), upd_ne (by omega), upd_ne (by omega)]
            exact h2 s (by omega)
      refine b_x_look_62 (h := ?_) ..
      rw [k5, k8, k0, e68]
      have ew : ∀ x : Nat → Int32, va_up (va_up (va_up g 37 W) 43 a) 37 x = va_up (va_up g 37 x) 43 a := fun x => by rw [va_cm (by decide), va_tw]
      simp (disch := decide) only [ew, va_tw, va_s, va_ne]
      refine ⟨fun c => by simp (disch := omega) only [z_lit, z_litl, z_neg, z_negl, z_add, z_sub, z_mul, z_addl, z_subl, z_mull, z_cc, z_cl, z_cr, z_cm, z_cml, z_cmr, z_lt, z_le, z_eq, z_ltl, z_lel, z_eql, z_nat, z_i2l, z_l2i, z_div, z_sh, Int.toNat_natCast, z_ts, z_tsl] at c; omega, fun _ => ⟨fun c => ⟨by simp (disch := omega) only [z_lit, z_litl, z_neg, z_negl, z_add, z_sub, z_mul, z_addl, z_subl, z_mull, z_cc, z_cl, z_cr, z_cm, z_cml, z_cmr, z_lt, z_le, z_eq, z_ltl, z_lel, z_eql, z_nat, z_i2l, z_l2i, z_div, z_sh, Int.toNat_natCast, z_ts, z_tsl]; omega, by simp (disch := omega) only [z_lit, z_litl, z_neg, z_negl, z_add, z_sub, z_mul, z_addl, z_subl, z_mull, z_cc, z_cl, z_cr, z_cm, z_cml, z_cmr, z_lt, z_le, z_eq, z_ltl, z_lel, z_eql, z_nat, z_i2l, z_l2i, z_div, z_sh, Int.toNat_natCast, z_ts, z_tsl]; omega, lay _ _ ?_ ?_⟩, fun c => ?_⟩⟩
      · have c : κ 56 ≤ i := by simp (disch := omega) only [z_lit, z_litl, z_neg, z_negl, z_add, z_sub, z_mul, z_addl, z_subl, z_mull, z_cc, z_cl, z_cr, z_cm, z_cml, z_cmr, z_lt, z_le, z_eq, z_ltl, z_lel, z_eql, z_nat, z_i2l, z_l2i, z_div, z_sh, Int.toNat_natCast, z_ts, z_tsl] at c; omega
        rw [o5, if_neg (by omega)]
        rfl
      · have c : κ 56 ≤ i := by simp (disch := omega) only [z_lit, z_litl, z_neg, z_negl, z_add, z_sub, z_mul, z_addl, z_subl, z_mull, z_cc, z_cl, z_cr, z_cm, z_cml, z_cmr, z_lt, z_le, z_eq, z_ltl, z_lel, z_eql, z_nat, z_i2l, z_l2i, z_div, z_sh, Int.toNat_natCast, z_ts, z_tsl] at c; omega
        rw [o8, if_neg (by omega)]
        rfl
      · have c : i < κ 56 := by simp (disch := omega) only [z_lit, z_litl, z_neg, z_negl, z_add, z_sub, z_mul, z_addl, z_subl, z_mull, z_cc, z_cl, z_cr, z_cm, z_cml, z_cmr, z_lt, z_le, z_eq, z_ltl, z_lel, z_eql, z_nat, z_i2l, z_l2i, z_div, z_sh, Int.toNat_natCast, z_ts, z_tsl] at c; omega
        have hsp := spot_lt hH (p := i) hi
        have e5 : g 5 i = iI (spot κ i : Int) := xH.2 i c
        rw [e5]
        refine ⟨by simp (disch := omega) only [z_lit, z_litl, z_neg, z_negl, z_add, z_sub, z_mul, z_addl, z_subl, z_mull, z_cc, z_cl, z_cr, z_cm, z_cml, z_cmr, z_lt, z_le, z_eq, z_ltl, z_lel, z_eql, z_nat, z_i2l, z_l2i, z_div, z_sh, Int.toNat_natCast, z_ts, z_tsl]; omega, by simp (disch := omega) only [z_lit, z_litl, z_neg, z_negl, z_add, z_sub, z_mul, z_addl, z_subl, z_mull, z_cc, z_cl, z_cr, z_cm, z_cml, z_cmr, z_lt, z_le, z_eq, z_ltl, z_lel, z_eql, z_nat, z_i2l, z_l2i, z_div, z_sh, Int.toNat_natCast, z_ts, z_tsl]; omega, by simp (disch := omega) only [z_lit, z_litl, z_neg, z_negl, z_add, z_sub, z_mul, z_addl, z_subl, z_mull, z_cc, z_cl, z_cr, z_cm, z_cml, z_cmr, z_lt, z_le, z_eq, z_ltl, z_lel, z_eql, z_nat, z_i2l, z_l2i, z_div, z_sh, Int.toNat_natCast, z_ts, z_tsl]; omega, by simp (disch := omega) only [z_lit, z_litl, z_neg, z_negl, z_add, z_sub, z_mul, z_addl, z_subl, z_mull, z_cc, z_cl, z_cr, z_cm, z_cml, z_cmr, z_lt, z_le, z_eq, z_ltl, z_lel, z_eql, z_nat, z_i2l, z_l2i, z_div, z_sh, Int.toNat_natCast, z_ts, z_tsl]; omega, lay _ _ ?_ ?_⟩
        · rw [o5, if_pos c, ← hsp.2.1]
          simp (disch := omega) only [z_lit, z_litl, z_neg, z_negl, z_add, z_sub, z_mul, z_addl, z_subl, z_mull, z_cc, z_cl, z_cr, z_cm, z_cml, z_cmr, z_lt, z_le, z_eq, z_ltl, z_lel, z_eql, z_nat, z_i2l, z_l2i, z_div, z_sh, Int.toNat_natCast, z_ts, z_tsl]
          congr 1
        · rw [o8, if_pos c, ← hsp.2.2.2]
          simp (disch := omega) only [z_lit, z_litl, z_neg, z_negl, z_add, z_sub, z_mul, z_addl, z_subl, z_mull, z_cc, z_cl, z_cr, z_cm, z_cml, z_cmr, z_lt, z_le, z_eq, z_ltl, z_lel, z_eql, z_nat, z_i2l, z_l2i, z_div, z_sh, Int.toNat_natCast, z_ts, z_tsl]
          congr 1
          omega
  have ew : ∀ W x : Nat → Int32, va_up (va_up (va_up g 37 W) 43 a) 37 x = va_up (va_up g 37 x) 43 a := fun W x => by rw [va_cm (by decide), va_tw]
  rw [ew]
  obtain ⟨q0, q1, q2, q3, q4⟩ := oE_4 (κ := κ) (D := D) (L := L)
  refine loop 0 (Nat.zero_le _) _ (fun w hw => ?_) fun s hs => absurd hs (Nat.not_lt_zero s)
  match w, hw with
  | 0, _ => exact (show g 8 0 = _ from xT.1)
  | 1, _ => rfl
  | 2, _ => rfl
  | 3, _ => exact (show f 70 = _ from xL.1)
  | 4, _ => exact (show fy κ 0 0 = _ from q4.symm)
/-- what running changes of the class -/
def fxO (f' f : Nat → Int32) : Prop := ∀ a, a ≠ 70 → a ≠ 71 → a ≠ 78 → (a < 2437 ∨ 2440 < a) → f' a = f a
def gxO (g' g : Nat → Nat → Int32) : Prop := ∀ a, a ≠ 5 → a ≠ 8 → a ≠ 9 → a ≠ 37 → (a < 41 ∨ 44 < a) → g' a = g a
def xO (f0 : Nat → Int32) (g0 : Nat → Nat → Int32) (hh : Nat → Nat → Option Nat) (tx : mm_W) (σ : oS) (f : Nat → Int32) (g : Nat → Nat → Int32) : Prop := fxO f f0 ∧ gxO g g0 ∧ (xs (f 64) (g 2) (g 3) (g 4) (f 68) (g 5) (f 70) (f 71) (f 72) (g 6) (f 74) (hh 7) (f 76) (g 8) tx σ.1) ∧ f 78 = iI (σ.2.1 : Int) ∧ xA (g 9) σ
/-- .. but for scratch -/
theorem xO.cg {f0 : Nat → Int32} {g0 : Nat → Nat → Int32} {hh : Nat → Nat → Option Nat} {tx : mm_W} {σ : oS} {f f' : Nat → Int32} {g g' : Nat → Nat → Int32} (h : xO f0 g0 hh tx σ f g) (hf : ∀ a, (a < 2437 ∨ 2440 < a) → f' a = f a) (hg : ∀ a, a ≠ 37 → (a < 41 ∨ 44 < a) → g' a = g a) : xO f0 g0 hh tx σ f' g' := by
  obtain ⟨h1, h2, h3, h4, h5⟩ := h
  refine ⟨fun a q1 q2 q3 q4 => (hf a q4).trans (h1 a q1 q2 q3 q4), fun a q1 q2 q3 q4 q5 => (hg a q4 q5).trans (h2 a q1 q2 q3 q4 q5), ?_, (hf 78 (by omega)).trans h4, ?_⟩
  · simp (disch := omega) only [hf, hg]
    exact h3
  · rw [hg 9 (by omega) (by omega)]
    exact h5
theorem xo_hang {X : mm_X} {d : Nat} {f : Nat → Int32} {fl : Nat → Int64} {g : Nat → Nat → Int32} {gl : Nat → Nat → Int64} {hh : Nat → Nat → Option Nat} {v : Nat → Value} {tx : mm_W} {P : Option Value → mm_W → Prop} {f0 : Nat → Int32} {g0 : Nat → Nat → Int32} {cs : List pC} {κ0 : Nat → Nat} {m : Nat} {σ : oS} {z : Int} (hO : oOK κ0 m σ) (hx : xO f0 g0 hh tx σ f g) (hz : -9223372036854775808 ≤ z ∧ z < 9223372036854775808)
    (h1 : ∀ r, oAct cs 0 z σ.1 = some r → ∀ f' g', xO f0 g0 hh tx (oPush σ 0 r) f' g' → P (some (.int (iI (r.2.1 : Int)))) (Wd f' fl g' gl hh v tx))
    (h0 : oAct cs 0 z σ.1 = none → ∀ e : Int32, ¬ 0 ≤ e → P (some (.int e)) (Wd f fl g gl hh v tx)) : WP X (d + 1) 105 (0, [some (.ref 0), some (.long (lI z)), none], [], Wd f fl g gl hh v tx) P := by
  obtain ⟨κ, a, c, R, D, L⟩ := σ
  obtain ⟨hw, k2, ha, k4, k5, k6⟩ := hO
  obtain ⟨q1, q2, ⟨xS, xH, xL, xD, xW, xT⟩, q4, q5⟩ := hx
  have hw : wf κ := hw
  have ha : a ≤ 16 := ha
  obtain ⟨hS, hH, hL, hD, hW, hT, hB⟩ := hw
  have b12 := hL.1
  refine c_x_hangs (κ := κ) (a := a) hL xL ha q4 hz (fun c => h0 ?_ _ (by decide)) (fun c1 c2 c3 => h0 ?_ _ (by decide)) fun c1 c2 c3 ac' hp => ?_
  · show (if (0 : Nat) = 0 then _ else _) = _
    rw [if_pos rfl, if_neg (by omega)]
  · show (if (0 : Nat) = 0 then _ else _) = _
    rw [if_pos rfl, if_neg (show ¬ (0 ≤ z ∧ z ≤ 3 ∧ κ 12 < 12) by omega)]
  · have er : oAct cs 0 z κ = some (va_up (va_up κ (κ 12) z.toNat) 12 (κ 12 + 1), κ 12 + 1, 0) := by
      show (if (0 : Nat) = 0 then _ else _) = _
      rw [if_pos rfl, if_pos ⟨c1, c2, c3⟩]
    have en : ∀ i, ¬ i = 12 → ¬ i = κ 12 → va_up (va_up κ (κ 12) z.toNat) 12 (κ 12 + 1) i = κ i := fun i h1 h2 => (va_ne h1).trans (va_ne h2)
    have e1 : va_up (va_up κ (κ 12) z.toNat) 12 (κ 12 + 1) (κ 12) = z.toNat := (va_ne (by omega)).trans va_s
    refine h1 _ er _ _ ⟨fun b r1 r2 r3 r4 => ?_, fun b r1 r2 r3 r4 r5 => ?_, ⟨xS.cg hS.1 fun i hi => en i (by omega) (by omega), xH.cg hH.1 fun i hi => en i (by omega) (by omega), ⟨?_, ?_⟩, xD.cg hD.1 fun i hi => en i (by omega) (by omega), xW.cg fun i hi => en i (by omega) (by omega), xT.cg fun i hi => en i (by omega) (by omega)⟩, rfl, ?_⟩
    · rw [va_ne r3, va_ne r1, va_ne r2]; exact q1 b r1 r2 r3 r4
    · rw [va_ne r3]; exact q2 b r1 r2 r3 r4 r5
    · show _ = iI ((va_up (va_up κ (κ 12) z.toNat) 12 (κ 12 + 1) 12 : Nat) : Int)
      rw [va_s]; rfl
    · show _ = iI ((codF (va_up (va_up κ (κ 12) z.toNat) 12 (κ 12 + 1)) (va_up (va_up κ (κ 12) z.toNat) 12 (κ 12 + 1) 12) : Nat) : Int)
      rw [va_s, codF, e1, codF_cg (c := κ) fun i hi => en i (by omega) (by omega)]; rfl
    · exact q5.push (r := (va_up (va_up κ (κ 12) z.toNat) 12 (κ 12 + 1), κ 12 + 1, 0)) ha hp
theorem xo_take {X : mm_X} {d : Nat} {f : Nat → Int32} {fl : Nat → Int64} {g : Nat → Nat → Int32} {gl : Nat → Nat → Int64} {hh : Nat → Nat → Option Nat} {v : Nat → Value} {tx : mm_W} {P : Option Value → mm_W → Prop} {f0 : Nat → Int32} {g0 : Nat → Nat → Int32} {cs : List pC} {κ0 : Nat → Nat} {m : Nat} {σ : oS} {z : Int} (hO : oOK κ0 m σ) (hx : xO f0 g0 hh tx σ f g)
    (h1 : ∀ r, oAct cs 1 z σ.1 = some r → ∀ f' g', xO f0 g0 hh tx (oPush σ 1 r) f' g' → P (some (.int (iI (r.2.1 : Int)))) (Wd f' fl g' gl hh v tx))
    (h0 : oAct cs 1 z σ.1 = none → ∀ e : Int32, ¬ 0 ≤ e → P (some (.int e)) (Wd f fl g gl hh v tx)) : WP X (d + 1) 106 (0, [some (.ref 0), none], [], Wd f fl g gl hh v tx) P := by
  obtain ⟨κ, a, c, R, D, L⟩ := σ
  obtain ⟨hw, k2, ha, k4, k5, k6⟩ := hO
  obtain ⟨q1, q2, ⟨xS, xH, xL, xD, xW, xT⟩, q4, q5⟩ := hx
  have hw : wf κ := hw
  have ha : a ≤ 16 := ha
  obtain ⟨hS, hH, hL, hD, hW, hT, hB⟩ := hw
  refine c_x_takes (κ := κ) (a := a) hL xL ha q4 (fun c => h0 ?_ _ (by decide)) fun n hn ac' hp => ?_
  · show (if (1 : Nat) = 0 then _ else if (1 : Nat) = 1 then (if κ 12 = 0 then _ else _) else _) = _
    rw [if_neg (by decide), if_pos rfl, if_pos c]
  · have en1 : κ 12 - 1 = n := by omega
    have er : oAct cs 1 z κ = some (va_up κ 12 n, κ n, 1 + 4 * κ n) := by
      show (if (1 : Nat) = 0 then _ else if (1 : Nat) = 1 then (if κ 12 = 0 then _ else some (va_up κ 12 (κ 12 - 1), κ (κ 12 - 1), 1 + 4 * κ (κ 12 - 1))) else _) = _
      rw [if_neg (by decide), if_pos rfl, if_neg (by omega), en1]
    have en : ∀ i, ¬ i = 12 → va_up κ 12 n i = κ i := fun i h1 => va_ne h1
    have b12 := hL.1
    refine h1 _ er _ _ ⟨fun b r1 r2 r3 r4 => ?_, fun b r1 r2 r3 r4 r5 => ?_, ⟨xS.cg hS.1 fun i hi => en i (by omega), xH.cg hH.1 fun i hi => en i (by omega), ⟨?_, ?_⟩, xD.cg hD.1 fun i hi => en i (by omega), xW.cg fun i hi => en i (by omega), xT.cg fun i hi => en i (by omega)⟩, rfl, ?_⟩
    · rw [va_ne r3, va_ne r1, va_ne r2]; exact q1 b r1 r2 r3 r4
    · rw [va_ne r3]; exact q2 b r1 r2 r3 r4 r5
    · show _ = iI ((va_up κ 12 n 12 : Nat) : Int)
      rw [va_s]; rfl
    · show _ = iI ((codF (va_up κ 12 n) (va_up κ 12 n 12) : Nat) : Int)
      rw [va_s, codF_cg (c := κ) fun i hi => en i (by omega)]; rfl
    · exact q5.push (r := (va_up κ 12 n, κ n, 1 + 4 * κ n)) ha hp
theorem xo_pass {X : mm_X} {d : Nat} {f : Nat → Int32} {fl : Nat → Int64} {g : Nat → Nat → Int32} {gl : Nat → Nat → Int64} {hh : Nat → Nat → Option Nat} {v : Nat → Value} {tx : mm_W} {P : Option Value → mm_W → Prop} {f0 : Nat → Int32} {g0 : Nat → Nat → Int32} {cs : List pC} {κ0 : Nat → Nat} {m k : Nat} {σ : oS} {z : Int} (hk : 3 ≤ k) (hO : oOK κ0 m σ) (hx : xO f0 g0 hh tx σ f g)
    (h1 : ∀ r, oAct cs k z σ.1 = some r → ∀ f' g', xO f0 g0 hh tx (oPush σ k r) f' g' → P (some (.int (iI (r.2.1 : Int)))) (Wd f' fl g' gl hh v tx))
    (h0 : oAct cs k z σ.1 = none → ∀ e : Int32, ¬ 0 ≤ e → P (some (.int e)) (Wd f fl g gl hh v tx)) : WP X (d + 1) 108 (0, [some (.ref 0)], [], Wd f fl g gl hh v tx) P := by
  obtain ⟨κ, a, c, R, D, L⟩ := σ
  obtain ⟨hw, k2, ha, k4, k5, k6⟩ := hO
  obtain ⟨q1, q2, ⟨xS, xH, xL, xD, xW, xT⟩, q4, q5⟩ := hx
  have hw : wf κ := hw
  have ha : a ≤ 16 := ha
  obtain ⟨hS, hH, hL, hD, hW, hT, hB⟩ := hw
  have ea : oAct cs k z κ = if κ 22 < 999 then some (va_up κ 22 (κ 22 + 1), κ 22 + 1, 3) else none := by
    unfold oAct
    rw [if_neg (by omega), if_neg (by omega), if_neg (by omega)]
  refine c_x_passes (κ := κ) (a := a) hT xT ha q4 (fun c => h0 ?_ _ (by decide)) fun c ac' hp => ?_
  · exact ea.trans (if_neg (by omega))
  · have er : oAct cs k z κ = some (va_up κ 22 (κ 22 + 1), κ 22 + 1, 3) := ea.trans (if_pos c)
    have en : ∀ i, ¬ i = 22 → va_up κ 22 (κ 22 + 1) i = κ i := fun i h1 => va_ne h1
    have b12 := hL.1
    refine h1 _ er _ _ ⟨fun b r1 r2 r3 r4 => ?_, fun b r1 r2 r3 r4 r5 => ?_, ⟨xS.cg hS.1 fun i hi => en i (by omega), xH.cg hH.1 fun i hi => en i (by omega), xL.cg hL.1 fun i hi => en i (by omega), xD.cg hD.1 fun i hi => en i (by omega), xW.cg fun i hi => en i (by omega), ⟨?_, ?_, ?_⟩⟩, rfl, ?_⟩
    · rw [va_ne r3]; exact q1 b r1 r2 r3 r4
    · rw [va_ne r3, va_ne r2]; exact q2 b r1 r2 r3 r4 r5
    · show _ = iI ((va_up κ 22 (κ 22 + 1) 22 : Nat) : Int)
      rw [va_s]; rfl
    · show _ = iI ((va_up κ 22 (κ 22 + 1) 53 : Nat) : Int)
      rw [en _ (by decide)]; exact xT.2.1
    · show _ = iI ((va_up κ 22 (κ 22 + 1) 54 : Nat) : Int)
      rw [en _ (by decide)]; exact xT.2.2
    · exact q5.push (r := (va_up κ 22 (κ 22 + 1), κ 22 + 1, 3)) ha hp
theorem xo_sail {X : mm_X} {f : Nat → Int32} {fl : Nat → Int64} {g : Nat → Nat → Int32} {gl : Nat → Nat → Int64} {hh : Nat → Nat → Option Nat} {v : Nat → Value} {tx : mm_W} {P : Option Value → mm_W → Prop} {f0 : Nat → Int32} {g0 : Nat → Nat → Int32} {cs : List pC} {κ0 : Nat → Nat} {m K : Nat} {σ : oS} {z : Int} (hO : oOK κ0 m σ) (hx : xO f0 g0 hh tx σ f g) (hok : csOK cs) (hF : (κ0 59 = 0 ∧ cs = []) ∨ ∃ t o, κ0 59 = t + 1 ∧ t < κ0 58 ∧ hh 7 t = some o ∧ lwX tx o cs) (hz : -9223372036854775808 ≤ z ∧ z < 9223372036854775808)
    (h1 : ∀ r, oAct cs 2 z σ.1 = some r → ∀ f' g' gl' v', xO f0 g0 hh tx (oPush σ 2 r) f' g' → P (some (.int (iI (r.2.1 : Int)))) (Wd f' fl g' gl' hh v' tx))
    (h0 : oAct cs 2 z σ.1 = none → ∀ e : Int32, ¬ 0 ≤ e → ∀ f' g' gl' v', fxO f' f0 → gxO g' g0 → P (some (.int e)) (Wd f' fl g' gl' hh v' tx)) : WP X (K + 6) 107 (0, [some (.ref 0), some (.long (lI z)), none, none], [], Wd f fl g gl hh v tx) P := by
  obtain ⟨κ, a, c, R, D, L⟩ := σ
  obtain ⟨hw, k2, ha, k4, k5, k6⟩ := hO
  obtain ⟨q1, q2, ⟨xS, xH, xL, xD, xW, xT⟩, q4, q5⟩ := hx
  have hw : wf κ := hw
  have ha : a ≤ 16 := ha
  have e58 : κ 58 = κ0 58 := k2 58 (by omega)
  have e59 : κ 59 = κ0 59 := k2 59 (by omega)
  obtain ⟨hS, hH, hL, hD, hW, hT, hB⟩ := hw
  have b56 := hH.1
  rw [← e58, ← e59] at hF
  have ea : oAct cs 2 z κ = if 0 ≤ z ∧ z < κ 56 ∧ lyF κ false (wgt κ cs z.toNat) 0 < 1000000 then some (slK κ z.toNat (thn κ cs z.toNat), pln κ false (wgt κ cs z.toNat), 2 + 4 * z.toNat + 16 * spot κ z.toNat) else none := by
    unfold oAct
    rw [if_neg (by omega), if_neg (by omega), if_pos rfl]
  have big : ∀ (s1 s2 s3 : Int32) (A B C E : Nat → Int32), fxO (va_up (va_up (va_up f 2437 s1) 2438 s2) 2440 s3) f0 ∧ gxO (va_up (va_up (va_up (va_up g 41 A) 42 B) 43 C) 44 E) g0 := fun s1 s2 s3 A B C E => ⟨fun b r1 r2 r3 r4 => by rw [va_ne (by omega), va_ne (by omega), va_ne (by omega)]; exact q1 b r1 r2 r3 r4, fun b r1 r2 r3 r4 r5 => by rw [va_ne (by omega), va_ne (by omega), va_ne (by omega), va_ne (by omega)]; exact q2 b r1 r2 r3 r4 r5⟩
  refine c_x_sails (κ := κ) (cs := cs) (a := a) hS hH hL hT hW xS xH xL xW xT hok hF ha q4 hz (fun c => h0 ?_ _ (by decide) f g gl v q1 q2) (fun p hpz hp hl s1 s2 s3 A B C E st Lv => h0 ?_ _ (by decide) _ _ _ _ (big s1 s2 s3 A B C E).1 (big s1 s2 s3 A B C E).2) fun p hpz hp hl s1 s2 s3 A B C E st Lv ac' hpu => ?_
  · exact ea.trans (if_neg (by omega))
  · refine ea.trans (if_neg fun h => hl ?_)
    have := h.2.2
    rw [hpz, Int.toNat_natCast] at this
    exact this
  · subst hpz
    have htl := thn_lt (cs := cs) hH (p := p) (by omega)
    have er : oAct cs 2 (p : Int) κ = some (slK κ p (thn κ cs p), pln κ false (wgt κ cs p), 2 + 4 * p + 16 * spot κ p) := by
      rw [ea, Int.toNat_natCast, if_pos ⟨by omega, by omega, hl⟩]
    have en : ∀ i, (i < 13 ∨ 22 ≤ i) → slK κ p (thn κ cs p) i = κ i := fun i hi => slK_o (by omega) (by omega) (by omega)
    generalize thn κ cs p = T at htl er en ⊢
    generalize pln κ false (wgt κ cs p) = L2 at er ⊢
    refine h1 _ er _ _ _ _ ⟨fun b r1 r2 r3 r4 => ?_, fun b r1 r2 r3 r4 r5 => ?_, ⟨xS.cg hS.1 fun i hi => en i (by omega), slK_x xH hH hp htl, xL.cg hL.1 fun i hi => en i (by omega), xD.cg hD.1 fun i hi => en i (by omega), xW.cg fun i hi => en i (by omega), xT.cg fun i hi => en i (by omega)⟩, rfl, ?_⟩
    · rw [va_ne (by omega), va_ne (by omega), va_ne (by omega), va_ne r3]; exact q1 b r1 r2 r3 r4
    · rw [va_ne (by omega), va_ne (by omega), va_ne (by omega), va_ne (by omega), va_ne r3, va_ne r1]; exact q2 b r1 r2 r3 r4 r5
    · exact q5.push (r := (slK κ p T, L2, 2 + 4 * p + 16 * spot κ p)) ha hpu
