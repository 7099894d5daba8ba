/-! reads, where, compare -/
theorem force_N {la : Int32} {lw : Nat → Option Nat} {fo : Int32} {tx : mm_W} {κ : Nat → Nat} (hx : xW la lw fo tx κ) (h : κ 59 = 0) : ¬ (0 ≤ fo ∧ fo < la) := by
  rintro ⟨a, -⟩
  rw [hx.2.1, h] at a
  exact absurd a (by decide)
theorem force_T {la : Int32} {lw : Nat → Option Nat} {fo : Int32} {tx : mm_W} {κ : Nat → Nat} (hx : xW la lw fo tx κ) (hw : wW κ) {t o : Nat} (h : κ 59 = t + 1) (ht : t < κ 58) (hl : lw t = some o) : (0 ≤ fo ∧ fo < la) ∧ (¬ (fo < 0 ∨ 6 ≤ fo.toNatClampNeg)) ∧ mm_rf (lw fo.toNatClampNeg) = .ref o := by
  have h58 := hw.1
  have e : fo = iI (t : Int) := by rw [hx.2.1, h]; congr 1; omega
  have en : fo.toNatClampNeg = t := by rw [e, z_nat (by omega)]; omega
  rw [en, hl, e, hx.1]
  simp (disch := omega) only [z_lit, z_litl, z_neg, z_negl, z_add, z_sub, z_mul, z_addl, z_subl, z_mull, z_cc, z_cl, z_cr, z_cm, z_cml, z_cmr, z_lt, z_le, z_eq, z_ltl, z_lel, z_eql, z_nat, z_i2l, z_l2i, z_div, z_sh, Int.toNat_natCast, z_ts, z_tsl]
  exact ⟨by omega, by omega, rfl⟩
/-- what is read of a row of laws, signs, the line: these numbers alone -/
theorem mis_cg {a a' b b' : Nat → Nat} : ∀ {n : Nat}, (∀ i, i < n → a' i = a i ∧ b' i = b i) → mis a' b' n = mis a b n
  | 0, _ => rfl
  | n + 1, h => by rw [mis, mis, mis_cg (n := n) fun i hi => h i (by omega), (h n (by omega)).1, (h n (by omega)).2]
theorem dif_cg {κ κ' : Nat → Nat} (hwS : wS κ) (e : ∀ i, i < 47 → κ' i = κ i) {j at_ : Nat} (hj : j < κ 55) (ha : at_ ≤ 12) : dif κ' j at_ = dif κ j at_ := by
  have b55 := hwS.1
  obtain ⟨s1, s2, -⟩ := hwS.2.1 j hj
  unfold dif
  rw [e 12 (by omega), e (31 + j) (by omega)]
  split
  · rfl
  · refine mis_cg fun k hk => ⟨e _ (by omega), ?_⟩
    rw [clo_cg (κ := κ) (e _ (by omega)) (e _ (by omega))]
theorem ly_cg {κ κ' : Nat → Nat} (hwS : wS κ) (hwL : wL κ) (e : ∀ i, i < 47 → κ' i = κ i) (e55 : κ' 55 = κ 55) {md : Bool} {wt wt' : Nat → Nat} (hwt : ∀ j, j < κ 55 → wt' j = wt j) : ∀ r, ly κ' md wt' r = ly κ md wt r
  | 0 => by rw [ly, ly, e 12 (by omega)]
  | r + 1 => by
    have b55 := hwS.1
    have b12 := hwL.1
    rw [ly, ly, ly_cg hwS hwL e e55 hwt r, e 12 (by omega), e55]
    congr 1
    refine mS_cg fun j hj => ?_
    unfold prc
    rw [dif_cg hwS e hj (by omega), hwt j hj, e (31 + j) (by omega)]
theorem wgt_cg {κ κ' : Nat → Nat} {cs : List pC} {p j : Nat} (e : ∀ i, i < 47 → κ' i = κ i) (e54 : κ' 54 = κ 54) (hp : p < 3) (hj : j < 8) : wgt κ' cs p j = wgt κ cs p j := by
  unfold wgt eQ
  rw [e 22 (by omega), e54, e (31 + j) (by omega), e (39 + j) (by omega), e (13 + p) (by omega), e (19 + p) (by omega)]
/-- what is told of it -/
def rdV (κ : Nat → Nat) (cs : List pC) (p : Nat) (y : Int) : Int := if y < -1 ∨ ¬ lyF κ false (wgt κ cs p) 0 < 1000000 then -1 else if y = -1 then pln κ false (wgt κ cs p) else if y.toNat < pln κ false (wgt κ cs p) then sgn κ false (wgt κ cs p) (psn κ false (wgt κ cs p) y.toNat) else -1
theorem rdV_n {κ : Nat → Nat} {cs : List pC} {p : Nat} {y : Int} (hL : lyF κ false (wgt κ cs p) 0 < 1000000) (h : y = -1) : (pln κ false (wgt κ cs p) : Int) = rdV κ cs p y := by
  unfold rdV
  rw [if_neg (by rintro (c | c); omega; exact c hL), if_pos h]
theorem rdV_i {κ : Nat → Nat} {cs : List pC} {p : Nat} {y : Int} (hL : lyF κ false (wgt κ cs p) 0 < 1000000) (h : 0 ≤ y) (h2 : y.toNat < pln κ false (wgt κ cs p)) : (sgn κ false (wgt κ cs p) (psn κ false (wgt κ cs p) y.toNat) : Int) = rdV κ cs p y := by
  unfold rdV
  rw [if_neg (by rintro (c | c); omega; exact c hL), if_neg (by omega), if_pos h2]
theorem rdV_o {κ : Nat → Nat} {cs : List pC} {p : Nat} {y : Int} (h : y ≠ -1) (h2 : ¬ (0 ≤ y ∧ y < (pln κ false (wgt κ cs p) : Nat))) : (-1 : Int) = rdV κ cs p y := by
  unfold rdV
  split
  · rfl
  · rename_i c
    rw [if_neg]
    intro h3
    refine h2 ⟨?_, ?_⟩
    · refine Int.not_lt.mp fun h4 => c (Or.inl ?_)
      omega
    · refine Int.not_le.mp fun h4 => ?_
      have := Int.toNat_le_toNat h4
      rw [Int.toNat_natCast] at this
      omega
theorem c_m_reads {X : mm_X} {f : Nat → Int32} {fl : Nat → Int64} {g : Nat → Nat → Int32} {gl : Nat → Nat → Int64} {hh : Nat → Nat → Option Nat} {v : Nat → Value} {tx : mm_W} {P : Option Value → mm_W → Prop} {κ : Nat → Nat} {cs : List pC} {p K : Nat} {y : Int} (hK : 64 ≤ K) (hm : ms (g 76) κ) (hwS : wS κ) (hwL : wL κ) (hwH : wH κ) (hwT : wT κ) (hB : wB κ) (hR : rfX κ (κ 59) cs) (hp : p < κ 56) (hy : -2147483648 ≤ y ∧ y < 2147483648)
    (h : ∀ x y' z u (A a l w : Nat → Int32), P (some (.int (iI (rdV κ cs p y)))) (Wd (va_up (va_up (va_up (va_up f 4758 x) 4759 y') 4760 z) 4761 u) fl (va_up (va_up (va_up (va_up g 86 A) 87 a) 88 l) 89 w) gl hh v tx)) : WP X (K + 14) 202 (0, [some (.ref 74), some (.int (iI (p : Int))), some (.int (iI y))], [], Wd f fl g gl hh v tx) P := by
  have b56 := hwH.1
  have e56 := hm.1 56 (by decide)
  refine b_m_reads_0 (h := ?_) ..
  simp (disch := omega) only [z_lit, z_litl, z_neg, z_negl, z_add, z_sub, z_mul, z_addl, z_subl, z_mull, z_cc, z_cl, z_cr, z_cm, z_cml, z_cmr, z_lt, z_le, z_eq, z_ltl, z_lel, z_eql, z_nat, z_i2l, z_l2i, z_div, z_sh, Int.toNat_natCast, z_ts, z_tsl, e56]
  refine ⟨fun _ => ⟨fun c => ?_, fun c => ?_⟩, fun c => by omega⟩
  · have := h (f 4758) (f 4759) (f 4760) (f 4761) (g 86) (g 87) (g 88) (g 89)
    rw [va_id (f := f) rfl, va_id (f := f) rfl, va_id (f := f) rfl, va_id (f := f) rfl, va_id (f := g) rfl, va_id (f := g) rfl, va_id (f := g) rfl, va_id (f := g) rfl] at this
    rw [rdV, if_pos (Or.inl (by omega))] at this
    exact this
  · refine c_m_laysRead (κ := κ) (cs := cs) hK hm hwS hwL hwH hwT hB hR (by omega) fun x y' z u A a l w hl hw => ?_
    have hP := h x y' z u A a l w
    refine b_m_reads_18 (h := ?_) ..
    by_cases hL : lyF κ false (wgt κ cs p) 0 < 1000000
    · have hple := pln_le (κ := κ) (md := false) (wt := wgt κ cs p)
      rw [if_pos hL]
      rw [rdV, if_neg (by omega)] at hP
      refine ⟨fun _ => ⟨fun c2 => ?_, fun c2 => ?_⟩, fun c => absurd c (by decide)⟩
      · have c2 : y ≠ -1 := fun e => c2 (by rw [e]; rfl)
        rw [if_neg c2] at hP
        obtain ⟨i, rfl⟩ : ∃ i : Nat, y = i := ⟨y.toNat, by omega⟩
        rw [Int.toNat_natCast] at hP
        refine c_m_signAt (κ := κ) (md := false) (wt := wgt κ cs p) (i := i) (d := K + 9) (g := va_up (va_up (va_up (va_up g 86 A) 87 a) 88 l) 89 w) (by exact hm) hwS hwL (Or.inr fun j hj => ⟨by rw [va_s]; exact hw j hj, wgt_le hwS hj⟩) (by intro i hi; rw [va_ne (by decide), va_s]; exact hl i hi) hL (by omega) ?_
        refine b_m_reads_42 (h := ?_) ..
        split
        · rename_i c3; rw [if_pos c3] at hP; exact hP
        · rename_i c3; rw [if_neg c3] at hP; exact hP
      · have c2 : y = -1 := by
          have c2 : iI y = iI (-1) := c2
          rw [z_eq (by omega) (by omega)] at c2
          exact c2
        rw [if_pos c2] at hP
        refine c_m_howMany (κ := κ) (md := false) (wt := wgt κ cs p) (d := K + 9) (g := va_up (va_up (va_up (va_up g 86 A) 87 a) 88 l) 89 w) (by exact hm) hwS hwL (Or.inr fun j hj => ⟨by rw [va_s]; exact hw j hj, wgt_le hwS hj⟩) (by intro i hi; rw [va_ne (by decide), va_s]; exact hl i hi) hL ?_
        refine b_m_reads_33 (h := ?_) ..
        exact hP
    · rw [if_neg hL]
      rw [rdV, if_pos (Or.inr hL)] at hP
      exact ⟨fun c => absurd rfl c, fun _ => hP⟩
theorem o_reads : k_op22 k_Inv := by
  intro a0 a1 X f fl g gl hh v tx hI
  have hI' := hI
  obtain ⟨κ, ⟨wS, wH, wL, wD, wW, wT, wB⟩, hm, ⟨xS, xH, xL, xD, xW, xT⟩, he, ht, ha, hi0, hi1, hd, hr⟩ := hI
  obtain ⟨p, hp, rfl⟩ := z_ex a0
  obtain ⟨y, hy, rfl⟩ := z_ex a1
  have b56 := wH.1
  have e56 := hm.1 56 (by decide)
  obtain ⟨cs, hok, hR, hF⟩ := force_X xW wW
  by_cases hin : 0 ≤ p ∧ p < κ 56
  · obtain ⟨p, rfl⟩ : ∃ p' : Nat, p = p' := ⟨p.toNat, by omega⟩
    have hp3 : p < κ 56 := by omega
    have ref : ∀ (n m s : Int32) (A B C D : Nat → Int32) (st : Nat → Int64) (L : Value) (e : Int), e = rdV κ cs p y → WP X 1999 202 (0, [some (.ref 74), some (.int (iI (p : Int))), some (.int (iI y))], [], Wd (va_up (va_up (va_up f 2437 n) 2438 m) 2440 s) fl (va_up (va_up (va_up (va_up g 41 A) 42 B) 43 C) 44 D) (va_up gl 40 st) hh (va_up v 2439 L) tx) (k_fn (.int (iI e)) k_Inv tx) := by
      intro n m s A B C D st L e he
      rw [he]
      exact c_m_reads (K := 1985) (κ := κ) (by omega) (by exact hm) wS wL wH wT wB hR hp3 hy fun _ _ _ _ _ _ _ _ => k_fin0 rfl (by exact hI')
    have v44 : ∀ A B C : Nat → Int32, va_up (va_up (va_up (va_up g 41 A) 42 B) 43 C) 44 (g 44) = va_up (va_up (va_up g 41 A) 42 B) 43 C := fun A B C => va_id (by rw [va_ne (by decide), va_ne (by decide), va_ne (by decide)])
    have hple := pln_le (κ := κ) (md := false) (wt := wgt κ cs p)
    have hcall : ∀ L, lwV tx L cs → WP X 1998 7 (0, [some (.ref 38), some (.ref 1), some (.int (iI (p : Int))), some L, none], [], Wd f fl g gl hh v tx) (fun rv w2 => WP X 1999 80 (33, [some (.ref 0), some (.int (iI (p : Int))), some (.int (iI y))], rv.toList ++ [], w2) (fun r1 w1 => ∃ (a : Int64) (f1 : Nat → Int32) (fl1 : Nat → Int64) (g1 : Nat → Nat → Int32) (gl1 : Nat → Nat → Int64) (hh1 : Nat → Nat → Option Nat) (v1 : Nat → Value) (tx1 : mm_W), r1 = some (k_mi a) ∧ w1 = Wd f1 fl1 g1 gl1 hh1 v1 tx1 ∧ WP X 1999 202 (0, [some (.ref 74), some (.int (iI (p : Int))), some (.int (iI y))], [], w1) (fun r2 w2 => r2 = some (k_mi a) ∧ ∃ (f2 : Nat → Int32) (fl2 : Nat → Int64) (g2 : Nat → Nat → Int32) (gl2 : Nat → Nat → Int64) (hh2 : Nat → Nat → Option Nat) (v2 : Nat → Value) (tx2 : mm_W), w2 = Wd f2 fl2 g2 gl2 hh2 v2 tx2 ∧ k_Inv f2 fl2 g2 gl2 hh2 v2 tx2 ∧ tx2.length ≤ tx.length + 3 ∧ mm_sl tx2 ≤ mm_sl tx + 464))) := by
      intro L hL
      refine c_choose1 (κ := κ) (cs := cs) hL wS wH wL wT xS xH xL xT hp3 (fun hz n A B C st => ?_) fun hlt A B C D st A0 A6 A7 hD => ?_
      · refine b_x_reads_33 (h := ?_) ..
        refine ⟨fun c => absurd rfl c, fun _ => k_mid ?_⟩
        have := ref n (iI 1000000) (iI (spot κ p)) A B C (g 44) st L (-1) (by rw [rdV, if_pos (Or.inr (by omega))])
        rw [v44] at this
        exact this
      · have w37 : (va_up (va_up (va_up f 2437 (iI (pln κ false (wgt κ cs p)))) 2438 (iI (lyF κ false (wgt κ cs p) 0))) 2440 (iI (spot κ p))) 2437 = iI (pln κ false (wgt κ cs p)) := by rw [va_ne (by decide), va_ne (by decide), va_s]
        refine b_x_reads_33 (h := ?_) ..
        rw [w37, show va_up (va_up (va_up (va_up g 41 A) 42 B) 43 C) 44 D 44 = D from va_s]
        simp (disch := omega) only [z_lit, z_litl, z_neg, z_negl, z_add, z_sub, z_mul, z_addl, z_subl, z_mull, z_cc, z_cl, z_cr, z_cm, z_cml, z_cmr, z_lt, z_le, z_eq, z_ltl, z_lel, z_eql, z_nat, z_i2l, z_l2i, z_div, z_sh, Int.toNat_natCast, z_ts, z_tsl]
        refine ⟨fun _ => ⟨fun c => ⟨fun c2 => ⟨by omega, ?_⟩, fun c2 => ?_⟩, fun c => ?_⟩, fun c => by omega⟩
        · have c3 : y.toNat < pln κ false (wgt κ cs p) := by omega
          rw [hD y.toNat c3]
          refine k_mid (ref _ _ _ _ _ _ _ _ _ _ (rdV_i hlt c2.1 c3))
        · refine k_mid (ref _ _ _ _ _ _ _ _ _ _ (rdV_o c c2))
        · refine k_mid (ref _ _ _ _ _ _ _ _ _ _ (rdV_n hlt c))
    have hin' : (0 : Int32) ≤ iI (p : Int) ∧ iI (p : Int) < f 68 := by rw [xH.1]; simp (disch := omega) only [z_lit, z_litl, z_neg, z_negl, z_add, z_sub, z_mul, z_addl, z_subl, z_mull, z_cc, z_cl, z_cr, z_cm, z_cml, z_cmr, z_lt, z_le, z_eq, z_ltl, z_lel, z_eql, z_nat, z_i2l, z_l2i, z_div, z_sh, Int.toNat_natCast, z_ts, z_tsl]; omega
    rcases hF with ⟨h0, hcs⟩ | ⟨t, o, hF1, hF2, hF3, hF4⟩
    · exact b_x_reads_0 (t0 := 0) (h := ⟨fun _ => ⟨fun c => absurd c (force_N xW h0), fun _ => hcall _ (Or.inl ⟨hcs, rfl⟩)⟩, fun c => absurd hin' c⟩) ..
    · obtain ⟨q1, q2, q3⟩ := force_T xW wW hF1 hF2 hF3
      exact b_x_reads_0 (t0 := o) (h := ⟨fun _ => ⟨fun _ => ⟨q2, q3, hcall _ (Or.inr ⟨o, rfl, hF4, hok⟩)⟩, fun c => absurd q1 c⟩, fun c => absurd hin' c⟩) ..
  · refine b_x_reads_0 (t0 := 0) (h := ?_) ..
    rw [xH.1]
    refine ⟨fun c => by simp (disch := omega) only [z_lit, z_litl, z_neg, z_negl, z_add, z_sub, z_mul, z_addl, z_subl, z_mull, z_cc, z_cl, z_cr, z_cm, z_cml, z_cmr, z_lt, z_le, z_eq, z_ltl, z_lel, z_eql, z_nat, z_i2l, z_l2i, z_div, z_sh, Int.toNat_natCast, z_ts, z_tsl] at c; omega, fun _ => ?_⟩
    refine k_mid (b_m_reads_0 (h := ?_) ..)
    simp (disch := omega) only [z_lit, z_litl, z_neg, z_negl, z_add, z_sub, z_mul, z_addl, z_subl, z_mull, z_cc, z_cl, z_cr, z_cm, z_cml, z_cmr, z_lt, z_le, z_eq, z_ltl, z_lel, z_eql, z_nat, z_i2l, z_l2i, z_div, z_sh, Int.toNat_natCast, z_ts, z_tsl, e56]
    exact ⟨fun c => by omega, fun _ => k_fin0 rfl hI'⟩
/-- where a ship is then, told -/
def whV (κ : Nat → Nat) (cs : List pC) (p : Nat) (y : Int) : Int := if lyF κ false (wgt κ cs p) 0 < 1000000 then (if y = 0 then (thn κ cs p / 40 : Nat) else if y = 1 then (thn κ cs p / 10 % 4 : Nat) else if y = 2 then (thn κ cs p % 10 : Nat) else -1) else -1
theorem st_40 {s : Nat} (hs : s < 1000) : iI (s : Int) / (40 : Int32) = iI ((s / 40 : Nat) : Int) ∧ iI (s : Int) / (10 : Int32) / (4 : Int32) = iI ((s / 40 : Nat) : Int) ∧ iI (s : Int) / (10 : Int32) - iI (s : Int) / (10 : Int32) / (4 : Int32) * (4 : Int32) = iI ((s / 10 % 4 : Nat) : Int) ∧ iI (s : Int) - iI (s : Int) / (10 : Int32) * (10 : Int32) = iI ((s % 10 : Nat) : Int) := by
  refine ⟨?_, ?_, ?_, ?_⟩
  all_goals simp (disch := omega) only [z_lit, z_litl, z_neg, z_negl, z_add, z_sub, z_mul, z_addl, z_subl, z_mull, z_cc, z_cl, z_cr, z_cm, z_cml, z_cmr, z_lt, z_le, z_eq, z_ltl, z_lel, z_eql, z_nat, z_i2l, z_l2i, z_div, z_sh, Int.toNat_natCast, z_ts, z_tsl]
  all_goals congr 1
  all_goals omega
theorem c_x_where {X : mm_X} {d : Nat} {f : Nat → Int32} {fl : Nat → Int64} {g : Nat → Nat → Int32} {gl : Nat → Nat → Int64} {hh : Nat → Nat → Option Nat} {v : Nat → Value} {tx : mm_W} {P : Option Value → mm_W → Prop} {κ : Nat → Nat} {cs : List pC} {p : Nat} {y : Int} (hwS : wS κ) (hwH : wH κ) (hwL : wL κ) (hwT : wT κ) (hwW : wW κ) (hxS : xS (f 64) (g 2) (g 3) (g 4) κ) (hxH : xH (f 68) (g 5) κ) (hxL : xL (f 70) (f 71) κ) (hxW : xW (f 74) (hh 7) (f 76) tx κ) (hxT : xT (g 8) κ) (hok : csOK cs) (hF : (κ 59 = 0 ∧ cs = []) ∨ ∃ t o, κ 59 = t + 1 ∧ t < κ 58 ∧ hh 7 t = some o ∧ lwX tx o cs) (hp : p < κ 56) (hy : -2147483648 ≤ y ∧ y < 2147483648)
    (h : ∀ n m s A B C D st L, P (some (.int (iI (whV κ cs p y)))) (Wd (va_up (va_up (va_up f 2437 n) 2438 m) 2440 s) fl (va_up (va_up (va_up (va_up g 41 A) 42 B) 43 C) 44 D) (va_up gl 40 st) hh (va_up v 2439 L) tx)) : WP X (d + 6) 81 (0, [some (.ref 0), some (.int (iI (p : Int))), some (.int (iI y))], [], Wd f fl g gl hh v tx) P := by
  have b55 := hwS.1
  have b56 := hwH.1
  have hple := pln_le (κ := κ) (md := false) (wt := wgt κ cs p)
  have hsl := (spot_lt hwH (p := p) (by omega)).1
  have htl := thn_lt (cs := cs) hwH (p := p) (by omega)
  have hcall : ∀ L, lwV tx L cs → WP X (d + 5) 7 (0, [some (.ref 38), some (.ref 1), some (.int (iI (p : Int))), some L, none], [], Wd f fl g gl hh v tx) (fun rv w2 => WP X (d + 6) 81 (33, [some (.ref 0), some (.int (iI (p : Int))), some (.int (iI y))], rv.toList ++ [], w2) P) := by
    intro L hL
    refine c_choose1 (κ := κ) (cs := cs) hL hwS hwH hwL hwT hxS hxH hxL hxT hp (fun hz n A B C st => ?_) fun hlt A B C D st A0 A6 A7 hD => ?_
    · refine b_x_where_33 (h := ?_) ..
      refine ⟨fun c => absurd rfl c, fun _ => ?_⟩
      have := h n (iI 1000000) (iI (spot κ p)) A B C (g 44) st L
      rw [whV, if_neg (by omega), va_id (f := va_up (va_up (va_up g 41 A) 42 B) 43 C) (k := 44) (by rw [va_ne (by decide), va_ne (by decide), va_ne (by decide)])] at this
      exact this
    · refine b_x_where_33 (h := ?_) ..
      refine ⟨fun _ => ?_, fun c => absurd c (by decide)⟩
      refine c_follow1 (κ := κ) (cs := cs) (p := p) (s0 := spot κ p) (n := pln κ false (wgt κ cs p)) (pk := fun i => sgn κ false (wgt κ cs p) (psn κ false (wgt κ cs p) i)) (f := va_up (va_up (va_up f 2437 (iI (pln κ false (wgt κ cs p)))) 2438 (iI (lyF κ false (wgt κ cs p) 0))) 2440 (iI (spot κ p))) (g := va_up (va_up (va_up (va_up g 41 A) 42 B) 43 C) 44 D) hL.cp hwS hwT (by exact hxS) (by omega) hsl hple (by rw [va_ne (by decide), va_ne (by decide), va_s]) va_s (by exact A0) (by exact A6) (by exact A7) (fun i hi => ?_) fun a st' => ?_
      · obtain ⟨q1, q2, q3⟩ := psn_ok (md := false) (wt := wgt κ cs p) hwS hlt i
        obtain ⟨s1, -⟩ := sgn_spec (md := false) (wt := wgt κ cs p) hwS (pln_lt hi) q2
        exact ⟨s1, by rw [va_s]; exact hD i hi⟩
      · have hP := h (iI (pln κ false (wgt κ cs p))) (iI (lyF κ false (wgt κ cs p) 0)) (iI (thn κ cs p : Nat)) a B C D st' L
        rw [whV, if_pos hlt] at hP
        refine b_x_where_49 (h := ?_) ..
        rw [show va_up (va_up (va_up (va_up f 2437 (iI (pln κ false (wgt κ cs p)))) 2438 (iI (lyF κ false (wgt κ cs p) 0))) 2440 (iI (spot κ p))) 2440 (iI (flw κ cs p (spot κ p) (fun i => sgn κ false (wgt κ cs p) (psn κ false (wgt κ cs p) i)) (pln κ false (wgt κ cs p)) : Nat)) 2440 = iI (thn κ cs p : Nat) from va_s]
        simp (disch := decide) only [va_cm, va_tw]
        obtain ⟨e40, -, e10, em⟩ := st_40 htl
        rw [e10, e40, em]
        simp (disch := omega) only [z_lit, z_litl, z_neg, z_negl, z_add, z_sub, z_mul, z_addl, z_subl, z_mull, z_cc, z_cl, z_cr, z_cm, z_cml, z_cmr, z_lt, z_le, z_eq, z_ltl, z_lel, z_eql, z_nat, z_i2l, z_l2i, z_div, z_sh, Int.toNat_natCast, z_ts, z_tsl]
        refine ⟨fun c => ?_, fun c => ⟨fun c2 => ?_, fun c2 => ⟨fun c3 => ?_, fun c3 => ?_⟩⟩⟩
        · rw [if_pos c] at hP; exact hP
        · rw [if_neg c, if_pos c2] at hP; exact hP
        · rw [if_neg c, if_neg c2, if_pos c3] at hP; exact hP
        · rw [if_neg c, if_neg c2, if_neg c3] at hP; exact hP
  have hin' : (0 : Int32) ≤ iI (p : Int) ∧ iI (p : Int) < f 68 := by rw [hxH.1]; simp (disch := omega) only [z_lit, z_litl, z_neg, z_negl, z_add, z_sub, z_mul, z_addl, z_subl, z_mull, z_cc, z_cl, z_cr, z_cm, z_cml, z_cmr, z_lt, z_le, z_eq, z_ltl, z_lel, z_eql, z_nat, z_i2l, z_l2i, z_div, z_sh, Int.toNat_natCast, z_ts, z_tsl]; omega
  rcases hF with ⟨h0, hcs⟩ | ⟨t, o, hF1, hF2, hF3, hF4⟩
  · exact b_x_where_0 (d := d + 4) (t0 := 0) (h := ⟨fun _ => ⟨fun c => absurd c (force_N hxW h0), fun _ => hcall _ (Or.inl ⟨hcs, rfl⟩)⟩, fun c => absurd hin' c⟩) ..
  · obtain ⟨q1, q2, q3⟩ := force_T hxW hwW hF1 hF2 hF3
    exact b_x_where_0 (d := d + 4) (t0 := o) (h := ⟨fun _ => ⟨fun _ => ⟨q2, q3, hcall _ (Or.inr ⟨o, rfl, hF4, hok⟩)⟩, fun c => absurd q1 c⟩, fun c => absurd hin' c⟩) ..
theorem c_m_where {X : mm_X} {f : Nat → Int32} {fl : Nat → Int64} {g : Nat → Nat → Int32} {gl : Nat → Nat → Int64} {hh : Nat → Nat → Option Nat} {v : Nat → Value} {tx : mm_W} {P : Option Value → mm_W → Prop} {κ : Nat → Nat} {cs : List pC} {p K : Nat} {y : Int} (hK : 64 ≤ K) (hm : ms (g 76) κ) (hwS : wS κ) (hwL : wL κ) (hwH : wH κ) (hwT : wT κ) (hB : wB κ) (hR : rfX κ (κ 59) cs) (hok : csOK cs) (hp : p < κ 56) (hy : -2147483648 ≤ y ∧ y < 2147483648)
    (h : ∀ x y' z u (A a l w r : Nat → Int32), P (some (.int (iI (whV κ cs p y)))) (Wd (va_up (va_up (va_up (va_up f 4758 x) 4759 y') 4760 z) 4761 u) fl (va_up (va_up (va_up (va_up (va_up g 86 A) 87 a) 88 l) 89 w) 90 r) gl hh v tx)) : WP X (K + 15) 211 (0, [some (.ref 74), some (.int (iI (p : Int))), some (.int (iI y)), none], [], Wd f fl g gl hh v tx) P := by
  have b56 := hwH.1
  have e56 := hm.1 56 (by decide)
  have htl := thn_lt (cs := cs) hwH (p := p) (by omega)
  refine b_m_where_0 (h := ?_) ..
  simp (disch := omega) only [z_lit, z_litl, z_neg, z_negl, z_add, z_sub, z_mul, z_addl, z_subl, z_mull, z_cc, z_cl, z_cr, z_cm, z_cml, z_cmr, z_lt, z_le, z_eq, z_ltl, z_lel, z_eql, z_nat, z_i2l, z_l2i, z_div, z_sh, Int.toNat_natCast, z_ts, z_tsl, e56]
  refine ⟨fun _ => ⟨fun c => ?_, fun c => ?_⟩, fun c => by omega⟩
  · refine c_m_stateThen (κ := κ) (cs := cs) hK hm hwS hwL hwH hwT hB hR hok (by omega) fun x y' z u A a l w r => ?_
    have hP := h x y' z u A a l w r
    refine b_m_where_24 (h := ?_) ..
    by_cases hL : lyF κ false (wgt κ cs p) 0 < 1000000
    · rw [if_pos hL]
      rw [whV, if_pos hL] at hP
      obtain ⟨-, e40, e10, em⟩ := st_40 htl
      rw [e10, e40, em]
      clear e10 e40 em
      generalize thn κ cs p = T at htl hP ⊢
      simp (disch := omega) only [z_lit, z_litl, z_neg, z_negl, z_add, z_sub, z_mul, z_addl, z_subl, z_mull, z_cc, z_cl, z_cr, z_cm, z_cml, z_cmr, z_lt, z_le, z_eq, z_ltl, z_lel, z_eql, z_nat, z_i2l, z_l2i, z_div, z_sh, Int.toNat_natCast, z_ts, z_tsl]
      refine ⟨fun _ => ⟨fun c1 => ⟨fun c2 => ?_, fun c2 => ?_⟩, fun c1 => ?_⟩, fun c1 => by omega⟩
      · rw [if_neg c1, if_neg c2, if_pos (by omega)] at hP; exact hP
      · rw [if_neg c1, if_pos c2] at hP; exact hP
      · rw [if_pos c1] at hP; exact hP
    · rw [if_neg hL]
      rw [whV, if_neg hL] at hP
      exact ⟨fun c1 => absurd rfl c1, fun _ => hP⟩
  · have := h (f 4758) (f 4759) (f 4760) (f 4761) (g 86) (g 87) (g 88) (g 89) (g 90)
    rw [va_id (f := f) rfl, va_id (f := f) rfl, va_id (f := f) rfl, va_id (f := f) rfl, va_id (f := g) rfl, va_id (f := g) rfl, va_id (f := g) rfl, va_id (f := g) rfl, va_id (f := g) rfl] at this
    have e : whV κ cs p y = -1 := by
      unfold whV
      split
      · rw [if_neg (by omega), if_neg (by omega), if_neg (by omega)]
      · rfl
    rw [e] at this
    exact this
theorem o_where : k_op23 k_Inv := by
  intro a0 a1 X f fl g gl hh v tx hI
  have hI' := hI
  obtain ⟨κ, ⟨wS, wH, wL, wD, wW, wT, wB⟩, hm, ⟨xS, xH, xL, xD, xW, xT⟩, he, ht, ha, hi0, hi1, hd, hr⟩ := hI
  obtain ⟨p, hp, rfl⟩ := z_ex a0
  obtain ⟨y, hy, rfl⟩ := z_ex a1
  have b56 := wH.1
  have e56 := hm.1 56 (by decide)
  obtain ⟨cs, hok, hR, hF⟩ := force_X xW wW
  by_cases hin : 0 ≤ p ∧ p < κ 56
  · obtain ⟨p, rfl⟩ : ∃ p' : Nat, p = p' := ⟨p.toNat, by omega⟩
    have hp3 : p < κ 56 := by omega
    refine c_x_where (d := 1993) (κ := κ) (cs := cs) wS wH wL wT wW xS xH xL xW xT hok hF hp3 hy fun n m s A B C D st L => ?_
    refine k_mid ?_
    exact c_m_where (K := 1984) (κ := κ) (by omega) (by exact hm) wS wL wH wT wB hR hok hp3 hy fun _ _ _ _ _ _ _ _ _ => k_fin0 rfl (by exact hI')
  · refine b_x_where_0 (t0 := 0) (h := ?_) ..
    rw [xH.1]
    refine ⟨fun c => by simp (disch := omega) only [z_lit, z_litl, z_neg, z_negl, z_add, z_sub, z_mul, z_addl, z_subl, z_mull, z_cc, z_cl, z_cr, z_cm, z_cml, z_cmr, z_lt, z_le, z_eq, z_ltl, z_lel, z_eql, z_nat, z_i2l, z_l2i, z_div, z_sh, Int.toNat_natCast, z_ts, z_tsl] at c; omega, fun _ => ?_⟩
    refine k_mid (b_m_where_0 (h := ?_) ..)
    simp (disch := omega) only [z_lit, z_litl, z_neg, z_negl, z_add, z_sub, z_mul, z_addl, z_subl, z_mull, z_cc, z_cl, z_cr, z_cm, z_cml, z_cmr, z_lt, z_le, z_eq, z_ltl, z_lel, z_eql, z_nat, z_i2l, z_l2i, z_div, z_sh, Int.toNat_natCast, z_ts, z_tsl, e56]
    exact ⟨fun c => by omega, fun _ => k_fin0 rfl hI'⟩
theorem tkC_59 {κ : Nat → Nat} {z t : Nat} : tkC (va_up κ 59 z) t = tkC κ t ∧ tkV (va_up κ 59 z) t = tkV κ t := by
  constructor
  · funext k
    unfold tkC
    rw [va_ne (by omega), va_ne (by omega)]
  · funext k
    unfold tkV
    rw [va_ne (by omega), va_ne (by omega)]
theorem o_compare : k_op34 k_Inv := by
  intro a0 a1 X f fl g gl hh v tx hI
  have hI' := hI
  obtain ⟨κ, ⟨wS, wH, wL, wD, wW, wT, wB⟩, hm, ⟨xS, xH, xL, xD, xW, xT⟩, he, ht, ha, hi0, hi1, hd, hr⟩ := hI
  obtain ⟨y, hy, rfl⟩ := z_ex a0
  obtain ⟨p, hp, rfl⟩ := z_ex a1
  have b56 := wH.1
  have b58 := wW.1
  have e56 := hm.1 56 (by decide)
  have e58 := hm.1 58 (by decide)
  by_cases hin : -1 ≤ y ∧ y < κ 58 ∧ 0 ≤ p ∧ p < κ 56
  · obtain ⟨p, rfl⟩ : ∃ p' : Nat, p = p' := ⟨p.toNat, by omega⟩
    have hp3 : p < κ 56 := by omega
    -- the law that is asked by
    have hlaw : ∃ cs L t0, lwV tx L cs ∧ csOK cs ∧ rfX (va_up κ 59 (y + 1).toNat) (y + 1).toNat cs ∧ ((y = -1 ∧ L = .null) ∨ (0 ≤ y ∧ L = .ref t0 ∧ mm_rf (hh 7 y.toNat) = .ref t0)) := by
      by_cases c : y = -1
      · refine ⟨[], .null, 0, Or.inl ⟨rfl, rfl⟩, ⟨⟨fun _ => 0, fun _ => 0, 0, fun _ _ => rfl, trivial⟩, (fun q hq => by cases hq), (by show 0 ≤ 12; omega), (by show 0 ≤ 400; omega)⟩, Or.inl ⟨by rw [c]; rfl, rfl⟩, Or.inl ⟨c, rfl⟩⟩
      · obtain ⟨t, rfl⟩ : ∃ t : Nat, y = t := ⟨y.toNat, by omega⟩
        obtain ⟨o, cs, n, h1, h2, h3, h4, h5⟩ := txt_x (xW.2.2 t (by omega))
        refine ⟨cs, .ref o, o, Or.inr ⟨o, rfl, h2, h3⟩, h3, Or.inr ⟨t, n, by omega, by omega, ?_, ?_⟩, Or.inr ⟨by omega, rfl, ?_⟩⟩
        · rw [va_ne (by omega)]; exact h4
        · rw [tkC_59.1, tkC_59.2, va_ne (by omega)]; exact h5
        · rw [Int.toNat_natCast, h1]; rfl
    obtain ⟨cs, L, t0, hL, hok, hR, hl⟩ := hlaw
    have ely : lyF (va_up κ 59 (y + 1).toNat) false (wgt (va_up κ 59 (y + 1).toNat) cs p) 0 = lyF κ false (wgt κ cs p) 0 := by
      unfold lyF
      rw [ly_cg (κ := κ) (wt := wgt κ cs p) wS wL (fun i hi => va_ne (by omega)) (va_ne (by omega)) fun j hj => wgt_cg (fun i hi => va_ne (by omega)) (va_ne (by omega)) (by omega) (by have := wS.1; omega)]
      rw [va_ne (by omega)]
    have hl0 := lyF_le (κ := κ) (md := false) (wt := wgt κ cs p) 0
    have ref : ∀ (f' : Nat → Int32) (g' : Nat → Nat → Int32) (gl' : Nat → Nat → Int64) (v' : Nat → Value), g' 76 = g 76 → (∀ x y z u A a l w, k_Inv (va_up (va_up (va_up (va_up f' 4758 x) 4759 y) 4760 z) 4761 u) fl (va_up (va_up (va_up (va_up g' 86 A) 87 a) 88 l) 89 w) gl' hh v' tx) → ∀ e : Int, e = (if lyF κ false (wgt κ cs p) 0 < 1000000 then (lyF κ false (wgt κ cs p) 0 : Int) else -1) → WP X 1999 203 (0, [some (.ref 74), some (.int (iI y)), some (.int (iI (p : Int))), none, none], [], Wd f' fl g' gl' hh v' tx) (k_fn (.int (iI e)) k_Inv tx) := by
      intro f' g' gl' v' hg' hI2 e he
      have hm' : ms (upd (g' 76) 59 (iI y)) (va_up κ 59 (y + 1).toNat) := by
        rw [hg']
        exact hm.upF (y + 1).toNat (by omega)
      have bk : upd (upd (g' 76) 59 (iI y)) 59 (g' 76 59) = g' 76 := by
        funext i
        by_cases e : i = 59
        · rw [e, upd_s]
        · rw [upd_ne e, upd_ne e]
      refine b_m_compare_0 (h := ?_) ..
      rw [hg', e58, e56, ← hg']
      refine ⟨fun _ => ⟨fun _ => ?_, fun c => absurd (by simp (disch := omega) only [z_lit, z_litl, z_neg, z_negl, z_add, z_sub, z_mul, z_addl, z_subl, z_mull, z_cc, z_cl, z_cr, z_cm, z_cml, z_cmr, z_lt, z_le, z_eq, z_ltl, z_lel, z_eql, z_nat, z_i2l, z_l2i, z_div, z_sh, Int.toNat_natCast, z_ts, z_tsl]; omega) c⟩, fun c => absurd (by simp (disch := omega) only [z_lit, z_litl, z_neg, z_negl, z_add, z_sub, z_mul, z_addl, z_subl, z_mull, z_cc, z_cl, z_cr, z_cm, z_cml, z_cmr, z_lt, z_le, z_eq, z_ltl, z_lel, z_eql, z_nat, z_i2l, z_l2i, z_div, z_sh, Int.toNat_natCast, z_ts, z_tsl]; omega) c⟩
      refine c_m_laysRead (K := 1985) (κ := va_up κ 59 (y + 1).toNat) (cs := cs) (g := va_up g' 76 (upd (g' 76) 59 (iI y))) (by omega) (by exact hm') (wS.cg fun i hi => va_ne (by omega)) (wL.cg fun i hi => va_ne (by omega)) (wH.cg fun i hi => va_ne (by omega)) (wT.cg fun i hi => va_ne (by omega)) (wB.up (by omega)) (by rw [va_s]; exact hR) (by omega) fun x y' z u A a l w hl hw => ?_
      have hIx := hI2 x y' z u A a l w
      have e0 := hl 0 (by omega)
      rw [ely] at e0 ⊢
      refine b_m_compare_39 (h := ?_) ..
      have vbk : ∀ W0 : Nat → Nat → Int32, va_up (va_up (va_up (va_up (va_up (va_up g' 76 (upd (g' 76) 59 (iI y))) 86 A) 87 a) 88 l) 89 w) 76 (upd (va_up (va_up (va_up (va_up (va_up g' 76 (upd (g' 76) 59 (iI y))) 86 A) 87 a) 88 l) 89 w 76) 59 (g' 76 59)) = va_up (va_up (va_up (va_up g' 86 A) 87 a) 88 l) 89 w := by
        intro _
        simp (disch := decide) only [va_ne, va_s, va_cm, va_tw]
        rw [bk, va_id (f := g') (k := 76) rfl]
      rw [vbk (fun _ _ => 0)]
      have e88 : va_up (va_up (va_up (va_up (va_up g' 76 (upd (g' 76) 59 (iI y))) 86 A) 87 a) 88 l) 89 w 88 0 = iI (lyF κ false (wgt κ cs p) 0) := by rw [va_ne (by decide), va_s]; exact e0
      rw [e88]
      by_cases hlt : lyF κ false (wgt κ cs p) 0 < 1000000
      · rw [if_pos hlt] at he ⊢
        exact ⟨fun c => absurd c (by decide), fun _ => k_fin0 (by subst he; rfl) hIx⟩
      · rw [if_neg hlt] at he ⊢
        exact ⟨fun _ => k_fin0 (by subst he; rfl) hIx, fun c => absurd rfl c⟩
    have fin : ∀ (n : Int32) (A B C D : Nat → Int32) (st : Nat → Int64) (pr s : Int32) (e : Int), e = (if lyF κ false (wgt κ cs p) 0 < 1000000 then (lyF κ false (wgt κ cs p) 0 : Int) else -1) → WP X 1999 203 (0, [some (.ref 74), some (.int (iI y)), some (.int (iI (p : Int))), none, none], [], Wd (va_up (va_up (va_up f 2437 n) 2438 pr) 2440 s) fl (va_up (va_up (va_up (va_up g 41 A) 42 B) 43 C) 44 D) (va_up gl 40 st) hh (va_up v 2439 L) tx) (k_fn (.int (iI e)) k_Inv tx) := fun n A B C D st pr s e he => ref (va_up (va_up (va_up f 2437 n) 2438 pr) 2440 s) (va_up (va_up (va_up (va_up g 41 A) 42 B) 43 C) 44 D) (va_up gl 40 st) (va_up v 2439 L) rfl (fun _ _ _ _ _ _ _ _ => by exact hI') e he
    have v44 : ∀ A B C : Nat → Int32, va_up (va_up (va_up (va_up g 41 A) 42 B) 43 C) 44 (g 44) = va_up (va_up (va_up g 41 A) 42 B) 43 C := fun A B C => va_id (by rw [va_ne (by decide), va_ne (by decide), va_ne (by decide)])
    have w38 : ∀ n m s : Int32, va_up (va_up (va_up f 2437 n) 2438 m) 2440 s 2438 = m := fun n m s => by rw [va_ne (by decide), va_s]
    have c3 : (0 : Int32) ≤ iI (p : Int) ∧ iI (p : Int) < f 68 := by rw [xH.1]; simp (disch := omega) only [z_lit, z_litl, z_neg, z_negl, z_add, z_sub, z_mul, z_addl, z_subl, z_mull, z_cc, z_cl, z_cr, z_cm, z_cml, z_cmr, z_lt, z_le, z_eq, z_ltl, z_lel, z_eql, z_nat, z_i2l, z_l2i, z_div, z_sh, Int.toNat_natCast, z_ts, z_tsl]; omega
    have c1 : ¬ iI y < (-1 : Int32) := by simp (disch := omega) only [z_lit, z_litl, z_neg, z_negl, z_add, z_sub, z_mul, z_addl, z_subl, z_mull, z_cc, z_cl, z_cr, z_cm, z_cml, z_cmr, z_lt, z_le, z_eq, z_ltl, z_lel, z_eql, z_nat, z_i2l, z_l2i, z_div, z_sh, Int.toNat_natCast, z_ts, z_tsl]; omega
    have c2 : ¬ f 74 ≤ iI y := by rw [xW.1]; simp (disch := omega) only [z_lit, z_litl, z_neg, z_negl, z_add, z_sub, z_mul, z_addl, z_subl, z_mull, z_cc, z_cl, z_cr, z_cm, z_cml, z_cmr, z_lt, z_le, z_eq, z_ltl, z_lel, z_eql, z_nat, z_i2l, z_l2i, z_div, z_sh, Int.toNat_natCast, z_ts, z_tsl]; omega
    rcases hl with ⟨hy1, rfl⟩ | ⟨hy0, rfl, hrf⟩
    · refine b_x_compare_0 (t0 := 0) (h := ⟨fun c => absurd c c1, fun _ => ⟨fun c => absurd c c2, fun _ => ⟨fun _ => ⟨fun c => absurd (by rw [hy1]; rfl) c, fun _ => ?_⟩, fun c => absurd c3 c⟩⟩⟩) ..
      refine c_choose1 (κ := κ) (cs := cs) hL wS wH wL wT xS xH xL xT hp3 (fun hz n A B C st => ?_) fun hlt A B C D st A0 A6 A7 hD => ?_
      · refine b_x_compare_64a (h := ?_) ..
        refine ⟨fun _ => k_mid ?_, fun c => absurd rfl c⟩
        have := fin n A B C (g 44) st (iI 1000000) (iI (spot κ p)) (-1) (by rw [if_neg (by omega)])
        rw [v44] at this
        exact this
      · refine b_x_compare_64a (h := ?_) ..
        rw [w38]
        exact ⟨fun c => absurd c (by decide), fun _ => k_mid (fin _ A B C D st _ _ _ (by rw [if_pos hlt]))⟩
    · refine b_x_compare_0 (t0 := t0) (h := ⟨fun c => absurd c c1, fun _ => ⟨fun c => absurd c c2, fun _ => ⟨fun _ => ⟨fun _ => ⟨by simp (disch := omega) only [z_lit, z_litl, z_neg, z_negl, z_add, z_sub, z_mul, z_addl, z_subl, z_mull, z_cc, z_cl, z_cr, z_cm, z_cml, z_cmr, z_lt, z_le, z_eq, z_ltl, z_lel, z_eql, z_nat, z_i2l, z_l2i, z_div, z_sh, Int.toNat_natCast, z_ts, z_tsl]; omega, ?_, ?_⟩, fun c => by (have c : iI y = iI (-1) := c); rw [z_eq (by omega) (by omega)] at c; omega⟩, fun c => absurd c3 c⟩⟩⟩) ..
      · rw [show (iI y).toNatClampNeg = y.toNat from z_nat (by omega)]
        exact hrf
      · refine c_choose1 (κ := κ) (cs := cs) hL wS wH wL wT xS xH xL xT hp3 (fun hz n A B C st => ?_) fun hlt A B C D st A0 A6 A7 hD => ?_
        · refine b_x_compare_64 (h := ?_) ..
          refine ⟨fun _ => k_mid ?_, fun c => absurd rfl c⟩
          have := fin n A B C (g 44) st (iI 1000000) (iI (spot κ p)) (-1) (by rw [if_neg (by omega)])
          rw [v44] at this
          exact this
        · refine b_x_compare_64 (h := ?_) ..
          rw [w38]
          exact ⟨fun c => absurd c (by decide), fun _ => k_mid (fin _ A B C D st _ _ _ (by rw [if_pos hlt]))⟩
  · have refN : WP X 1999 203 (0, [some (.ref 74), some (.int (iI y)), some (.int (iI p)), none, none], [], Wd f fl g gl hh v tx) (k_fn (.int (iI (-1))) k_Inv tx) := by
      refine b_m_compare_0 (h := ?_) ..
      simp (disch := omega) only [z_lit, z_litl, z_neg, z_negl, z_add, z_sub, z_mul, z_addl, z_subl, z_mull, z_cc, z_cl, z_cr, z_cm, z_cml, z_cmr, z_lt, z_le, z_eq, z_ltl, z_lel, z_eql, z_nat, z_i2l, z_l2i, z_div, z_sh, Int.toNat_natCast, z_ts, z_tsl, e58, e56]
      exact ⟨fun _ => ⟨fun c => by omega, fun _ => k_fin0 rfl hI'⟩, fun _ => k_fin0 rfl hI'⟩
    refine b_x_compare_0 (t0 := 0) (h := ?_) ..
    rw [xH.1, xW.1]
    refine ⟨fun _ => k_mid refN, fun d1 => ⟨fun _ => k_mid refN, fun d2 => ⟨fun d3 => ?_, fun _ => k_mid refN⟩⟩⟩
    simp (disch := omega) only [z_lit, z_litl, z_neg, z_negl, z_add, z_sub, z_mul, z_addl, z_subl, z_mull, z_cc, z_cl, z_cr, z_cm, z_cml, z_cmr, z_lt, z_le, z_eq, z_ltl, z_lel, z_eql, z_nat, z_i2l, z_l2i, z_div, z_sh, Int.toNat_natCast, z_ts, z_tsl] at d1
    simp (disch := omega) only [z_lit, z_litl, z_neg, z_negl, z_add, z_sub, z_mul, z_addl, z_subl, z_mull, z_cc, z_cl, z_cr, z_cm, z_cml, z_cmr, z_lt, z_le, z_eq, z_ltl, z_lel, z_eql, z_nat, z_i2l, z_l2i, z_div, z_sh, Int.toNat_natCast, z_ts, z_tsl] at d2
    simp (disch := omega) only [z_lit, z_litl, z_neg, z_negl, z_add, z_sub, z_mul, z_addl, z_subl, z_mull, z_cc, z_cl, z_cr, z_cm, z_cml, z_cmr, z_lt, z_le, z_eq, z_ltl, z_lel, z_eql, z_nat, z_i2l, z_l2i, z_div, z_sh, Int.toNat_natCast, z_ts, z_tsl] at d3
    omega
