/-! plans: the class's search -/
def bfA (A : Nat → Nat) (M : Nat) (L : Nat → Nat) (f : Nat → Int32) (g : Nat → Nat → Int32) : Prop := f 2882 = iI (M : Int) ∧ (∀ x, x < 1000 → g 46 x = iI (if A x < 1000000 then (A x : Int) else -1)) ∧ (∀ i, i < M → g 47 i = iI (L i : Int) ∧ L i < 1000 ∧ A (L i) < 1000000) ∧ (∀ x, x < 1000 → A x < 1000000 → ∃ i, i < M ∧ L i = x) ∧ M = cnt (fun x => decide (A x < 1000000)) 1000 ∧ ∀ i i', i < M → i' < M → L i = L i' → i = i'
/-- what holds while spots at distance d are looked for: all nearer ones are there -/
def spI (κ : Nat → Nat) (cs : List pC) (p : Nat) (D : Nat → Nat) (d : Nat) (A : Nat → Nat) (M : Nat) (L : Nat → Nat) (f : Nat → Int32) (g : Nat → Nat → Int32) : Prop :=
  xS (f 64) (g 2) (g 3) (g 4) κ ∧ hbI κ cs p (g 49) ∧ bfA A M L f g ∧ (∀ i, i < M → bgD D (D (L i)) ≤ i ∧ i < bgD D (D (L i) + 1)) ∧ (∀ x, (A x = D x ∧ D x ≤ d) ∨ (A x = 1000000 ∧ d ≤ D x)) ∧ (∀ x, x < 1000 → D x < d → g 49 (kk x) ≠ -1) ∧ ∀ e, e ≤ d → d < e + 8 → g 48 (e % 8) = iI (bgD D e : Nat)
theorem spI.M {κ : Nat → Nat} {cs : List pC} {p : Nat} {D : Nat → Nat} {d : Nat} {A : Nat → Nat} {M : Nat} {L : Nat → Nat} {f : Nat → Int32} {g : Nat → Nat → Int32} (h : spI κ cs p D d A M L f g) (hd : d < 1000000) : bgD D d ≤ M ∧ M ≤ bgD D (d + 1) ∧ M ≤ 1000 := by
  obtain ⟨-, -, ⟨-, -, -, -, a5, -⟩, -, hv, -, -⟩ := h
  rw [a5]
  refine ⟨cnt_mono 1000 fun x _ hx => decide_eq_true ?_, cnt_mono 1000 fun x _ hx => decide_eq_true ?_, cnt_le 1000⟩
  · have hx := of_decide_eq_true hx
    rcases hv x with ⟨q1, q2⟩ | ⟨q1, q2⟩ <;> omega
  · have hx := of_decide_eq_true hx
    rcases hv x with ⟨q1, q2⟩ | ⟨q1, q2⟩ <;> omega
/-- one more is reached -/
theorem spI.add {κ : Nat → Nat} {cs : List pC} {p : Nat} {D : Nat → Nat} {d : Nat} {A : Nat → Nat} {M : Nat} {L : Nat → Nat} {f : Nat → Int32} {g : Nat → Nat → Int32} (h : spI κ cs p D d A M L f g) (hd : d < 1000000) {y : Nat} (hy : y < 1000) (hA : ¬ A y < 1000000) (hD : D y ≤ d) : M < 1000 ∧ spI κ cs p D d (fun x => if x = y then d else A x) (M + 1) (fun i => if i = M then y else L i) (va_up f 2882 (f 2882 + (1 : Int32))) (va_up (va_up g 46 (upd (g 46) y (iI (d : Int)))) 47 (upd (g 47) M (iI (y : Int)))) := by
  have hM := h.M hd
  obtain ⟨hxS, hb, ⟨a1, a2, a3, a4, a5, a6⟩, ho, hv, hl, hw⟩ := h
  have hM1 : M < 1000 := by
    by_cases c : M < 1000
    · exact c
    · have := cnt_full (p := fun x => decide (A x < 1000000)) 1000 (by omega) y hy
      exact absurd (of_decide_eq_true this) hA
  have hDy : D y = d := by
    rcases hv y with ⟨q1, q2⟩ | ⟨q1, q2⟩ <;> omega
  have hcn : cnt (fun x => decide ((if x = y then d else A x) < 1000000)) 1000 = M + 1 := by
    rw [a5]
    refine cnt_add (z := y) (decide_eq_false hA) (decide_eq_true (by rw [if_pos rfl]; exact hd)) 1000 (fun i _ hi => ?_) hy
    rw [if_neg hi]
  have hv2 : ∀ x, ((if x = y then d else A x) = D x ∧ D x ≤ d) ∨ ((if x = y then d else A x) = 1000000 ∧ d ≤ D x) := fun x => by
    by_cases e : x = y
    · rw [if_pos e, e]; exact Or.inl ⟨hDy.symm, by omega⟩
    · rw [if_neg e]; exact hv x
  refine ⟨hM1, ⟨hxS, hb, ⟨?_, fun x hx => ?_, fun i hi => ?_, fun x hx hlt => ?_, hcn.symm, fun i i' hi hi' he => ?_⟩, fun i hi => ?_, hv2, hl, hw⟩⟩
  · rw [va_s, a1, i1N]
  · show upd (g 46) y (iI (d : Int)) x = iI (if (if x = y then d else A x) < 1000000 then ((if x = y then d else A x : Nat) : Int) else -1)
    by_cases e : x = y
    · rw [e, upd_s, if_pos rfl, if_pos hd]
    · rw [upd_ne e, if_neg e]; exact a2 x hx
  · show upd (g 47) M (iI (y : Int)) i = iI ((if i = M then y else L i : Nat) : Int) ∧ (if i = M then y else L i) < 1000 ∧ (if (if i = M then y else L i) = y then d else A (if i = M then y else L i)) < 1000000
    by_cases e : i = M
    · rw [e, upd_s, if_pos rfl, if_pos rfl]
      exact ⟨rfl, hy, hd⟩
    · rw [upd_ne e, if_neg e]
      obtain ⟨q1, q2, q3⟩ := a3 i (by omega)
      refine ⟨q1, q2, ?_⟩
      split
      · exact hd
      · exact q3
  · have hlt : (if x = y then d else A x) < 1000000 := hlt
    by_cases e : x = y
    · exact ⟨M, by omega, by show (if M = M then y else L M) = x; rw [if_pos rfl, e]⟩
    · rw [if_neg e] at hlt
      obtain ⟨i, i1, i2⟩ := a4 x hx hlt
      exact ⟨i, by omega, by show (if i = M then y else L i) = x; rw [if_neg (by omega)]; exact i2⟩
  · have he : (if i = M then y else L i) = (if i' = M then y else L i') := he
    by_cases e : i = M
    · by_cases e2 : i' = M
      · omega
      · rw [if_pos e, if_neg e2] at he
        have := (a3 i' (by omega)).2.2
        rw [← he] at this
        exact absurd this hA
    · by_cases e2 : i' = M
      · rw [if_neg e, if_pos e2] at he
        have := (a3 i (by omega)).2.2
        rw [he] at this
        exact absurd this hA
      · rw [if_neg e, if_neg e2] at he
        exact a6 i i' (by omega) (by omega) he
  · show bgD D (D (if i = M then y else L i)) ≤ i ∧ i < bgD D (D (if i = M then y else L i) + 1)
    by_cases e : i = M
    · rw [if_pos e, hDy, e]
      refine ⟨hM.1, ?_⟩
      have : cnt (fun x => decide ((if x = y then d else A x) < 1000000)) 1000 ≤ bgD D (d + 1) := cnt_mono 1000 fun x _ hx => decide_eq_true (by
        have hx := of_decide_eq_true hx
        rcases hv2 x with ⟨q1, q2⟩ | ⟨q1, q2⟩ <;> omega)
      omega
    · rw [if_neg e]
      exact ho i (by omega)
/-- spots of one distance by their places -/
theorem ord_at {D : Nat → Nat} {L : Nat → Nat} {i c : Nat} (h : bgD D (D (L i)) ≤ i ∧ i < bgD D (D (L i) + 1)) : (bgD D c ≤ i ∧ i < bgD D (c + 1)) ↔ D (L i) = c := by
  refine ⟨fun ⟨q1, q2⟩ => ?_, fun e => by rw [← e]; exact h⟩
  by_cases c1 : D (L i) < c
  · have := bgD_mono (D := D) (e := D (L i) + 1) (e' := c) (by omega)
    omega
  · by_cases c2 : c < D (L i)
    · have := bgD_mono (D := D) (e := c + 1) (e' := D (L i)) (by omega)
      omega
    · omega
def fB (f' f : Nat → Int32) : Prop := ∀ a, a ≠ 2882 → f' a = f a
def gB (g' g : Nat → Nat → Int32) : Prop := ∀ a, a ≠ 46 → a ≠ 47 → g' a = g a
theorem m8 {e : Nat} (he : e < 2147483648) : iI (e : Int) - iI (e : Int) / (8 : Int32) * (8 : Int32) = iI ((e % 8 : Nat) : Int) := by
  rw [show (8 : Int32) = iI 8 from rfl, z_div (by omega) (by omega), z_mul, z_sub]
  congr 1
  omega
abbrev plN (κ : Nat → Nat) (cs : List pC) (p : Nat) : Nat → Nat → Nat := fun x j => stB κ cs p x (κ (39 + j))
abbrev plL (κ : Nat → Nat) : Nat → Nat := fun j => κ (31 + j)
def fl1 (ce : Nat) (A A0 : Nat → Nat) (r : Nat) : Prop := r = 1 ∧ (∃ y, y < 1000 ∧ y / 40 = ce ∧ A y < 1000000) ∨ r = 0 ∧ ∀ y, y < 1000 → y / 40 = ce → A y < 1000000 → A0 y < 1000000
theorem c_spread {X : mm_X} {d : Nat} {f : Nat → Int32} {fl : Nat → Int64} {g : Nat → Nat → Int32} {gl : Nat → Nat → Int64} {hh : Nat → Nat → Option Nat} {v : Nat → Value} {tx : mm_W} {P : Option Value → mm_W → Prop} {κ : Nat → Nat} {cs : List pC} {p st ce dd sz : Nat} {D E A0 : Nat → Nat} {M0 : Nat} {L0 : Nat → Nat} (hwS : wS κ) (hDE : DE (plN κ cs p) (plL κ) (κ 55) st ce D E) (hce : ce < 25) (hdd : dd ≤ 4000) (hsz : 1 ≤ sz ∧ sz ≤ 4 ∧ sz ≤ dd) (hI0 : spI κ cs p D dd A0 M0 L0 f g)
    (h : ∀ (A : Nat → Nat) (M : Nat) (L : Nat → Nat) (r : Nat) (f' : Nat → Int32) (g' : Nat → Nat → Int32), spI κ cs p D dd A M L f' g' → fB f' f → gB g' g → (∀ x, A0 x < 1000000 → A x < 1000000) → (∀ j, j < κ 55 → κ (31 + j) = sz → ∀ x, x < 1000 → D x + sz = dd → A (stB κ cs p x (κ (39 + j))) < 1000000) → fl1 ce A A0 r → P (some (.int (iI (r : Int)))) (Wd f' fl g' gl hh v tx)) :
    WP X (d + 4) 25 (0, [some (.ref 45), some (.ref 1), some (.int (iI (sz : Int))), some (.int (iI (dd : Int))), some (.int (iI (ce : Int))), none, none, none, none, none], [], Wd f fl g gl hh v tx) P := by
  have b55 := hwS.1
  have hdn := hDE.2.2.2.2.2.2.1
  have M0b := hI0.M (by omega)
  have w1 := hI0.2.2.2.2.2.2 (dd - sz) (by omega) (by omega)
  have w2 := hI0.2.2.2.2.2.2 (dd - sz + 1) (by omega) (by omega)
  have m1 : bgD D (dd - sz) ≤ bgD D (dd - sz + 1) := bgD_mono (by omega)
  have m2 : bgD D (dd - sz + 1) ≤ bgD D dd := bgD_mono (by omega)
  have le1 : bgD D (dd - sz) ≤ 1000 := bgD_le
  have le2 : bgD D (dd - sz + 1) ≤ 1000 := bgD_le
  have es : iI (dd : Int) - iI (sz : Int) = iI ((dd - sz : Nat) : Int) := by rw [z_sub]; congr 1; omega
  have t1 : (iI (((dd - sz) % 8 : Nat) : Int)).toNatClampNeg = (dd - sz) % 8 := by rw [z_nat (by omega)]; omega
  have t2 : (iI (((dd - sz + 1) % 8 : Nat) : Int)).toNatClampNeg = (dd - sz + 1) % 8 := by rw [z_nat (by omega)]; omega
  refine b_yco_spread_45_1_0 (h := ?_) ..
  rw [es, i1N, m8 (by omega), m8 (by omega), t1, t2, w1, w2]
  refine ⟨by simp (disch := omega) only [z_lit, z_litl, z_neg, z_negl, z_add, z_sub, z_mul, z_addl, z_subl, z_mull, z_cc, z_cl, z_cr, z_cm, z_cml, z_cmr, z_lt, z_le, z_eq, z_ltl, z_lel, z_eql, z_nat, z_i2l, z_l2i, z_div, z_sh, Int.toNat_natCast, z_ts, z_tsl]; omega, by simp (disch := omega) only [z_lit, z_litl, z_neg, z_negl, z_add, z_sub, z_mul, z_addl, z_subl, z_mull, z_cc, z_cl, z_cr, z_cm, z_cml, z_cmr, z_lt, z_le, z_eq, z_ltl, z_lel, z_eql, z_nat, z_i2l, z_l2i, z_div, z_sh, Int.toNat_natCast, z_ts, z_tsl]; omega, ?_⟩
  -- what is held on to
  have outer : ∀ u j : Nat, ∀ (A : Nat → Nat) (M : Nat) (L : Nat → Nat) (r : Nat) (f' : Nat → Int32) (g' : Nat → Nat → Int32), u + j = κ 55 → spI κ cs p D dd A M L f' g' → fB f' f → gB g' g → (∀ x, A0 x < 1000000 → A x < 1000000) → (∀ i, i < j → κ (31 + i) = sz → ∀ x, x < 1000 → D x + sz = dd → A (stB κ cs p x (κ (39 + i))) < 1000000) → fl1 ce A A0 r →
      WP X (d + 4) 25 (34, [some (.ref 45), some (.ref 1), some (.int (iI (sz : Int))), some (.int (iI (dd : Int))), some (.int (iI (ce : Int))), some (.int (iI (r : Int))), some (.int (iI (bgD D (dd - sz) : Nat))), some (.int (iI (bgD D (dd - sz + 1) : Nat))), some (.int (iI (j : Int))), none], [], Wd f' fl g' gl hh v tx) P := by
    intro u
    induction u with
    | zero =>
      intro j A M L r f' g' hj hI hf hg hA hc hr
      have hj : j = κ 55 := by omega
      refine b_yco_spread_45_1_34 (h := ?_) ..
      rw [hI.1.1, hj]
      refine ⟨fun _ => ⟨?_, h A M L r f' g' hI hf hg hA (by rw [← hj]; exact hc) hr⟩, fun c => absurd (Int32.le_refl _) c⟩
      rcases hr with ⟨e, -⟩ | ⟨e, -⟩
      · subst e; exact Or.inr rfl
      · subst e; exact Or.inl rfl
    | succ u ihu =>
      intro j A M L r f' g' hj hI hf hg hA hc hr
      have hjJ : j < κ 55 := by omega
      have tj : (iI (j : Int)).toNatClampNeg = j := by rw [z_nat (by omega)]; omega
      have hl := (hwS.2.1 j hjJ).2.1
      have oj : ¬ (iI (j : Int) < 0 ∨ 8 ≤ j) := by simp (disch := omega) only [z_lit, z_litl, z_neg, z_negl, z_add, z_sub, z_mul, z_addl, z_subl, z_mull, z_cc, z_cl, z_cr, z_cm, z_cml, z_cmr, z_lt, z_le, z_eq, z_ltl, z_lel, z_eql, z_nat, z_i2l, z_l2i, z_div, z_sh, Int.toNat_natCast, z_ts, z_tsl]; omega
      obtain ⟨x1, x2, x3⟩ := hI.1.2 j hjJ
      refine b_yco_spread_45_1_34 (h := ?_) ..
      rw [hI.1.1, tj, x2, z_eq (by omega) (by omega), i1N]
      refine ⟨fun c => by simp (disch := omega) only [z_lit, z_litl, z_neg, z_negl, z_add, z_sub, z_mul, z_addl, z_subl, z_mull, z_cc, z_cl, z_cr, z_cm, z_cml, z_cmr, z_lt, z_le, z_eq, z_ltl, z_lel, z_eql, z_nat, z_i2l, z_l2i, z_div, z_sh, Int.toNat_natCast, z_ts, z_tsl] at c; omega, fun _ => ⟨oj, fun c => ?_, fun c => ?_⟩⟩
      · refine ihu (j + 1) A M L r f' g' (by omega) hI hf hg hA (fun i hi he => ?_) hr
        by_cases e : i = j
        · subst e; omega
        · exact hc i (by omega) he
      · have hls : κ (31 + j) = sz := by omega
        have inner : ∀ w i : Nat, ∀ (A1 : Nat → Nat) (M1 : Nat) (L1 : Nat → Nat) (r1 : Nat) (f1 : Nat → Int32) (g1 : Nat → Nat → Int32), w + i = bgD D (dd - sz + 1) → bgD D (dd - sz) ≤ i → spI κ cs p D dd A1 M1 L1 f1 g1 → fB f1 f → gB g1 g → (∀ x, A x < 1000000 → A1 x < 1000000) → (∀ i', bgD D (dd - sz) ≤ i' → i' < i → A1 (stB κ cs p (L1 i') (κ (39 + j))) < 1000000) → fl1 ce A1 A0 r1 →
            WP X (d + 4) 25 (58, [some (.ref 45), some (.ref 1), some (.int (iI (sz : Int))), some (.int (iI (dd : Int))), some (.int (iI (ce : Int))), some (.int (iI (r1 : Int))), some (.int (iI (bgD D (dd - sz) : Nat))), some (.int (iI (bgD D (dd - sz + 1) : Nat))), some (.int (iI (j : Int))), some (.int (iI (i : Int)))], [], Wd f1 fl g1 gl hh v tx) P := by
          intro w
          induction w with
          | zero =>
            intro i A1 M1 L1 r1 f1 g1 hw hi hI1 hf1 hg1 hA1 hc1 hr1
            have hw : i = bgD D (dd - sz + 1) := by omega
            subst hw
            refine b_yco_spread_45_1_58 (d := d + 3) (h := ⟨fun _ => ?_, fun c => absurd (Int32.le_refl _) c⟩) ..
            rw [i1N]
            refine ihu (j + 1) A1 M1 L1 r1 f1 g1 (by omega) hI1 hf1 hg1 (fun x hx => hA1 x (hA x hx)) (fun i hi he x hx hD => ?_) hr1
            by_cases e : i = j
            · subst e
              have hM1 := hI1.M (by omega)
              obtain ⟨-, -, ⟨-, -, -, a4, -, -⟩, ho, hv, -, -⟩ := hI1
              have hxA : A1 x < 1000000 := by
                rcases hv x with ⟨q1, q2⟩ | ⟨q1, q2⟩ <;> omega
              obtain ⟨i', i1, i2⟩ := a4 x hx hxA
              have := (ord_at (c := dd - sz) (ho i' i1)).mpr (by rw [i2]; omega)
              rw [← i2]
              exact hc1 i' this.1 this.2
            · exact hA1 _ (hc i (by omega) he x hx hD)
          | succ w ihw =>
            intro i A1 M1 L1 r1 f1 g1 hw hi hI1 hf1 hg1 hA1 hc1 hr1
            have hM1 := hI1.M (by omega)
            have hiM : i < M1 := by omega
            have ti : (iI (i : Int)).toNatClampNeg = i := by rw [z_nat (by omega)]; omega
            obtain ⟨q1, q2, q3⟩ := hI1.2.2.1.2.2.1 i hiM
            have hDx : D (L1 i) = dd - sz := (ord_at (c := dd - sz) (hI1.2.2.2.1 i hiM)).mp ⟨hi, by omega⟩
            have hlrn := hI1.2.2.2.2.2.1 (L1 i) q2 (by omega)
            obtain ⟨y1, y2, y3⟩ := hI1.1.2 j hjJ
            refine b_yco_spread_45_1_58 (d := d + 3) (h := ⟨fun c => by simp (disch := omega) only [z_lit, z_litl, z_neg, z_negl, z_add, z_sub, z_mul, z_addl, z_subl, z_mull, z_cc, z_cl, z_cr, z_cm, z_cml, z_cmr, z_lt, z_le, z_eq, z_ltl, z_lel, z_eql, z_nat, z_i2l, z_l2i, z_div, z_sh, Int.toNat_natCast, z_ts, z_tsl] at c; omega, fun _ => ?_⟩) ..
            rw [ti, tj, q1, y3]
            refine ⟨by simp (disch := omega) only [z_lit, z_litl, z_neg, z_negl, z_add, z_sub, z_mul, z_addl, z_subl, z_mull, z_cc, z_cl, z_cr, z_cm, z_cml, z_cmr, z_lt, z_le, z_eq, z_ltl, z_lel, z_eql, z_nat, z_i2l, z_l2i, z_div, z_sh, Int.toNat_natCast, z_ts, z_tsl]; omega, oj, ?_⟩
            refine c_cnext (d := d + 1) (κ := κ) (cs := cs) (p := p) hwS q2 hjJ hI1.2.1 ?_
            have hcN : cN κ cs p (g1 49) (L1 i) j = stB κ cs p (L1 i) (κ (39 + j)) := if_neg hlrn
            rw [hcN]
            have hyl : stB κ cs p (L1 i) (κ (39 + j)) < 1000 := stB_lt q2
            have hDy : D (stB κ cs p (L1 i) (κ (39 + j))) ≤ dd := by
              have := hdn (L1 i) j hjJ (by omega)
              have : D (stB κ cs p (L1 i) (κ (39 + j))) ≤ D (L1 i) + κ (31 + j) := this
              omega
            generalize hyy : stB κ cs p (L1 i) (κ (39 + j)) = y at hyl hDy
            have ty : (iI (y : Int)).toNatClampNeg = y := by rw [z_nat (by omega)]; omega
            have e40 : iI (y : Int) / (40 : Int32) = iI ((y / 40 : Nat) : Int) := (st_40 hyl).1
            have ec : (iI ((y / 40 : Nat) : Int) = iI (ce : Int)) = (y / 40 = ce) := by
              rw [z_eq (by omega) (by omega)]
              exact propext ⟨fun a => by omega, fun a => by omega⟩
            have r0 : (iI (r1 : Int) = (0 : Int32)) = (r1 = 0) := by
              have : r1 ≤ 1 := by rcases hr1 with ⟨e, -⟩ | ⟨e, -⟩ <;> omega
              rw [show (0 : Int32) = iI 0 from rfl, z_eq (by omega) (by omega)]
              exact propext ⟨fun a => by omega, fun a => by omega⟩
            have e46 := hI1.2.2.1.2.1 y hyl
            have hAr : ∀ z, A1 z ≤ 1000000 := fun z => by
              rcases hI1.2.2.2.2.1 z with ⟨a, b⟩ | ⟨a, b⟩ <;> omega
            have hAy := hAr y
            have en : (iI (if A1 y < 1000000 then (A1 y : Int) else -1) = (-1 : Int32)) = ¬ A1 y < 1000000 := by
              by_cases c : A1 y < 1000000
              · rw [if_pos c, show (-1 : Int32) = iI (-1) from rfl, z_eq (by omega) (by omega)]
                exact propext ⟨fun a => by omega, fun a => absurd c a⟩
              · rw [if_neg c]
                exact propext ⟨fun _ => c, fun _ => rfl⟩
            -- on with what is reached now
            have nx : ∀ (A2 : Nat → Nat) (M2 : Nat) (L2 : Nat → Nat) (f2 : Nat → Int32) (g2 : Nat → Nat → Int32), spI κ cs p D dd A2 M2 L2 f2 g2 → fB f2 f → gB g2 g → (∀ x, A1 x < 1000000 → A2 x < 1000000) → A2 y < 1000000 → (∀ x, A2 x < 1000000 → A1 x < 1000000 ∨ x = y) → (∀ i', i' < M1 → L2 i' = L1 i') →
                (y / 40 = ce → WP X (d + 4) 25 (58, [some (.ref 45), some (.ref 1), some (.int (iI (sz : Int))), some (.int (iI (dd : Int))), some (.int (iI (ce : Int))), some (.int 1), some (.int (iI (bgD D (dd - sz) : Nat))), some (.int (iI (bgD D (dd - sz + 1) : Nat))), some (.int (iI (j : Int))), some (.int (iI ((i + 1 : Nat) : Int)))], [], Wd f2 fl g2 gl hh v tx) P) ∧
                (¬ y / 40 = ce → (r1 = 0 → WP X (d + 4) 25 (58, [some (.ref 45), some (.ref 1), some (.int (iI (sz : Int))), some (.int (iI (dd : Int))), some (.int (iI (ce : Int))), some (.int 0), some (.int (iI (bgD D (dd - sz) : Nat))), some (.int (iI (bgD D (dd - sz + 1) : Nat))), some (.int (iI (j : Int))), some (.int (iI ((i + 1 : Nat) : Int)))], [], Wd f2 fl g2 gl hh v tx) P) ∧ (¬ r1 = 0 → WP X (d + 4) 25 (58, [some (.ref 45), some (.ref 1), some (.int (iI (sz : Int))), some (.int (iI (dd : Int))), some (.int (iI (ce : Int))), some (.int 1), some (.int (iI (bgD D (dd - sz) : Nat))), some (.int (iI (bgD D (dd - sz + 1) : Nat))), some (.int (iI (j : Int))), some (.int (iI ((i + 1 : Nat) : Int)))], [], Wd f2 fl g2 gl hh v tx) P)) := by
              intro A2 M2 L2 f2 g2 hI2 hf2 hg2 hA2 hAy2 hA3 hL2
              have go : ∀ r2 : Nat, fl1 ce A2 A0 r2 → WP X (d + 4) 25 (58, [some (.ref 45), some (.ref 1), some (.int (iI (sz : Int))), some (.int (iI (dd : Int))), some (.int (iI (ce : Int))), some (.int (iI (r2 : Int))), some (.int (iI (bgD D (dd - sz) : Nat))), some (.int (iI (bgD D (dd - sz + 1) : Nat))), some (.int (iI (j : Int))), some (.int (iI ((i + 1 : Nat) : Int)))], [], Wd f2 fl g2 gl hh v tx) P := fun r2 hr2 => by
                refine ihw (i + 1) A2 M2 L2 r2 f2 g2 (by omega) (by omega) hI2 hf2 hg2 (fun x hx => hA2 x (hA1 x hx)) (fun i' h1 h2 => ?_) hr2
                rw [hL2 i' (by omega)]
                by_cases e : i' = i
                · rw [e, hyy]; exact hAy2
                · exact hA2 _ (hc1 i' h1 (by omega))
              refine ⟨fun c => go 1 (Or.inl ⟨rfl, y, hyl, c, hAy2⟩), fun c => ⟨fun e => go 0 (Or.inr ⟨rfl, fun z h1 h2 h3 => ?_⟩), fun e => go 1 (Or.inl ⟨rfl, ?_⟩)⟩⟩
              · rcases hr1 with ⟨e1, -⟩ | ⟨-, e1⟩
                · omega
                · rcases hA3 z h3 with h4 | h4
                  · exact e1 z h1 h2 h4
                  · rw [h4] at h2; exact absurd h2 c
              · rcases hr1 with ⟨-, z, h1, h2, h3⟩ | ⟨e1, -⟩
                · exact ⟨z, h1, h2, hA2 z h3⟩
                · exact absurd e1 e
            refine b_yco_spread_45_1_84 (d := d + 2) (h := ?_) ..
            rw [ty, e46, en, e40, ec, r0, i1N, hI1.2.2.1.1]
            have hM1n : (iI (M1 : Int)).toNatClampNeg = M1 := by rw [z_nat (by omega)]; omega
            rw [hM1n]
            refine ⟨by simp (disch := omega) only [z_lit, z_litl, z_neg, z_negl, z_add, z_sub, z_mul, z_addl, z_subl, z_mull, z_cc, z_cl, z_cr, z_cm, z_cml, z_cmr, z_lt, z_le, z_eq, z_ltl, z_lel, z_eql, z_nat, z_i2l, z_l2i, z_div, z_sh, Int.toNat_natCast, z_ts, z_tsl]; omega, fun c => ?_, fun c => ⟨fun c2 => ?_, fun _ => ⟨by simp (disch := omega) only [z_lit, z_litl, z_neg, z_negl, z_add, z_sub, z_mul, z_addl, z_subl, z_mull, z_cc, z_cl, z_cr, z_cm, z_cml, z_cmr, z_lt, z_le, z_eq, z_ltl, z_lel, z_eql, z_nat, z_i2l, z_l2i, z_div, z_sh, Int.toNat_natCast, z_ts, z_tsl]; omega, ?_, ?_⟩⟩⟩
            · have c := Classical.not_not.mp c
              exact nx A1 M1 L1 f1 g1 hI1 hf1 hg1 (fun _ hx => hx) c (fun _ hx => Or.inl hx) fun _ _ => rfl
            · have := (hI1.add (by omega) hyl c hDy).1
              simp (disch := omega) only [z_lit, z_litl, z_neg, z_negl, z_add, z_sub, z_mul, z_addl, z_subl, z_mull, z_cc, z_cl, z_cr, z_cm, z_cml, z_cmr, z_lt, z_le, z_eq, z_ltl, z_lel, z_eql, z_nat, z_i2l, z_l2i, z_div, z_sh, Int.toNat_natCast, z_ts, z_tsl] at c2
              omega
            · have := (hI1.add (by omega) hyl c hDy).1
              simp (disch := omega) only [z_lit, z_litl, z_neg, z_negl, z_add, z_sub, z_mul, z_addl, z_subl, z_mull, z_cc, z_cl, z_cr, z_cm, z_cml, z_cmr, z_lt, z_le, z_eq, z_ltl, z_lel, z_eql, z_nat, z_i2l, z_l2i, z_div, z_sh, Int.toNat_natCast, z_ts, z_tsl]
              omega
            · obtain ⟨-, hI2⟩ := hI1.add (by omega) hyl c hDy
              rw [hI1.2.2.1.1] at hI2
              refine nx _ _ _ _ _ hI2 (fun a ha => (va_ne ha).trans (hf1 a ha)) (fun a h1 h2 => ((va_ne h2).trans (va_ne h1)).trans (hg1 a h1 h2)) (fun x hx => ?_) ?_ (fun x hx => ?_) fun i' hi' => if_neg (by omega)
              · show (if x = y then dd else A1 x) < 1000000
                split
                · omega
                · exact hx
              · show (if y = y then dd else A1 y) < 1000000
                rw [if_pos rfl]
                omega
              · have hx : (if x = y then dd else A1 x) < 1000000 := hx
                by_cases e : x = y
                · exact Or.inr e
                · rw [if_neg e] at hx; exact Or.inl hx
        refine inner (bgD D (dd - sz + 1) - bgD D (dd - sz)) (bgD D (dd - sz)) A M L r f' g' (by omega) (Nat.le_refl _) hI hf hg (fun _ hx => hx) (fun i' h1 h2 => by omega) hr
  exact outer (κ 55) 0 A0 M0 L0 0 f g rfl hI0 (fun _ _ => rfl) (fun _ _ _ => rfl) (fun _ hx => hx) (fun i hi => absurd hi (Nat.not_lt_zero i)) (Or.inr ⟨rfl, fun _ _ _ hx => hx⟩)
