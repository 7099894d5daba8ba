/-! the class's code book -/
theorem c_size {X : mm_X} {d : Nat} {f : Nat → Int32} {fl : Nat → Int64} {g : Nat → Nat → Int32} {gl : Nat → Nat → Int64} {hh : Nat → Nat → Option Nat} {v : Nat → Value} {tx : mm_W} {P : Option Value → mm_W → Prop} {i : Nat} (hi : i < 2147483648) (h : P (some (.int (iI (siz i : Nat)))) (Wd f fl g gl hh v tx)) : WP X d 19 (0, [some (.int (iI (i : Int)))], [], Wd f fl g gl hh v tx) P := by
  refine b_ycb_size_0 (h := ?_) ..
  simp (disch := omega) only [z_lit, z_litl, z_neg, z_negl, z_add, z_sub, z_mul, z_addl, z_subl, z_mull, z_cc, z_cl, z_cr, z_cm, z_cml, z_cmr, z_lt, z_le, z_eq, z_ltl, z_lel, z_eql, z_nat, z_i2l, z_l2i, z_div, z_sh, Int.toNat_natCast, z_ts, z_tsl]
  unfold siz at h
  refine ⟨fun c => ⟨fun c2 => ⟨fun c3 => ⟨fun c4 => ?_, fun c4 => ?_⟩, fun c3 => ?_⟩, fun c2 => ?_⟩, fun c => ?_⟩
  · rw [if_pos (by omega), if_pos (by omega), if_pos (by omega), if_pos (by omega)] at h; exact h
  · rw [if_pos (by omega), if_pos (by omega), if_pos (by omega), if_neg (by omega)] at h; exact h
  · rw [if_pos (by omega), if_pos (by omega), if_neg (by omega)] at h; exact h
  · rw [if_pos (by omega), if_neg (by omega)] at h; exact h
  · rw [if_neg (by omega)] at h; exact h
def lfV (o : Option Nat) : Int := match o with
  | none => -1
  | some y => y
theorem left_sh {r d : Nat} (hr : r < 512) (hd : 1 ≤ d ∧ d ≤ 4) : (iI (r : Int) >>> (iI ((2 * d : Nat) : Int) &&& (31 : Int32)) : Int32) = iI ((r / 4 ^ d : Nat) : Int) ∧ (((1 : Int32) <<< (iI ((2 * d : Nat) : Int) &&& (31 : Int32)) : Int32) ||| (iI (r : Int) &&& (((1 : Int32) <<< (iI ((2 * d : Nat) : Int) &&& (31 : Int32)) : Int32) - (1 : Int32)))) = iI ((4 ^ d + r % 4 ^ d : Nat) : Int) := by
  have sh : (iI ((2 * d : Nat) : Int) &&& (31 : Int32)) = iI ((2 * d : Nat) : Int) := z_sh (by omega)
  have p4 : 4 ^ d = 2 ^ (2 * d) := by rw [Nat.pow_mul]
  have hp : 4 ^ d ≤ 256 := by
    have : d = 1 ∨ d = 2 ∨ d = 3 ∨ d = 4 := by omega
    rcases this with rfl | rfl | rfl | rfl <;> decide
  have hp0 : 0 < 4 ^ d := Nat.pow_pos (by decide)
  have hm := Nat.mod_lt r hp0
  rw [sh]
  have e1 : ((1 : Int32) <<< iI ((2 * d : Nat) : Int) : Int32) = iI ((4 ^ d : Nat) : Int) := by
    rw [show (1 : Int32) = iI 1 from rfl, z_shl (by omega), Int.toNat_natCast, p4]
    congr 1
    rw [Int.one_mul]
    exact (Int.natCast_pow 2 (2 * d)).symm
  refine ⟨?_, ?_⟩
  · rw [z_shr (by omega) (by omega), Int.toNat_natCast, p4]
    congr 1
  · rw [e1]
    have e2 : iI ((4 ^ d : Nat) : Int) - (1 : Int32) = iI ((4 ^ d - 1 : Nat) : Int) := by
      rw [show (1 : Int32) = iI 1 from rfl, z_sub]
      congr 1
      omega
    rw [e2, z_and (by omega) (by omega), Int.toNat_natCast, Int.toNat_natCast, p4, Nat.and_two_pow_sub_one_eq_mod, ← p4, z_or (by omega) (by omega), Int.toNat_natCast, Int.toNat_natCast]
    congr 2
    have := or_add (a := 1) (b := r % 4 ^ d) (k := 2 * d) (by rw [← p4]; exact hm)
    rw [Nat.one_mul, ← p4] at this
    exact this
theorem c_left {X : mm_X} {d : Nat} {f : Nat → Int32} {fl : Nat → Int64} {g : Nat → Nat → Int32} {gl : Nat → Nat → Int64} {hh : Nat → Nat → Option Nat} {v : Nat → Value} {tx : mm_W} {P : Option Value → mm_W → Prop} {p r : Nat} (hp : p < 512) (hr : r < 512) (h : P (some (.int (iI (lfV (lf p r))))) (Wd f fl g gl hh v tx)) : WP X (d + 1) 18 (0, [some (.int (iI (p : Int))), some (.int (iI (r : Int))), none], [], Wd f fl g gl hh v tx) P := by
  have s1 := siz_rg p
  have s2 := siz_rg r
  refine b_ycb_left_0 (h := ?_) ..
  refine c_size (by omega) ?_
  refine b_ycb_left_5 (h := ?_) ..
  refine c_size (by omega) ?_
  refine b_ycb_left_9 (h := ?_) ..
  have eb : (2 : Int32) * (iI (siz r : Nat) - iI (siz p : Nat)) = iI (2 * ((siz r : Int) - (siz p : Int))) := by rw [show (2 : Int32) = iI 2 from rfl, z_sub, z_mul]
  show ((2 : Int32) * (iI (siz r : Nat) - iI (siz p : Nat)) ≤ 0 → _) ∧ _
  rw [eb]
  unfold lf at h
  refine ⟨fun c => ?_, fun c => ?_⟩
  · simp (disch := omega) only [z_lit, z_litl, z_neg, z_negl, z_add, z_sub, z_mul, z_addl, z_subl, z_mull, z_cc, z_cl, z_cr, z_cm, z_cml, z_cmr, z_lt, z_le, z_eq, z_ltl, z_lel, z_eql, z_nat, z_i2l, z_l2i, z_div, z_sh, Int.toNat_natCast, z_ts, z_tsl] at c
    rw [if_neg (by omega)] at h
    exact h
  · simp (disch := omega) only [z_lit, z_litl, z_neg, z_negl, z_add, z_sub, z_mul, z_addl, z_subl, z_mull, z_cc, z_cl, z_cr, z_cm, z_cml, z_cmr, z_lt, z_le, z_eq, z_ltl, z_lel, z_eql, z_nat, z_i2l, z_l2i, z_div, z_sh, Int.toNat_natCast, z_ts, z_tsl] at c
    obtain ⟨d1, hd⟩ : ∃ d1, siz r = siz p + d1 := ⟨siz r - siz p, by omega⟩
    have ed : siz r - siz p = d1 := by omega
    have e2 : 2 * ((siz r : Int) - (siz p : Int)) = ((2 * d1 : Nat) : Int) := by omega
    obtain ⟨k1, k2⟩ := left_sh (r := r) (d := d1) hr (by omega)
    rw [e2, k1, k2]
    rw [ed] at h
    have hq : r / 4 ^ d1 ≤ r := Nat.div_le_self _ _
    generalize r / 4 ^ d1 = q1 at hq h ⊢
    refine ⟨fun c2 => ?_, fun c2 => ?_⟩
    · rw [z_eq (by omega) (by omega)] at c2
      rw [if_pos ⟨by omega, by omega⟩] at h
      exact h
    · rw [z_eq (by omega) (by omega)] at c2
      rw [if_neg (by omega)] at h
      exact h
/-- what the book holds -/
def cbI (S : Nat → Prop) (A : Nat → Nat) (M : Nat) (L : Nat → Nat) (f : Nat → Int32) (g : Nat → Nat → Int32) : Prop := f 3203 = iI (M : Int) ∧ (∀ i, i < 128 → g 52 i = iI (A i : Int)) ∧ (∀ i, i < M → g 53 i = iI (L i : Int) ∧ 4 ≤ L i ∧ L i < 128 ∧ A (L i) < 1000000) ∧ (∀ x, x < 128 → A x < 1000000 → ∃ i, i < M ∧ L i = x) ∧ M = cnt (fun i => decide (A i < 1000000)) 128 ∧ (∀ x, A x ≤ 1000000) ∧ ∀ x, A x < 1000000 → Rch S x (A x)
/-- a book from another one: costs no more, rows behind -/
def cbU (A A' : Nat → Nat) (M M' : Nat) (L L' : Nat → Nat) : Prop := (∀ x, A' x ≤ A x) ∧ M ≤ M' ∧ ∀ i, i < M → L' i = L i
theorem cbU.r {A : Nat → Nat} {M : Nat} {L : Nat → Nat} : cbU A A M M L L := ⟨fun _ => Nat.le_refl _, Nat.le_refl _, fun _ _ => rfl⟩
theorem cbU.t {A A' A2 : Nat → Nat} {M M' M2 : Nat} {L L' L2 : Nat → Nat} (h : cbU A A' M M' L L') (h2 : cbU A' A2 M' M2 L' L2) : cbU A A2 M M2 L L2 := ⟨fun x => Nat.le_trans (h2.1 x) (h.1 x), Nat.le_trans h.2.1 h2.2.1, fun i hi => (h2.2.2 i (Nat.lt_of_lt_of_le hi h.2.1)).trans (h.2.2 i hi)⟩
def fcb (f' f : Nat → Int32) : Prop := ∀ a, a ≠ 3203 → f' a = f a
def gcb (g' g : Nat → Nat → Int32) : Prop := ∀ a, a ≠ 52 → a ≠ 53 → g' a = g a
theorem c_offer {X : mm_X} {d : Nat} {f : Nat → Int32} {fl : Nat → Int64} {g : Nat → Nat → Int32} {gl : Nat → Nat → Int64} {hh : Nat → Nat → Option Nat} {v : Nat → Value} {tx : mm_W} {P : Option Value → mm_W → Prop} {S : Nat → Prop} {A L : Nat → Nat} {M c : Nat} {o : Option Nat} (hI : cbI S A M L f g) (ho : ∀ y, o = some y → 4 ≤ y ∧ y < 128) (hc : c ≤ 2000000) (hr : ∀ y, o = some y → c < 1000000 → Rch S y c)
    (h : ∀ (A' L' : Nat → Nat) (M' r : Nat) (f' : Nat → Int32) (g' : Nat → Nat → Int32), cbI S A' M' L' f' g' → fcb f' f → gcb g' g → cbU A A' M M' L L' → (∀ y, o = some y → A' y ≤ c) → (r = 0 ∧ A' = A ∧ M' = M ∨ r = 1) → P (some (.int (iI (r : Int)))) (Wd f' fl g' gl hh v tx)) :
    WP X (d + 1) 17 (0, [some (.ref 50), some (.int (iI (lfV o))), some (.int (iI (c : Int)))], [], Wd f fl g gl hh v tx) P := by
  obtain ⟨i1, i2, i3, i4, i5, i6, i7⟩ := hI
  have hML : M ≤ 128 := by rw [i5]; exact cnt_le 128
  refine b_ycb_offer_50_0 (h := ?_) ..
  cases o with
  | none => exact ⟨fun hc => absurd hc.1 (by decide), fun _ => h A L M 0 f g ⟨i1, i2, i3, i4, i5, i6, i7⟩ (fun _ _ => rfl) (fun _ _ _ => rfl) cbU.r (fun y hy => by cases hy) (Or.inl ⟨rfl, rfl, rfl⟩)⟩
  | some y =>
    obtain ⟨y1, y2⟩ := ho y rfl
    have hr := hr y rfl
    show ((0 ≤ iI (y : Int) ∧ iI (y : Int) < (128 : Int32)) → _) ∧ _
    have ty : (iI (y : Int)).toNatClampNeg = y := by rw [z_nat (by omega)]; omega
    have tM : (iI (M : Int)).toNatClampNeg = M := by rw [z_nat (by omega)]; omega
    have hA := i6 y
    have eF : (iI (A y : Int) = (1000000 : Int32)) = (A y = 1000000) := by
      rw [show (1000000 : Int32) = iI 1000000 from rfl, z_eq (by omega) (by omega)]
      exact propext ⟨fun a => by omega, fun a => by omega⟩
    show ((0 ≤ iI (y : Int) ∧ iI (y : Int) < (128 : Int32)) → (¬ (iI (y : Int) < 0 ∨ 128 ≤ (iI (y : Int)).toNatClampNeg)) ∧ _) ∧ _
    refine ⟨fun _ => ?_, fun hn => absurd (show (0 : Int32) ≤ iI (y : Int) ∧ iI (y : Int) < (128 : Int32) from ⟨by simp (disch := omega) only [z_lit, z_litl, z_neg, z_negl, z_add, z_sub, z_mul, z_addl, z_subl, z_mull, z_cc, z_cl, z_cr, z_cm, z_cml, z_cmr, z_lt, z_le, z_eq, z_ltl, z_lel, z_eql, z_nat, z_i2l, z_l2i, z_div, z_sh, Int.toNat_natCast, z_ts, z_tsl]; omega, by simp (disch := omega) only [z_lit, z_litl, z_neg, z_negl, z_add, z_sub, z_mul, z_addl, z_subl, z_mull, z_cc, z_cl, z_cr, z_cm, z_cml, z_cmr, z_lt, z_le, z_eq, z_ltl, z_lel, z_eql, z_nat, z_i2l, z_l2i, z_div, z_sh, Int.toNat_natCast, z_ts, z_tsl]; omega⟩) hn⟩
    rw [show lfV (some y) = (y : Int) from rfl, ty, i2 y y2, i1, eF, tM]
    have oob : ¬ (iI (y : Int) < 0 ∨ 128 ≤ y) := by simp (disch := omega) only [z_lit, z_litl, z_neg, z_negl, z_add, z_sub, z_mul, z_addl, z_subl, z_mull, z_cc, z_cl, z_cr, z_cm, z_cml, z_cmr, z_lt, z_le, z_eq, z_ltl, z_lel, z_eql, z_nat, z_i2l, z_l2i, z_div, z_sh, Int.toNat_natCast, z_ts, z_tsl]; omega
    refine ⟨oob, fun hlt => ?_, fun hlt => ?_⟩
    · have hlt : c < A y := by simp (disch := omega) only [z_lit, z_litl, z_neg, z_negl, z_add, z_sub, z_mul, z_addl, z_subl, z_mull, z_cc, z_cl, z_cr, z_cm, z_cml, z_cmr, z_lt, z_le, z_eq, z_ltl, z_lel, z_eql, z_nat, z_i2l, z_l2i, z_div, z_sh, Int.toNat_natCast, z_ts, z_tsl] at hlt; omega
      -- the new costs
      have n2 : ∀ i, i < 128 → upd (g 52) y (iI (c : Int)) i = iI ((if i = y then c else A i : Nat) : Int) := fun i hi => by
        by_cases e : i = y
        · rw [e, upd_s, if_pos rfl]
        · rw [upd_ne e, if_neg e]; exact i2 i hi
      have n6 : ∀ x, (if x = y then c else A x) ≤ 1000000 := fun x => by
        have := i6 x
        split <;> omega
      have n7 : ∀ x, (if x = y then c else A x) < 1000000 → Rch S x (if x = y then c else A x) := fun x hx => by
        by_cases e : x = y
        · subst e
          rw [if_pos rfl]
          exact hr (by omega)
        · rw [if_neg e] at hx ⊢
          exact i7 x hx
      have nle : ∀ x, (if x = y then c else A x) ≤ A x := fun x => by
        by_cases e : x = y
        · subst e; rw [if_pos rfl]; omega
        · rw [if_neg e]; exact Nat.le_refl _
      refine ⟨oob, fun nF => ⟨oob, ?_⟩, fun yF => ⟨fun c128 => ?_, fun c128 => ⟨by simp (disch := omega) only [z_lit, z_litl, z_neg, z_negl, z_add, z_sub, z_mul, z_addl, z_subl, z_mull, z_cc, z_cl, z_cr, z_cm, z_cml, z_cmr, z_lt, z_le, z_eq, z_ltl, z_lel, z_eql, z_nat, z_i2l, z_l2i, z_div, z_sh, Int.toNat_natCast, z_ts, z_tsl] at c128 ⊢; omega, oob, ?_⟩⟩⟩
      · refine h (fun x => if x = y then c else A x) L M 1 _ _ ⟨i1, n2, fun i hi => ?_, fun x hx hx2 => ?_, ?_, n6, n7⟩ (fun _ _ => rfl) (fun a a1 a2 => va_ne a1) ⟨nle, Nat.le_refl _, fun _ _ => rfl⟩ (fun y' hy' => by cases hy'; exact Nat.le_of_eq (if_pos rfl)) (Or.inr rfl)
        · obtain ⟨q1, q2, q3, q4⟩ := i3 i hi
          exact ⟨q1, q2, q3, Nat.lt_of_le_of_lt (nle _) q4⟩
        · by_cases e : x = y
          · exact i4 x hx (by subst e; omega)
          · simp only [if_neg e] at hx2
            exact i4 x hx hx2
        · rw [i5]
          refine cnt_eq 128 fun i hi => ?_
          show decide (A i < 1000000) = decide ((if i = y then c else A i) < 1000000)
          by_cases e : i = y
          · subst e
            rw [if_pos rfl, decide_eq_true (by omega), decide_eq_true (by omega)]
          · rw [if_neg e]
      · -- there is room
        exfalso
        have c128 : 128 ≤ M := by simp (disch := omega) only [z_lit, z_litl, z_neg, z_negl, z_add, z_sub, z_mul, z_addl, z_subl, z_mull, z_cc, z_cl, z_cr, z_cm, z_cml, z_cmr, z_lt, z_le, z_eq, z_ltl, z_lel, z_eql, z_nat, z_i2l, z_l2i, z_div, z_sh, Int.toNat_natCast, z_ts, z_tsl] at c128; omega
        have := cnt_full (p := fun i => decide (A i < 1000000)) 128 (by rw [← i5]; exact c128) y y2
        have := of_decide_eq_true this
        omega
      · have c128 : M < 128 := by simp (disch := omega) only [z_lit, z_litl, z_neg, z_negl, z_add, z_sub, z_mul, z_addl, z_subl, z_mull, z_cc, z_cl, z_cr, z_cm, z_cml, z_cmr, z_lt, z_le, z_eq, z_ltl, z_lel, z_eql, z_nat, z_i2l, z_l2i, z_div, z_sh, Int.toNat_natCast, z_ts, z_tsl] at c128; omega
        rw [i1N]
        refine h (fun x => if x = y then c else A x) (fun i => if i = M then y else L i) (M + 1) 1 _ _ ⟨va_s, ?_, fun i hi => ?_, fun x hx hx2 => ?_, ?_, n6, n7⟩ (fun a a1 => va_ne a1) (fun a a1 a2 => (va_ne a1).trans (va_ne a2)) ⟨nle, by omega, fun i hi => if_neg (by omega)⟩ (fun y' hy' => by cases hy'; exact Nat.le_of_eq (if_pos rfl)) (Or.inr rfl)
        · rw [va_s]; exact n2
        · rw [va_ne (by decide), va_s]
          by_cases e : i = M
          · subst e
            rw [upd_s]
            simp only [if_true]
            exact ⟨trivial, y1, y2, by omega⟩
          · rw [upd_ne e]
            simp only [if_neg e]
            obtain ⟨q1, q2, q3, q4⟩ := i3 i (by omega)
            exact ⟨q1, q2, q3, Nat.lt_of_le_of_lt (nle _) q4⟩
        · by_cases e : x = y
          · exact ⟨M, by omega, by simp only [if_true]; exact e.symm⟩
          · simp only [if_neg e] at hx2
            obtain ⟨i, q1, q2⟩ := i4 x hx hx2
            exact ⟨i, by omega, by simp only [if_neg (show ¬ i = M by omega)]; exact q2⟩
        · rw [i5]
          refine (cnt_add (z := y) ?_ ?_ 128 (fun i hi hne => ?_) y2).symm
          · rw [decide_eq_false (by omega)]
          · simp only [if_true]
            exact decide_eq_true (by omega)
          · simp only [if_neg hne]
    · have hlt : A y ≤ c := by simp (disch := omega) only [z_lit, z_litl, z_neg, z_negl, z_add, z_sub, z_mul, z_addl, z_subl, z_mull, z_cc, z_cl, z_cr, z_cm, z_cml, z_cmr, z_lt, z_le, z_eq, z_ltl, z_lel, z_eql, z_nat, z_i2l, z_l2i, z_div, z_sh, Int.toNat_natCast, z_ts, z_tsl] at hlt; omega
      exact h A L M 0 f g ⟨i1, i2, i3, i4, i5, i6, i7⟩ (fun _ _ => rfl) (fun _ _ _ => rfl) cbU.r (fun y' hy' => by cases hy'; exact hlt) (Or.inl ⟨rfl, rfl, rfl⟩)
def szV (o : Option Nat) : Nat := match o with
  | none => 0
  | some y => siz y
theorem szV_s {o : Option Nat} {y : Nat} (h : o = some y) : szV o = siz y := by rw [h]; rfl
theorem szV_le (o : Option Nat) : szV o ≤ 4 := by
  cases o with
  | none => exact Nat.zero_le _
  | some y => exact (siz_rg y).1
theorem c_sizeV {X : mm_X} {d : Nat} {f : Nat → Int32} {fl : Nat → Int64} {g : Nat → Nat → Int32} {gl : Nat → Nat → Int64} {hh : Nat → Nat → Option Nat} {v : Nat → Value} {tx : mm_W} {P : Option Value → mm_W → Prop} {o : Option Nat} (ho : ∀ y, o = some y → y < 128) (h : P (some (.int (iI (szV o : Int)))) (Wd f fl g gl hh v tx)) : WP X d 19 (0, [some (.int (iI (lfV o)))], [], Wd f fl g gl hh v tx) P := by
  cases o with
  | none => exact b_ycb_size_0 (h := ⟨fun c => absurd c (by decide), fun _ => h⟩) ..
  | some y => exact c_size (by have := ho y rfl; omega) h
/-- a round -/
theorem c_improve {X : mm_X} {d : Nat} {f : Nat → Int32} {fl : Nat → Int64} {g : Nat → Nat → Int32} {gl : Nat → Nat → Int64} {hh : Nat → Nat → Option Nat} {v : Nat → Value} {tx : mm_W} {P : Option Value → mm_W → Prop} {S : Nat → Prop} {A L : Nat → Nat} {M m : Nat} {cd_ : Nat → Nat} (hm : m ≤ 8) (hcd : ∀ j, j < m → g 51 j = iI (cd_ j : Int) ∧ 4 ≤ cd_ j ∧ cd_ j < 512 ∧ S (cd_ j)) (hS : ∀ a, S a → ∃ j, j < m ∧ a = cd_ j) (hI : cbI S A M L f g)
    (h : ∀ (A' L' : Nat → Nat) (M' r : Nat) (f' : Nat → Int32) (g' : Nat → Nat → Int32), cbI S A' M' L' f' g' → fcb f' f → gcb g' g → cbU A A' M M' L L' → prA S A A' → (r = 0 ∧ A' = A ∨ r = 1) → P (some (.int (iI (r : Int)))) (Wd f' fl g' gl hh v tx)) :
    WP X (d + 3) 16 (0, [some (.ref 50), some (.int (iI (m : Int))), none, none, none, none, none, none], [], Wd f fl g gl hh v tx) P := by
  have hS4 : ∀ a, S a → 4 ≤ a := fun a ha => by
    obtain ⟨j, hj, rfl⟩ := hS a ha
    exact (hcd j hj).2.1
  have outer : ∀ n i : Nat, ∀ (A' L' : Nat → Nat) (M' r : Nat) (f' : Nat → Int32) (g' : Nat → Nat → Int32), n + i = 128 → i ≤ M' → cbI S A' M' L' f' g' → fcb f' f → gcb g' g → cbU A A' M M' L L' → (∀ k, k < i → k < M → ∀ a y, S a → (lf a (L k) = some y → A' y ≤ A (L k)) ∧ (lf (L k) a = some y → A' y ≤ A (L k) + siz y)) → (r = 0 ∧ A' = A ∧ M' = M ∨ r = 1) → WP X (d + 3) 16 (4, [some (.ref 50), some (.int (iI (m : Int))), some (.int (iI (r : Int))), some (.int (iI (i : Int))), none, none, none, none], [], Wd f' fl g' gl hh v tx) P := by
    intro n
    induction n with
    | zero =>
      intro i A' L' M' r f' g' hn hi hI' hf hg hU hd hr
      have hM : M' ≤ 128 := by rw [hI'.2.2.2.2.1]; exact cnt_le 128
      have e : i = M' := by omega
      subst e
      refine b_ycb_improve_50_4 (h := ?_) ..
      rw [hI'.1]
      refine ⟨fun _ => ⟨?_, h A' L' i r f' g' hI' hf hg hU (fun x a y ha hx => ?_) ?_⟩, fun c => absurd (Int32.le_refl _) c⟩
      · rcases hr with ⟨e, -⟩ | e
        · exact Or.inl (by rw [e]; rfl)
        · exact Or.inr (by rw [e]; rfl)
      · have hrg := (hI.2.2.2.2.2.2 x hx).rng hS4
        obtain ⟨k, k1, k2⟩ := hI.2.2.2.1 x hrg.2 hx
        have := hd k (Nat.lt_of_lt_of_le k1 hU.2.1) k1 a y ha
        rw [k2] at this
        exact this
      · rcases hr with ⟨e, e2, -⟩ | e
        · exact Or.inl ⟨e, e2⟩
        · exact Or.inr e
    | succ n ih =>
      intro i A' L' M' r f' g' hn hi hI' hf hg hU hd hr
      have hM : M' ≤ 128 := by rw [hI'.2.2.2.2.1]; exact cnt_le 128
      refine b_ycb_improve_50_4 (h := ?_) ..
      rw [hI'.1, show (iI (i : Int)).toNatClampNeg = i by rw [z_nat (by omega)]; omega]
      refine ⟨fun c => ?_, fun c => ⟨by simp (disch := omega) only [z_lit, z_litl, z_neg, z_negl, z_add, z_sub, z_mul, z_addl, z_subl, z_mull, z_cc, z_cl, z_cr, z_cm, z_cml, z_cmr, z_lt, z_le, z_eq, z_ltl, z_lel, z_eql, z_nat, z_i2l, z_l2i, z_div, z_sh, Int.toNat_natCast, z_ts, z_tsl]; omega, ?_⟩⟩
      · have c : M' ≤ i := by simp (disch := omega) only [z_lit, z_litl, z_neg, z_negl, z_add, z_sub, z_mul, z_addl, z_subl, z_mull, z_cc, z_cl, z_cr, z_cm, z_cml, z_cmr, z_lt, z_le, z_eq, z_ltl, z_lel, z_eql, z_nat, z_i2l, z_l2i, z_div, z_sh, Int.toNat_natCast, z_ts, z_tsl] at c; omega
        have e : i = M' := by omega
        subst e
        refine ⟨?_, h A' L' i r f' g' hI' hf hg hU (fun x a y ha hx => ?_) ?_⟩
        · rcases hr with ⟨e, -⟩ | e
          · exact Or.inl (by rw [e]; rfl)
          · exact Or.inr (by rw [e]; rfl)
        · have hrg := (hI.2.2.2.2.2.2 x hx).rng hS4
          obtain ⟨k, k1, k2⟩ := hI.2.2.2.1 x hrg.2 hx
          have := hd k (Nat.lt_of_lt_of_le k1 hU.2.1) k1 a y ha
          rw [k2] at this
          exact this
        · rcases hr with ⟨e, e2, -⟩ | e
          · exact Or.inl ⟨e, e2⟩
          · exact Or.inr e
      · have hiM : i < M' := by simp (disch := omega) only [z_lit, z_litl, z_neg, z_negl, z_add, z_sub, z_mul, z_addl, z_subl, z_mull, z_cc, z_cl, z_cr, z_cm, z_cml, z_cmr, z_lt, z_le, z_eq, z_ltl, z_lel, z_eql, z_nat, z_i2l, z_l2i, z_div, z_sh, Int.toNat_natCast, z_ts, z_tsl] at c; omega
        obtain ⟨x1, x2, x3, x4⟩ := hI'.2.2.1 i hiM
        rw [x1]
        -- the lead
        generalize hx0 : L' i = x0 at x1 x2 x3 x4
        have inner : ∀ u t : Nat, ∀ (B K : Nat → Nat) (N q : Nat) (f2 : Nat → Int32) (g2 : Nat → Nat → Int32), u + t = m → cbI S B N K f2 g2 → fcb f2 f → gcb g2 g → cbU A' B M' N L' K → (∀ j, j < t → ∀ y, (lf (cd_ j) x0 = some y → B y ≤ A' x0) ∧ (lf x0 (cd_ j) = some y → B y ≤ A' x0 + siz y)) → (q = 0 ∧ B = A ∧ N = M ∨ q = 1) → WP X (d + 3) 16 (23, [some (.ref 50), some (.int (iI (m : Int))), some (.int (iI (q : Int))), some (.int (iI (i : Int))), some (.int (iI (x0 : Int))), some (.int (iI (t : Int))), none, none], [], Wd f2 fl g2 gl hh v tx) P := by
          intro u
          induction u with
          | zero =>
            intro t B K N q f2 g2 ht hB hf2 hg2 hU2 hd2 hq
            have ht : t = m := by omega
            subst ht
            refine b_ycb_improve_50_23 (h := ⟨fun _ => ?_, fun c => absurd (Int32.le_refl _) c⟩) ..
            rw [i1N]
            refine ih (i + 1) B K N q f2 g2 (by omega) (by have := hU2.2.1; omega) hB hf2 hg2 (hU.t hU2) (fun k hk hkM a y ha => ?_) hq
            by_cases e : k = i
            · subst e
              obtain ⟨j, hj, rfl⟩ := hS a ha
              have eL : L k = x0 := by rw [← hx0]; exact (hU.2.2 k hkM).symm
              rw [eL]
              have := hd2 j hj y
              have hle := hU.1 x0
              exact ⟨fun h => by have := this.1 h; omega, fun h => by have := this.2 h; omega⟩
            · have := hd k (by omega) hkM a y ha
              have hle := hU2.1 y
              exact ⟨fun h => by have := this.1 h; omega, fun h => by have := this.2 h; omega⟩
          | succ u ihu =>
            intro t B K N q f2 g2 ht hB hf2 hg2 hU2 hd2 hq
            have htm : t < m := by omega
            obtain ⟨c1, c2, c3, c4⟩ := hcd t htm
            have e51 : g2 51 t = iI (cd_ t : Int) := by rw [hg2 51 (by decide) (by decide)]; exact c1
            have tt : (iI (t : Int)).toNatClampNeg = t := by rw [z_nat (by omega)]; omega
            have tx0 : (iI (x0 : Int)).toNatClampNeg = x0 := by rw [z_nat (by omega)]; omega
            have obt : ¬ (iI (t : Int) < 0 ∨ 8 ≤ t) := by simp (disch := omega) only [z_lit, z_litl, z_neg, z_negl, z_add, z_sub, z_mul, z_addl, z_subl, z_mull, z_cc, z_cl, z_cr, z_cm, z_cml, z_cmr, z_lt, z_le, z_eq, z_ltl, z_lel, z_eql, z_nat, z_i2l, z_l2i, z_div, z_sh, Int.toNat_natCast, z_ts, z_tsl]; omega
            have obx : ¬ (iI (x0 : Int) < 0 ∨ 128 ≤ x0) := by simp (disch := omega) only [z_lit, z_litl, z_neg, z_negl, z_add, z_sub, z_mul, z_addl, z_subl, z_mull, z_cc, z_cl, z_cr, z_cm, z_cml, z_cmr, z_lt, z_le, z_eq, z_ltl, z_lel, z_eql, z_nat, z_i2l, z_l2i, z_div, z_sh, Int.toNat_natCast, z_ts, z_tsl]; omega
            have hBx : B x0 < 1000000 := Nat.lt_of_le_of_lt (hU2.1 x0) x4
            refine b_ycb_improve_50_23 (h := ⟨fun c => by simp (disch := omega) only [z_lit, z_litl, z_neg, z_negl, z_add, z_sub, z_mul, z_addl, z_subl, z_mull, z_cc, z_cl, z_cr, z_cm, z_cml, z_cmr, z_lt, z_le, z_eq, z_ltl, z_lel, z_eql, z_nat, z_i2l, z_l2i, z_div, z_sh, Int.toNat_natCast, z_ts, z_tsl] at c; omega, fun _ => ?_⟩) ..
            rw [tt, e51]
            refine ⟨obt, ?_⟩
            refine c_left (d := d + 1) c3 (by omega) ?_
            refine b_ycb_improve_50_41 (h := ?_) ..
            rw [tt, e51]
            refine ⟨obt, ?_⟩
            refine c_left (d := d + 1) (by omega) c3 ?_
            refine b_ycb_improve_50_55 (h := ?_) ..
            rw [tx0, hB.2.1 x0 x3]
            refine ⟨obx, ?_⟩
            have o1 : ∀ y, lf (cd_ t) x0 = some y → 4 ≤ y ∧ y < 128 := fun y hy => ⟨(lf_rng c2 hy).1, (lf_rng c2 hy).2.1⟩
            have o2 : ∀ y, lf x0 (cd_ t) = some y → 4 ≤ y ∧ y < 128 := fun y hy => ⟨(lf_rng x2 hy).1, (lf_rng x2 hy).2.1⟩
            refine c_offer (d := d + 1) (o := lf (cd_ t) x0) hB o1 (by omega) (fun y hy hc => (hB.2.2.2.2.2.2 x0 hBx).s1 c4 hy) fun B1 K1 N1 r1 f3 g3 hB1 hf3 hg3 hU3 hy1 hr1 => ?_
            have hBx1 : B1 x0 < 1000000 := Nat.lt_of_le_of_lt (hU3.1 x0) hBx
            -- the second one
            have at98 : ∀ q1 : Nat, (q1 = 0 ∧ B1 = A ∧ N1 = M ∨ q1 = 1) → WP X (d + 2) 19 (0, [some (.int (iI (lfV (lf x0 (cd_ t)))))], [], Wd f3 fl g3 gl hh v tx) (fun rv w2 => WP X (d + 3) 16 (98, [some (.ref 50), some (.int (iI (m : Int))), some (.int (iI (q1 : Int))), some (.int (iI (i : Int))), some (.int (iI (x0 : Int))), some (.int (iI (t : Int))), none, some (.int (iI (lfV (lf x0 (cd_ t)))))], rv.toList ++ [.int (iI (B1 x0 : Int)), .int (iI (lfV (lf x0 (cd_ t)))), .ref 50], w2) P) := by
              intro q1 hq1
              refine c_sizeV (fun y hy => (o2 y hy).2) ?_
              refine b_ycb_improve_50_98 (h := ?_) ..
              have esum : ∀ z : Nat, iI (B1 x0 : Int) + iI (z : Int) = iI ((B1 x0 + z : Nat) : Int) := fun z => by rw [z_add]; rfl
              rw [esum]
              have hsz := szV_le (lf x0 (cd_ t))
              refine c_offer (d := d + 1) (o := lf x0 (cd_ t)) hB1 o2 (by omega) (fun y hy hc => by
                rw [szV_s hy]
                exact (hB1.2.2.2.2.2.2 x0 hBx1).s2 c4 hy) fun B2 K2 N2 r2 f4 g4 hB2 hf4 hg4 hU4 hy2 hr2 => ?_
              have go : ∀ q2 : Nat, (q2 = 0 ∧ B2 = A ∧ N2 = M ∨ q2 = 1) → WP X (d + 3) 16 (23, [some (.ref 50), some (.int (iI (m : Int))), some (.int (iI (q2 : Int))), some (.int (iI (i : Int))), some (.int (iI (x0 : Int))), some (.int (iI ((t + 1 : Nat) : Int))), none, none], [], Wd f4 fl g4 gl hh v tx) P := by
                intro q2 hq2
                refine ihu (t + 1) B2 K2 N2 q2 f4 g4 (by omega) hB2 (fun a ha => (hf4 a ha).trans ((hf3 a ha).trans (hf2 a ha))) (fun a h1 h2 => (hg4 a h1 h2).trans ((hg3 a h1 h2).trans (hg2 a h1 h2))) ((hU2.t hU3).t hU4) (fun j hj y => ?_) hq2
                have l4 := hU4.1 y
                have l3 := hU3.1 y
                have l2x := hU2.1 x0
                have l3x := hU3.1 x0
                by_cases e : j = t
                · subst e
                  refine ⟨fun h => ?_, fun h => ?_⟩
                  · have := hy1 y h
                    omega
                  · have := hy2 y h
                    rw [h] at this
                    have this : B2 y ≤ B1 x0 + siz y := this
                    omega
                · have := hd2 j (by omega) y
                  exact ⟨fun h => by have := this.1 h; omega, fun h => by have := this.2 h; omega⟩
              refine b_ycb_improve_50_102 (h := ?_) ..
              rw [i1N]
              have k0 : ∀ z : Nat, z ≤ 1 → ((iI (z : Int) = (0 : Int32)) = (z = 0)) := fun z hz => by
                rw [show (0 : Int32) = iI 0 from rfl, z_eq (by omega) (by omega)]
                exact propext ⟨fun a => by omega, fun a => by omega⟩
              have hr2l : r2 ≤ 1 := by rcases hr2 with ⟨e, -⟩ | e <;> omega
              have hq1l : q1 ≤ 1 := by rcases hq1 with ⟨e, -⟩ | e <;> omega
              rw [k0 r2 hr2l, k0 q1 hq1l]
              refine ⟨fun _ => go 1 (Or.inr rfl), fun e => ⟨fun e2 => go 0 (Or.inl ⟨rfl, ?_⟩), fun _ => go 1 (Or.inr rfl)⟩⟩
              rcases hr2 with ⟨-, w1, w2⟩ | w
              · rcases hq1 with ⟨-, w3, w4⟩ | w
                · exact ⟨w1.trans w3, w2.trans w4⟩
                · omega
              · omega
            refine b_ycb_improve_50_70 (h := ?_) ..
            have k0 : ∀ z : Nat, z ≤ 1 → ((iI (z : Int) = (0 : Int32)) = (z = 0)) := fun z hz => by
              rw [show (0 : Int32) = iI 0 from rfl, z_eq (by omega) (by omega)]
              exact propext ⟨fun a => by omega, fun a => by omega⟩
            have hr1l : r1 ≤ 1 := by rcases hr1 with ⟨e, -⟩ | e <;> omega
            have hql : q ≤ 1 := by rcases hq with ⟨e, -⟩ | e <;> omega
            rw [k0 r1 hr1l, k0 q hql, tx0, hB1.2.1 x0 x3]
            refine ⟨fun _ => ⟨obx, at98 1 (Or.inr rfl)⟩, fun e => ⟨fun e2 => ⟨obx, at98 0 (Or.inl ⟨rfl, ?_⟩)⟩, fun _ => ⟨obx, at98 1 (Or.inr rfl)⟩⟩⟩
            rcases hr1 with ⟨-, w1, w2⟩ | w
            · rcases hq with ⟨-, w3, w4⟩ | w
              · exact ⟨w1.trans w3, w2.trans w4⟩
              · omega
            · omega
        exact inner m 0 A' L' M' r f' g' rfl hI' hf hg cbU.r (fun j hj => absurd hj (Nat.not_lt_zero j)) hr
  refine b_ycb_improve_50_0 (h := ?_) ..
  exact outer 128 0 A L M 0 f g rfl (Nat.zero_le _) hI (fun _ _ => rfl) (fun _ _ _ => rfl) cbU.r (fun k hk => absurd hk (Nat.not_lt_zero k)) (Or.inl ⟨rfl, rfl, rfl⟩)
