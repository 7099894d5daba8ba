/-! the reference tells what a text means -/
theorem zc_lt {a b : Int} (ha : -9223372036854775808 ≤ a ∧ a < 9223372036854775808) (hb : -9223372036854775808 ≤ b ∧ b < 9223372036854775808) : (lg_cmp (lI a) (lI b) < iI 0) = (a < b) := z_cmp_lt ha hb
theorem zc_le {a b : Int} (ha : -9223372036854775808 ≤ a ∧ a < 9223372036854775808) (hb : -9223372036854775808 ≤ b ∧ b < 9223372036854775808) : (lg_cmp (lI a) (lI b) ≤ iI 0) = (a ≤ b) := z_cmp_le ha hb
theorem zc_gt {a b : Int} (ha : -9223372036854775808 ≤ a ∧ a < 9223372036854775808) (hb : -9223372036854775808 ≤ b ∧ b < 9223372036854775808) : (iI 0 < lg_cmp (lI a) (lI b)) = (b < a) := z_cmp_gt ha hb
theorem zc_ge {a b : Int} (ha : -9223372036854775808 ≤ a ∧ a < 9223372036854775808) (hb : -9223372036854775808 ≤ b ∧ b < 9223372036854775808) : (iI 0 ≤ lg_cmp (lI a) (lI b)) = (b ≤ a) := z_cmp_ge ha hb
theorem zc_eq {a b : Int} (ha : -9223372036854775808 ≤ a ∧ a < 9223372036854775808) (hb : -9223372036854775808 ≤ b ∧ b < 9223372036854775808) : (lg_cmp (lI a) (lI b) = iI 0) = (a = b) := z_cmp_eq ha hb
theorem tkC_lt {κ : Nat → Nat} (hB : wB κ) (t i : Nat) : tkC κ t i < 2147483648 := by
  unfold tkC
  split
  · exact hB _
  · omega
/-- a number's, a test's way through: live or not, broken or not; what comes of it -/
def SV (lv bk : Nat) (x : Option Int) (r : Int) (b' : Nat) : Prop := (lv = 1 ∧ bk = 0 ∧ x = some r ∧ b' = 0) ∨ (lv = 1 ∧ bk = 0 ∧ x = none ∧ r = 0 ∧ b' = 1) ∨ ((lv = 0 ∨ bk = 1) ∧ r = 0 ∧ b' = bk)
def TV (lv bk : Nat) (x : Option Int) (r : Nat) (b' : Nat) : Prop := r ≤ 1 ∧ ((lv = 1 ∧ bk = 0 ∧ x = some (r : Int) ∧ b' = 0) ∨ (lv = 1 ∧ bk = 0 ∧ x = none ∧ b' = 1) ∨ ((lv = 0 ∨ bk = 1) ∧ b' = bk))
theorem SV.b {lv bk : Nat} {x : Option Int} {r : Int} {b' : Nat} (h : SV lv bk x r b') (hb : bk ≤ 1) : b' ≤ 1 := by
  rcases h with ⟨_, _, _, h⟩ | ⟨_, _, _, _, h⟩ | ⟨_, _, h⟩ <;> omega
theorem TV.b {lv bk : Nat} {x : Option Int} {r : Nat} {b' : Nat} (h : TV lv bk x r b') (hb : bk ≤ 1) : b' ≤ 1 := by
  rcases h with ⟨_, ⟨_, _, _, h⟩ | ⟨_, _, _, h⟩ | ⟨_, h⟩⟩ <;> omega
theorem SV.rg {lv bk : Nat} {x : Option Int} {r : Int} {b' : Nat} (h : SV lv bk x r b') (hx : p_num x) : -2147483648 ≤ r ∧ r < 2147483648 := by
  rcases h with ⟨_, _, h, _⟩ | ⟨_, _, _, h, _⟩ | ⟨_, h, _⟩
  · exact hx _ h
  · omega
  · omega
def opv (op : Nat) (r w : Int) : Int := if op = 2 then r + w else if op = 3 then r - w else if op = 4 then r * w else if op = 5 then r.tdiv w else r.tmod w
/-- an operation of numbers, as the reference does it -/
def OR_ (op : Nat) (r w : Int) (lv b2 : Nat) (r' : Int) (b' : Nat) : Prop :=
  if 5 ≤ op ∧ w = 0 then (if lv = 1 ∨ b2 = 1 then r' = 0 ∧ b' = 1 else r' = opv op r 1 ∧ b' = 0)
  else if b2 = 1 ∨ (lv = 1 ∧ (1000000000 < opv op r w ∨ opv op r w < -1000000000)) then r' = 0 ∧ b' = 1 else r' = opv op r w ∧ b' = b2
theorem p_lim_some {x : Int} (h : ¬ (1000000000 < x ∨ x < -1000000000)) : p_lim x = some x := by
  unfold p_lim
  rw [if_pos (by omega)]
theorem p_lim_none {x : Int} (h : 1000000000 < x ∨ x < -1000000000) : p_lim x = none := by
  unfold p_lim
  rw [if_neg (by omega)]
theorem p_arith_o {op : Nat} {a b : Int} (h : 2 ≤ op ∧ op ≤ 6) (hb : ¬ (5 ≤ op ∧ b = 0)) : p_arith op a b = p_lim (opv op a b) := by
  unfold p_arith opv
  have : op = 2 ∨ op = 3 ∨ op = 4 ∨ op = 5 ∨ op = 6 := by omega
  rcases this with rfl | rfl | rfl | rfl | rfl
  · rfl
  · rfl
  · rfl
  · rw [if_neg (by omega), if_neg (by omega), if_neg (by omega), if_pos rfl, if_neg (by omega), if_neg (by omega), if_neg (by omega), if_neg (by omega), if_pos rfl]
  · rw [if_neg (by omega), if_neg (by omega), if_neg (by omega), if_neg (by omega), if_pos rfl, if_neg (by omega), if_neg (by omega), if_neg (by omega), if_neg (by omega), if_neg (by omega)]
theorem p_arith_0 {op : Nat} {a : Int} (h : op = 5 ∨ op = 6) : p_arith op a 0 = none := by
  rcases h with rfl | rfl <;> rfl
theorem opv_0 {op : Nat} (h : 2 ≤ op ∧ op ≤ 6) : opv op 0 0 = 0 := by
  have : op = 2 ∨ op = 3 ∨ op = 4 ∨ op = 5 ∨ op = 6 := by omega
  rcases this with rfl | rfl | rfl | rfl | rfl <;> rfl
theorem opv_01 {op : Nat} (h : op = 5 ∨ op = 6) : opv op 0 1 = 0 := by
  rcases h with rfl | rfl <;> rfl
theorem p_bin_eq {op : Nat} {e e' : pE → Option Int} {E : pE} : p_bin op e e' E = (e E).bind fun a => (e' E).bind fun b => p_arith op a b := rfl
theorem SV_op {op lv bk b1 b2 b' : Nat} {e e' : pE → Option Int} {E : pE} {r w r' : Int} (hop : 2 ≤ op ∧ op ≤ 6) (hl : lv ≤ 1) (hb : bk ≤ 1) (h1 : SV lv bk (e E) r b1) (h2 : SV lv b1 (e' E) w b2) (h3 : OR_ op r w lv b2 r' b') : SV lv bk (p_bin op e e' E) r' b' := by
  unfold OR_ at h3
  rcases h1 with ⟨q1, q2, q3, q4⟩ | ⟨q1, q2, q3, q4, q5⟩ | ⟨q1, q2, q3⟩
  · rcases h2 with ⟨p1, p2, p3, p4⟩ | ⟨p1, p2, p3, p4, p5⟩ | ⟨p1, p2, p3⟩
    · rw [p_bin_eq, q3, p3]
      show SV lv bk (p_arith op r w) r' b'
      split at h3
      · rename_i c
        rw [if_pos (Or.inl q1)] at h3
        rw [c.2, p_arith_0 (by omega)]
        exact Or.inr (Or.inl ⟨q1, q2, rfl, h3.1, h3.2⟩)
      · rename_i c
        rw [p_arith_o hop c]
        split at h3
        · rename_i c2
          rw [p_lim_none (by omega)]
          exact Or.inr (Or.inl ⟨q1, q2, rfl, h3.1, h3.2⟩)
        · rename_i c2
          rw [p_lim_some (by omega)]
          exact Or.inl ⟨q1, q2, by rw [h3.1], by omega⟩
    · rw [p_bin_eq, q3, p3]
      refine Or.inr (Or.inl ⟨q1, q2, rfl, ?_⟩)
      split at h3
      · rw [if_pos (Or.inl q1)] at h3
        exact h3
      · rw [if_pos (Or.inl p5)] at h3
        exact h3
    · omega
  · rcases h2 with ⟨p1, p2, p3, p4⟩ | ⟨p1, p2, p3, p4, p5⟩ | ⟨p1, p2, p3⟩
    · omega
    · omega
    · rw [p_bin_eq, q3]
      refine Or.inr (Or.inl ⟨q1, q2, rfl, ?_⟩)
      split at h3
      · rw [if_pos (Or.inl q1)] at h3
        exact h3
      · rw [if_pos (Or.inl (by omega))] at h3
        exact h3
  · rcases h2 with ⟨p1, p2, p3, p4⟩ | ⟨p1, p2, p3, p4, p5⟩ | ⟨p1, p2, p3⟩
    · omega
    · omega
    · refine Or.inr (Or.inr ⟨q1, ?_⟩)
      subst q2 p2
      split at h3
      · rename_i c
        split at h3
        · rename_i c2
          omega
        · rename_i c2
          rw [opv_01 (by omega)] at h3
          omega
      · rw [opv_0 hop] at h3
        split at h3 <;> omega
/-- what is asked now -/
def evE (sec : Bool) (f : Nat → Int32) (g : Nat → Nat → Int32) (κ : Nat → Nat) (E : pE) : Prop := match sec with
  | false => f 4761 = iI 0 ∧ ∀ c w, p_word false c = some w → g 86 (c - 8) = iI (E w)
  | true => f 4761 = iI 1 ∧ f 4763 = iI (E 1) ∧ f 4764 = iI (E 2) ∧ E 0 = κ 22 ∧ E 3 = κ 12 ∧ iI (E 4) = wy κ (κ 12) 0 ∧ (∀ s, s < 3 → E (5 + s) = if s < κ 56 then (κ (13 + s) : Int) else -1) ∧ (∀ s, s < 3 → E (8 + s) = if s < κ 56 then (κ (19 + s) : Int) else -1)
/-- where a text lies, and that nothing of it changes -/
def evH (sec : Bool) (f : Nat → Int32) (g : Nat → Nat → Int32) (κ : Nat → Nat) (t : Nat) (E : pE) : Prop := ms (g 76) κ ∧ wS κ ∧ wL κ ∧ wH κ ∧ wB κ ∧ t ≤ 6 ∧ κ (60 + t) ≤ 400 ∧ f 4759 = iI ((400 * t + κ (60 + t) : Nat) : Int) ∧ evE sec f g κ E ∧ ∀ w, -2147483648 ≤ E w ∧ E w < 2147483648
theorem ev_code {X : mm_X} {d : Nat} {f : Nat → Int32} {fl : Nat → Int64} {g : Nat → Nat → Int32} {gl : Nat → Nat → Int64} {hh : Nat → Nat → Option Nat} {v : Nat → Value} {tx : mm_W} {P : Option Value → mm_W → Prop} {sec : Bool} {κ : Nat → Nat} {t : Nat} {E : pE} (hH : evH sec f g κ t E) {i bk : Nat} {a : Nat → Int32} (hi : i ≤ κ (60 + t)) (h : P (some (.int (iI (tkC κ t i)))) (Wd (va_up (va_up f 4758 (iI ((400 * t + (i) : Nat) : Int))) 4760 (iI ((bk : Nat) : Int))) fl (va_up g 87 a) gl hh v tx)) : WP X d 178 (0, [some (.ref 74), some (.int (iI ((400 * t + i : Nat) : Int)))], [], (Wd (va_up (va_up f 4758 (iI ((400 * t + (i) : Nat) : Int))) 4760 (iI ((bk : Nat) : Int))) fl (va_up g 87 a) gl hh v tx)) P := by
  obtain ⟨hm, -, -, -, hB, ht, hsz, hend, -⟩ := hH
  refine b_m_codeAt_0 (h := ?_) ..
  have v1 : (va_up (va_up f 4758 (iI ((400 * t + i : Nat) : Int))) 4760 (iI (bk : Int))) 4759 = iI ((400 * t + κ (60 + t) : Nat) : Int) := by rw [va_ne (by decide), va_ne (by decide)]; exact hend
  have v2 : va_up g 87 a 76 = g 76 := va_ne (by decide)
  rw [v1, v2]
  by_cases c : i < κ (60 + t)
  · have e := hm.1 (67 + (400 * t + i)) (by omega)
    rw [tkC, if_pos c, Nat.add_assoc 67 (400 * t) i] at h
    simp (disch := omega) only [z_lit, z_litl, z_neg, z_negl, z_add, z_sub, z_mul, z_addl, z_subl, z_mull, z_cc, z_cl, z_cr, z_cm, z_cml, z_cmr, z_lt, z_le, z_eq, z_ltl, z_lel, z_eql, z_nat, z_i2l, z_l2i, z_div, z_sh, Int.toNat_natCast, z_ts, z_tsl, e]
    exact ⟨fun c2 => by omega, fun _ => ⟨by omega, h⟩⟩
  · rw [tkC, if_neg c] at h
    simp (disch := omega) only [z_lit, z_litl, z_neg, z_negl, z_add, z_sub, z_mul, z_addl, z_subl, z_mull, z_cc, z_cl, z_cr, z_cm, z_cml, z_cmr, z_lt, z_le, z_eq, z_ltl, z_lel, z_eql, z_nat, z_i2l, z_l2i, z_div, z_sh, Int.toNat_natCast, z_ts, z_tsl]
    exact ⟨fun _ => h, fun c2 => by omega⟩
theorem ev_pass {X : mm_X} {d : Nat} {f : Nat → Int32} {fl : Nat → Int64} {g : Nat → Nat → Int32} {gl : Nat → Nat → Int64} {hh : Nat → Nat → Option Nat} {v : Nat → Value} {tx : mm_W} {P : Option Value → mm_W → Prop} {sec : Bool} {κ : Nat → Nat} {t : Nat} {E : pE} (hH : evH sec f g κ t E) {i bk cc : Nat} {a : Nat → Int32} (hi : i ≤ κ (60 + t)) (hcc : cc < 2147483648) (h1 : tkC κ t i = cc → P (some (.int (iI 1))) (Wd (va_up (va_up f 4758 (iI ((400 * t + (i + 1) : Nat) : Int))) 4760 (iI ((bk : Nat) : Int))) fl (va_up g 87 a) gl hh v tx)) (h0 : tkC κ t i ≠ cc → P (some (.int (iI 0))) (Wd (va_up (va_up f 4758 (iI ((400 * t + (i) : Nat) : Int))) 4760 (iI ((bk : Nat) : Int))) fl (va_up g 87 a) gl hh v tx)) : WP X (d + 1) 179 (0, [some (.ref 74), some (.int (iI cc)), none], [], (Wd (va_up (va_up f 4758 (iI ((400 * t + (i) : Nat) : Int))) 4760 (iI ((bk : Nat) : Int))) fl (va_up g 87 a) gl hh v tx)) P := by
  have hH' := hH
  obtain ⟨hm, -, -, -, hB, ht, hsz, hend, -⟩ := hH'
  have hlt := tkC_lt hB t i
  have v1 : (va_up (va_up f 4758 (iI ((400 * t + i : Nat) : Int))) 4760 (iI (bk : Int))) 4758 = iI ((400 * t + i : Nat) : Int) := by rw [va_ne (by decide), va_s]
  refine b_m_passes0_0 (h := ?_) ..
  rw [v1]
  refine ev_code hH hi ?_
  refine b_m_passes0_8 (h := ?_) ..
  rw [v1]
  simp (disch := omega) only [z_lit, z_litl, z_neg, z_negl, z_add, z_sub, z_mul, z_addl, z_subl, z_mull, z_cc, z_cl, z_cr, z_cm, z_cml, z_cmr, z_lt, z_le, z_eq, z_ltl, z_lel, z_eql, z_nat, z_i2l, z_l2i, z_div, z_sh, Int.toNat_natCast, z_ts, z_tsl]
  simp (disch := decide) only [va_cm, va_tw]
  exact ⟨fun c => h0 (by omega), fun c => h1 (by omega)⟩
theorem ev_bounded {X : mm_X} {d : Nat} {f : Nat → Int32} {fl : Nat → Int64} {g : Nat → Nat → Int32} {gl : Nat → Nat → Int64} {hh : Nat → Nat → Option Nat} {v : Nat → Value} {tx : mm_W} {P : Option Value → mm_W → Prop} {t i bk lv : Nat} {a : Nat → Int32} {x : Int} (hx : -9223372036854775808 ≤ x ∧ x < 9223372036854775808) (hl : lv ≤ 1) (hb : bk ≤ 1) (h1 : (bk = 1 ∨ (lv = 1 ∧ (1000000000 < x ∨ x < -1000000000))) → P (some (.long (lI 0))) (Wd (va_up (va_up f 4758 (iI ((400 * t + (i) : Nat) : Int))) 4760 (iI ((1 : Nat) : Int))) fl (va_up g 87 a) gl hh v tx)) (h0 : ¬ (bk = 1 ∨ (lv = 1 ∧ (1000000000 < x ∨ x < -1000000000))) → P (some (.long (lI x))) (Wd (va_up (va_up f 4758 (iI ((400 * t + (i) : Nat) : Int))) 4760 (iI ((bk : Nat) : Int))) fl (va_up g 87 a) gl hh v tx)) : WP X d 180 (0, [some (.ref 74), some (.long (lI x)), none, some (.int (iI lv))], [], (Wd (va_up (va_up f 4758 (iI ((400 * t + (i) : Nat) : Int))) 4760 (iI ((bk : Nat) : Int))) fl (va_up g 87 a) gl hh v tx)) P := by
  have v1 : (va_up (va_up f 4758 (iI ((400 * t + i : Nat) : Int))) 4760 (iI (bk : Int))) 4760 = iI (bk : Int) := va_s
  refine b_m_bounded_0 (h := ?_) ..
  rw [v1]
  simp (disch := omega) only [z_lit, z_litl, z_neg, z_negl, z_add, z_sub, z_mul, z_addl, z_subl, z_mull, z_cc, z_cl, z_cr, z_cm, z_cml, z_cmr, z_lt, z_le, z_eq, z_ltl, z_lel, z_eql, z_nat, z_i2l, z_l2i, z_div, z_sh, Int.toNat_natCast, z_ts, z_tsl, zc_lt, zc_le, zc_gt, zc_ge, zc_eq]
  simp (disch := decide) only [va_cm, va_tw]
  have h1' : bk = 1 → P (some (.long (lI 0))) (Wd (va_up (va_up f 4758 (iI ((400 * t + (i) : Nat) : Int))) 4760 (iI ((bk : Nat) : Int))) fl (va_up g 87 a) gl hh v tx) := fun e => by
    have := h1 (Or.inl e)
    rw [e]
    exact this
  exact ⟨fun c => ⟨fun c2 => h0 (by omega), fun c2 => h1' (by omega)⟩, fun c => ⟨fun c2 => h1 (by omega), fun c2 => ⟨fun c3 => ⟨fun c4 => h0 (by omega), fun c4 => h1' (by omega)⟩, fun c3 => h1 (by omega)⟩⟩⟩
theorem opv_rg {op : Nat} {r w : Int} (hr : -2147483648 ≤ r ∧ r < 2147483648) (hw : -2147483648 ≤ w ∧ w < 2147483648) (hop : 2 ≤ op ∧ op ≤ 6) : -9223372036854775808 ≤ opv op r w ∧ opv op r w < 9223372036854775808 := by
  have : op = 2 ∨ op = 3 ∨ op = 4 ∨ op = 5 ∨ op = 6 := by omega
  rcases this with rfl | rfl | rfl | rfl | rfl
  · show _ ≤ r + w ∧ r + w < _; omega
  · show _ ≤ r - w ∧ r - w < _; omega
  · show _ ≤ r * w ∧ r * w < _
    have h1 : (r * w).natAbs = r.natAbs * w.natAbs := Int.natAbs_mul r w
    have h2 : r.natAbs * w.natAbs ≤ 2147483648 * 2147483648 := Nat.mul_le_mul (by omega) (by omega)
    omega
  · show _ ≤ r.tdiv w ∧ r.tdiv w < _
    have h1 : (r.tdiv w).natAbs = r.natAbs / w.natAbs := Int.natAbs_tdiv r w
    have h2 : r.natAbs / w.natAbs ≤ r.natAbs := Nat.div_le_self _ _
    omega
  · show _ ≤ r.tmod w ∧ r.tmod w < _
    have h1 : (r.tmod w).natAbs = r.natAbs % w.natAbs := Int.natAbs_tmod r w
    have h2 : r.natAbs % w.natAbs ≤ r.natAbs := Nat.mod_le _ _
    omega
theorem lI_div {r w : Int} (hr : -2147483648 ≤ r ∧ r < 2147483648) (hw : -2147483648 ≤ w ∧ w < 2147483648) : lI r / lI w = lI (r.tdiv w) := z_tdivl (by omega) (by omega)
theorem lI_mod {r w : Int} (hr : -2147483648 ≤ r ∧ r < 2147483648) (hw : -2147483648 ≤ w ∧ w < 2147483648) : lI r - lI r / lI w * lI w = lI (r.tmod w) := by
  rw [lI_div hr hw, z_mull, z_subl, Int.tmod_def, Int.mul_comm]
/-- a term's operation -/
theorem ev_top {X : mm_X} {d : Nat} {f : Nat → Int32} {fl : Nat → Int64} {g : Nat → Nat → Int32} {gl : Nat → Nat → Int64} {hh : Nat → Nat → Option Nat} {v : Nat → Value} {tx : mm_W} {P : Option Value → mm_W → Prop} {t : Nat} {i b2 lv op by_ : Nat} {a : Nat → Int32} {r w : Int} (hop : (by_ = 142 ∧ op = 4) ∨ (by_ = 147 ∧ op = 5) ∨ (by_ = 137 ∧ op = 6)) (hr : -2147483648 ≤ r ∧ r < 2147483648) (hw : -2147483648 ≤ w ∧ w < 2147483648) (hl : lv ≤ 1) (hb : b2 ≤ 1)
    (h : ∀ r' b', OR_ op r w lv b2 r' b' → WP X (d + 1) 182 (6, [some (.ref 74), some (.int (iI lv)), some (.long (lI r')), none, none, none, none], [], (Wd (va_up (va_up f 4758 (iI ((400 * t + (i) : Nat) : Int))) 4760 (iI ((b' : Nat) : Int))) fl (va_up g 87 a) gl hh v tx)) P) : WP X (d + 1) 182 (79, [some (.ref 74), some (.int (iI lv)), some (.long (lI r)), none, some (.int (iI by_)), none, none], [.long (lI w)], (Wd (va_up (va_up f 4758 (iI ((400 * t + (i) : Nat) : Int))) 4760 (iI ((b2 : Nat) : Int))) fl (va_up g 87 a) gl hh v tx)) P := by
  -- what is behind the operation
  have fin : ∀ (w' : Int) (b3 : Nat), -2147483648 ≤ w' ∧ w' < 2147483648 → ¬ (5 ≤ op ∧ w' = 0) → b3 ≤ 1 → (∀ r' b', (b3 = 1 ∨ (lv = 1 ∧ (1000000000 < opv op r w' ∨ opv op r w' < -1000000000)) → r' = 0 → b' = 1 → WP X (d + 1) 182 (6, [some (.ref 74), some (.int (iI lv)), some (.long (lI r')), none, none, none, none], [], (Wd (va_up (va_up f 4758 (iI ((400 * t + (i) : Nat) : Int))) 4760 (iI ((b' : Nat) : Int))) fl (va_up g 87 a) gl hh v tx)) P) ∧ (¬ (b3 = 1 ∨ (lv = 1 ∧ (1000000000 < opv op r w' ∨ opv op r w' < -1000000000))) → r' = opv op r w' → b' = b3 → WP X (d + 1) 182 (6, [some (.ref 74), some (.int (iI lv)), some (.long (lI r')), none, none, none, none], [], (Wd (va_up (va_up f 4758 (iI ((400 * t + (i) : Nat) : Int))) 4760 (iI ((b' : Nat) : Int))) fl (va_up g 87 a) gl hh v tx)) P)) →
      WP X (d + 1) 182 (121, [some (.ref 74), some (.int (iI lv)), some (.long (lI r)), none, some (.int (iI by_)), some (.long (lI w')), none], [], (Wd (va_up (va_up f 4758 (iI ((400 * t + (i) : Nat) : Int))) 4760 (iI ((b3 : Nat) : Int))) fl (va_up g 87 a) gl hh v tx)) P := by
    intro w' b3 hw' hn hb3 hc
    have call : WP X d 180 (0, [some (.ref 74), some (.long (lI (opv op r w'))), none, some (.int (iI lv))], [], (Wd (va_up (va_up f 4758 (iI ((400 * t + (i) : Nat) : Int))) 4760 (iI ((b3 : Nat) : Int))) fl (va_up g 87 a) gl hh v tx)) (fun rv w2 => WP X (d + 1) 182 (164, [some (.ref 74), some (.int (iI lv)), none, none, none, none, none], rv.toList ++ [], w2) P) := by
      refine ev_bounded (opv_rg hr hw' (by omega)) hl hb3 (fun c => ?_) fun c => ?_
      · refine b_m_termOf_164 (h := ?_) ..
        exact (hc 0 1).1 c rfl rfl
      · refine b_m_termOf_164 (h := ?_) ..
        exact (hc _ b3).2 c rfl rfl
    refine b_m_termOf_121 (h := ?_) ..
    rw [lI_mod hr hw', lI_div hr hw', z_mull]
    rcases hop with ⟨rfl, rfl⟩ | ⟨rfl, rfl⟩ | ⟨rfl, rfl⟩
    · exact ⟨fun c => absurd (by decide) c, fun _ => call⟩
    · refine ⟨fun _ => ⟨fun c => absurd (by decide) c, fun _ => ⟨?_, call⟩⟩, fun c => absurd c (by decide)⟩
      simp (disch := omega) only [z_lit, z_litl, z_neg, z_negl, z_add, z_sub, z_mul, z_addl, z_subl, z_mull, z_cc, z_cl, z_cr, z_cm, z_cml, z_cmr, z_lt, z_le, z_eq, z_ltl, z_lel, z_eql, z_nat, z_i2l, z_l2i, z_div, z_sh, Int.toNat_natCast, z_ts, z_tsl]
      omega
    · refine ⟨fun _ => ⟨fun _ => ⟨?_, call⟩, fun c => absurd c (by decide)⟩, fun c => absurd c (by decide)⟩
      simp (disch := omega) only [z_lit, z_litl, z_neg, z_negl, z_add, z_sub, z_mul, z_addl, z_subl, z_mull, z_cc, z_cl, z_cr, z_cm, z_cml, z_cmr, z_lt, z_le, z_eq, z_ltl, z_lel, z_eql, z_nat, z_i2l, z_l2i, z_div, z_sh, Int.toNat_natCast, z_ts, z_tsl]
      omega
  have go0 : ¬ (5 ≤ op ∧ w = 0) → WP X (d + 1) 182 (121, [some (.ref 74), some (.int (iI lv)), some (.long (lI r)), none, some (.int (iI by_)), some (.long (lI w)), none], [], (Wd (va_up (va_up f 4758 (iI ((400 * t + (i) : Nat) : Int))) 4760 (iI ((b2 : Nat) : Int))) fl (va_up g 87 a) gl hh v tx)) P := by
    intro hn
    refine fin w b2 hw hn hb fun r' b' => ⟨fun c e1 e2 => h r' b' ?_, fun c e1 e2 => h r' b' ?_⟩
    · rw [OR_, if_neg hn, if_pos c]; exact ⟨e1, e2⟩
    · rw [OR_, if_neg hn, if_neg c]; exact ⟨e1, e2⟩
  have go1 : 5 ≤ op → w = 0 → ∀ b3, b3 = (if lv = 1 ∨ b2 = 1 then 1 else 0) → WP X (d + 1) 182 (121, [some (.ref 74), some (.int (iI lv)), some (.long (lI r)), none, some (.int (iI by_)), some (.long (lI 1)), none], [], (Wd (va_up (va_up f 4758 (iI ((400 * t + (i) : Nat) : Int))) 4760 (iI ((b3 : Nat) : Int))) fl (va_up g 87 a) gl hh v tx)) P := by
    intro h5 h0 b3 hb3
    have hb31 : b3 ≤ 1 := by rw [hb3]; split <;> omega
    have e1 : -1000000000 ≤ opv op r 1 → True := fun _ => trivial
    refine fin 1 b3 (by omega) (by omega) hb31 fun r' b' => ⟨fun c e1 e2 => h r' b' ?_, fun c e1 e2 => h r' b' ?_⟩
    · rw [OR_, if_pos ⟨h5, h0⟩]
      split at hb3
      · rename_i c2; rw [if_pos c2]; exact ⟨e1, e2⟩
      · omega
    · rw [OR_, if_pos ⟨h5, h0⟩]
      split at hb3
      · omega
      · rename_i c2; rw [if_neg c2]; exact ⟨e1, by omega⟩
  have v60 : (va_up (va_up f 4758 (iI ((400 * t + i : Nat) : Int))) 4760 (iI (b2 : Int))) 4760 = iI (b2 : Int) := va_s
  have to115 : ∀ s : Nat, 5 ≤ op → w = 0 → s = (if lv = 1 ∨ b2 = 1 then 1 else 0) → WP X (d + 1) 182 (115, [some (.ref 74), some (.int (iI lv)), some (.long (lI r)), none, some (.int (iI by_)), none, none], [.int (iI s), .ref 74], (Wd (va_up (va_up f 4758 (iI ((400 * t + (i) : Nat) : Int))) 4760 (iI ((b2 : Nat) : Int))) fl (va_up g 87 a) gl hh v tx)) P := by
    intro s h5 h0 hs
    have hs1 : s ≤ 1 := by rw [hs]; split <;> omega
    refine b_m_termOf_115 (h := ?_) ..
    simp (disch := omega) only [z_lit, z_litl, z_neg, z_negl, z_add, z_sub, z_mul, z_addl, z_subl, z_mull, z_cc, z_cl, z_cr, z_cm, z_cml, z_cmr, z_lt, z_le, z_eq, z_ltl, z_lel, z_eql, z_nat, z_i2l, z_l2i, z_div, z_sh, Int.toNat_natCast, z_ts, z_tsl]
    simp (disch := decide) only [va_cm, va_tw]
    exact ⟨by omega, go1 h5 h0 s hs⟩
  have to110 : 5 ≤ op → w = 0 → (lv = 1 ∨ b2 = 1) → WP X (d + 1) 182 (110, [some (.ref 74), some (.int (iI lv)), some (.long (lI r)), none, some (.int (iI by_)), none, none], [.ref 74], (Wd (va_up (va_up f 4758 (iI ((400 * t + (i) : Nat) : Int))) 4760 (iI ((b2 : Nat) : Int))) fl (va_up g 87 a) gl hh v tx)) P := by
    intro h5 h0 hs
    refine b_m_termOf_110 (h := ?_) ..
    exact to115 1 h5 h0 (by rw [if_pos hs])
  refine b_m_termOf_79 (h := ?_) ..
  rw [v60]
  simp (disch := omega) only [z_lit, z_litl, z_neg, z_negl, z_add, z_sub, z_mul, z_addl, z_subl, z_mull, z_cc, z_cl, z_cr, z_cm, z_cml, z_cmr, z_lt, z_le, z_eq, z_ltl, z_lel, z_eql, z_nat, z_i2l, z_l2i, z_div, z_sh, Int.toNat_natCast, z_ts, z_tsl, zc_lt, zc_le, zc_gt, zc_ge, zc_eq]
  refine ⟨fun c => go0 (by omega), fun c => ⟨fun c2 => go0 (by omega), fun c2 => ⟨fun c3 => to110 (by omega) (by omega) (by omega), fun c3 => ⟨fun c4 => ?_, fun c4 => to110 (by omega) (by omega) (by omega)⟩⟩⟩⟩
  exact to115 0 (by omega) (by omega) (by rw [if_neg (by omega)])
theorem TV_and {lv bk b1 b2 r w lv' r' : Nat} {e e' : pE → Option Int} {E : pE} (hl : lv ≤ 1) (hb : bk ≤ 1) (h1 : TV lv bk (e E) r b1) (hlv : lv' = if lv = 0 ∨ r = 0 then 0 else 1) (h2 : TV lv' b1 (e' E) w b2) (hr : r' = if r = 0 ∨ w = 0 then 0 else 1) : TV lv bk (p_sc 12 e e' E) r' b2 := by
  have hr1 : r' ≤ 1 := by rw [hr]; split <;> omega
  refine ⟨hr1, ?_⟩
  obtain ⟨hr0, h1⟩ := h1
  obtain ⟨hw0, h2⟩ := h2
  have esc : p_sc 12 e e' E = (e E).bind fun a => if a = 1 ↔ 12 = 11 then some a else e' E := rfl
  rcases h1 with ⟨q1, q2, q3, q4⟩ | ⟨q1, q2, q3, q4⟩ | ⟨q1, q2⟩
  · by_cases c : r = 0
    · rw [if_pos (Or.inr c)] at hlv
      rw [if_pos (Or.inl c)] at hr
      rcases h2 with ⟨p1, p2, p3, p4⟩ | ⟨p1, p2, p3, p4⟩ | ⟨p1, p2⟩
      · omega
      · omega
      · refine Or.inl ⟨q1, q2, ?_, by omega⟩
        rw [esc, q3]
        show (if (r : Int) = 1 ↔ 12 = 11 then some (r : Int) else e' E) = _
        rw [if_pos (by omega), c, hr]
    · rw [if_neg (by omega)] at hlv
      have e1 : p_sc 12 e e' E = e' E := by
        rw [esc, q3]
        show (if (r : Int) = 1 ↔ 12 = 11 then some (r : Int) else e' E) = _
        rw [if_neg (by omega)]
      rw [e1]
      have e2 : r' = w := by
        rw [hr]; split <;> omega
      rcases h2 with ⟨p1, p2, p3, p4⟩ | ⟨p1, p2, p3, p4⟩ | ⟨p1, p2⟩
      · exact Or.inl ⟨q1, q2, by rw [e2]; exact p3, p4⟩
      · exact Or.inr (Or.inl ⟨q1, q2, p3, p4⟩)
      · omega
  · rcases h2 with ⟨p1, p2, p3, p4⟩ | ⟨p1, p2, p3, p4⟩ | ⟨p1, p2⟩
    · omega
    · omega
    · refine Or.inr (Or.inl ⟨q1, q2, ?_, by omega⟩)
      rw [esc, q3]
      rfl
  · rcases h2 with ⟨p1, p2, p3, p4⟩ | ⟨p1, p2, p3, p4⟩ | ⟨p1, p2⟩
    · split at hlv <;> omega
    · split at hlv <;> omega
    · exact Or.inr (Or.inr ⟨q1, by omega⟩)
theorem TV_or {lv bk b1 b2 r w lv' r' : Nat} {e e' : pE → Option Int} {E : pE} (hl : lv ≤ 1) (hb : bk ≤ 1) (h1 : TV lv bk (e E) r b1) (hlv : lv' = if lv = 0 ∨ r ≠ 0 then 0 else 1) (h2 : TV lv' b1 (e' E) w b2) (hr : r' = if r = 0 ∧ w = 0 then 0 else 1) : TV lv bk (p_sc 11 e e' E) r' b2 := by
  have hr1 : r' ≤ 1 := by rw [hr]; split <;> omega
  refine ⟨hr1, ?_⟩
  obtain ⟨hr0, h1⟩ := h1
  obtain ⟨hw0, h2⟩ := h2
  have esc : p_sc 11 e e' E = (e E).bind fun a => if a = 1 ↔ 11 = 11 then some a else e' E := rfl
  rcases h1 with ⟨q1, q2, q3, q4⟩ | ⟨q1, q2, q3, q4⟩ | ⟨q1, q2⟩
  · by_cases c : r = 0
    · rw [if_neg (by omega)] at hlv
      have e1 : p_sc 11 e e' E = e' E := by
        rw [esc, q3]
        show (if (r : Int) = 1 ↔ 11 = 11 then some (r : Int) else e' E) = _
        rw [if_neg (by omega)]
      rw [e1]
      have e2 : r' = w := by
        rw [hr]; split <;> omega
      rcases h2 with ⟨p1, p2, p3, p4⟩ | ⟨p1, p2, p3, p4⟩ | ⟨p1, p2⟩
      · exact Or.inl ⟨q1, q2, by rw [e2]; exact p3, p4⟩
      · exact Or.inr (Or.inl ⟨q1, q2, p3, p4⟩)
      · omega
    · rw [if_pos (Or.inr c)] at hlv
      rw [if_neg (by omega)] at hr
      rcases h2 with ⟨p1, p2, p3, p4⟩ | ⟨p1, p2, p3, p4⟩ | ⟨p1, p2⟩
      · omega
      · omega
      · refine Or.inl ⟨q1, q2, ?_, by omega⟩
        rw [esc, q3]
        show (if (r : Int) = 1 ↔ 11 = 11 then some (r : Int) else e' E) = _
        rw [if_pos (by omega), show r = 1 by omega, hr]
  · rcases h2 with ⟨p1, p2, p3, p4⟩ | ⟨p1, p2, p3, p4⟩ | ⟨p1, p2⟩
    · omega
    · omega
    · refine Or.inr (Or.inl ⟨q1, q2, ?_, by omega⟩)
      rw [esc, q3]
      rfl
  · rcases h2 with ⟨p1, p2, p3, p4⟩ | ⟨p1, p2, p3, p4⟩ | ⟨p1, p2⟩
    · split at hlv <;> omega
    · split at hlv <;> omega
    · exact Or.inr (Or.inr ⟨q1, by omega⟩)
theorem TV_not {lv bk b1 r t r' : Nat} {e : pE → Option Int} {E : pE} (ht : t ≤ 1) (h : TV lv bk (e E) r b1) (hr : r' = if r = t then 0 else 1) : TV lv bk ((if t = 1 then p_not e else e) E) r' b1 := by
  obtain ⟨hr0, h⟩ := h
  refine ⟨by rw [hr]; split <;> omega, ?_⟩
  by_cases c : t = 1
  · rw [if_pos c]
    have en : p_not e E = (e E).map fun a => 1 - a := rfl
    rcases h with ⟨q1, q2, q3, q4⟩ | ⟨q1, q2, q3, q4⟩ | ⟨q1, q2⟩
    · refine Or.inl ⟨q1, q2, ?_, q4⟩
      rw [en, q3]
      show some (1 - (r : Int)) = some (r' : Int)
      congr 1
      rw [hr]
      split <;> omega
    · exact Or.inr (Or.inl ⟨q1, q2, by rw [en, q3]; rfl, q4⟩)
    · exact Or.inr (Or.inr ⟨q1, q2⟩)
  · rw [if_neg c]
    have er : r' = r := by rw [hr]; split <;> omega
    rw [er]
    exact h
/-- two numbers compared -/
theorem TV_cmp {op lv bk b1 b2 r' : Nat} {e e' : pE → Option Int} {E : pE} {a b : Int} (hop : op = 7 ∨ op = 8 ∨ op = 9) (h1 : SV lv bk (e E) a b1) (h2 : SV lv b1 (e' E) b b2) (hr : r' ≤ 1) (h3 : lv = 1 → b2 = 0 → r' = if (op = 7 ∧ a < b) ∨ (op = 8 ∧ b < a) ∨ (op = 9 ∧ a = b) then 1 else 0) : TV lv bk (p_bin op e e' E) r' b2 := by
  refine ⟨hr, ?_⟩
  rcases h1 with ⟨q1, q2, q3, q4⟩ | ⟨q1, q2, q3, q4, q5⟩ | ⟨q1, q2, q3⟩
  · rcases h2 with ⟨p1, p2, p3, p4⟩ | ⟨p1, p2, p3, p4, p5⟩ | ⟨p1, p2, p3⟩
    · refine Or.inl ⟨q1, q2, ?_, p4⟩
      rw [p_bin_eq, q3, p3, h3 q1 p4]
      show p_arith op a b = _
      rcases hop with rfl | rfl | rfl
      · show some (if a < b then 1 else 0) = _
        split
        · rw [if_pos (by omega)]; rfl
        · rw [if_neg (by omega)]; rfl
      · show some (if b < a then 1 else 0) = _
        split
        · rw [if_pos (by omega)]; rfl
        · rw [if_neg (by omega)]; rfl
      · show some (if a = b then 1 else 0) = _
        split
        · rw [if_pos (by omega)]; rfl
        · rw [if_neg (by omega)]; rfl
    · exact Or.inr (Or.inl ⟨q1, q2, by rw [p_bin_eq, q3, p3]; rfl, p5⟩)
    · omega
  · rcases h2 with ⟨p1, p2, p3, p4⟩ | ⟨p1, p2, p3, p4, p5⟩ | ⟨p1, p2, p3⟩
    · omega
    · omega
    · exact Or.inr (Or.inl ⟨q1, q2, by rw [p_bin_eq, q3]; rfl, by omega⟩)
  · rcases h2 with ⟨p1, p2, p3, p4⟩ | ⟨p1, p2, p3, p4, p5⟩ | ⟨p1, p2, p3⟩
    · omega
    · omega
    · exact Or.inr (Or.inr ⟨q1, by omega⟩)
