/-! images: State.copy; image, back -/
theorem cpy0 {α : Type} {f g : Nat → α} {n k : Nat} (h : k < n) : va_cpy f g 0 0 n k = f k := by
  rw [pk_cpy_in (Nat.zero_le _) (by omega)]
  congr 1
  omega
theorem xs_copy {n : Int32} {ro lo me : Nat → Int32} {m : Int32} {sp : Nat → Int32} {hu cl dn : Int32} {dd : Nat → Int32} {la : Int32} {lw : Nat → Option Nat} {fo : Int32} {te : Nat → Int32} {tx : mm_W} {κ : Nat → Nat} {ro' lo' me' sp' dd' te' : Nat → Int32} {lw' : Nat → Option Nat} (h : xs n ro lo me m sp hu cl dn dd la lw fo te tx κ) (hw : wf κ) (hl : ∀ t, t < 6 → lw' t = lw t) :
    xs n (va_cpy ro ro' 0 0 8) (va_cpy lo lo' 0 0 8) (va_cpy me me' 0 0 8) m (va_cpy sp sp' 0 0 3) hu cl dn (va_cpy dd dd' 0 0 6) la lw' fo (va_cpy te te' 0 0 3) tx κ := by
  obtain ⟨hS, hH, hL, hD, hW, hT, hB⟩ := hw
  obtain ⟨qS, qH, qL, qD, qW, qT⟩ := h
  have b1 := hS.1
  have b2 := hH.1
  have b3 := hD.1
  have b4 := hW.1
  refine ⟨⟨qS.1, fun j hj => ?_⟩, ⟨qH.1, fun p hp => ?_⟩, qL, ⟨qD.1, fun i hi => ?_⟩, ⟨qW.1, qW.2.1, fun t ht => ?_⟩, ?_, ?_, ?_⟩
  · rw [cpy0 (by omega), cpy0 (by omega), cpy0 (by omega)]; exact qS.2 j hj
  · rw [cpy0 (by omega)]; exact qH.2 p hp
  · rw [cpy0 (by omega)]; exact qD.2 i hi
  · rw [hl t (by omega)]; exact qW.2.2 t ht
  · rw [cpy0 (by omega)]; exact qT.1
  · rw [cpy0 (by omega)]; exact qT.2.1
  · rw [cpy0 (by omega)]; exact qT.2.2
theorem i_lw.copy {tx : mm_W} {a b nl : Nat → Option Nat} (ha : i_lw tx a) (hb : i_lw tx b) (h1 : ∀ t, t < 6 → nl t = a t) (h2 : ∀ t, 6 ≤ t → nl t = b t) : i_lw tx nl := by
  intro t o ho
  by_cases c : t < 6
  · rw [h1 t c] at ho; exact ha t o ho
  · rw [h2 t (by omega)] at ho; exact hb t o ho
theorem c_copy_56_1 {X : mm_X} {d : Nat} {f : Nat → Int32} {fl : Nat → Int64} {g : Nat → Nat → Int32} {gl : Nat → Nat → Int64} {hh : Nat → Nat → Option Nat} {v : Nat → Value} {tx : mm_W} {P : Option Value → mm_W → Prop} (hl : i_lw tx (hh 7)) (h : ∀ nl : Nat → Option Nat, (∀ t, t < 6 → nl t = (hh 7) t) → (∀ t, 6 ≤ t → nl t = (hh 62) t) → P none (Wd (va_up (va_up (va_up (va_up (va_up (va_up (va_up (va_up f 3584 (f 64)) 3588 (f 68)) 3590 (f 70)) 3591 (f 71)) 3592 (f 72)) 3594 (f 74)) 3596 (f 76)) 3598 (f 78)) fl (va_up (va_up (va_up (va_up (va_up (va_up (va_up g 57 (va_cpy (g 2) (g 57) 0 0 8)) 58 (va_cpy (g 3) (g 58) 0 0 8)) 59 (va_cpy (g 4) (g 59) 0 0 8)) 60 (va_cpy (g 5) (g 60) 0 0 3)) 61 (va_cpy (g 6) (g 61) 0 0 6)) 63 (va_cpy (g 8) (g 63) 0 0 3)) 64 (va_cpy (g 9) (g 64) 0 0 16)) gl (va_up hh 62 nl) v tx)) : WP X d 45 (0, [some (.ref 56), some (.ref 1), none], [], Wd f fl g gl hh v tx) P := by
  refine b_yst_copy_56_1_0 (h := ?_) ..
  have key : ∀ i, i ≤ 6 → ∀ nl : Nat → Option Nat, (∀ t, t < i → nl t = (hh 7) t) → (∀ t, i ≤ t → nl t = (hh 62) t) → WP X d 45 (169, [some (.ref 56), some (.ref 1), some (.int (iI i))], [], Wd (va_up (va_up (va_up (va_up (va_up (va_up (va_up (va_up f 3584 (f 64)) 3588 (f 68)) 3590 (f 70)) 3591 (f 71)) 3592 (f 72)) 3594 (f 74)) 3596 (f 76)) 3598 (f 78)) fl (va_up (va_up (va_up (va_up (va_up (va_up (va_up g 57 (va_cpy (g 2) (g 57) 0 0 8)) 58 (va_cpy (g 3) (g 58) 0 0 8)) 59 (va_cpy (g 4) (g 59) 0 0 8)) 60 (va_cpy (g 5) (g 60) 0 0 3)) 61 (va_cpy (g 6) (g 61) 0 0 6)) 63 (va_cpy (g 8) (g 63) 0 0 3)) 64 (va_cpy (g 9) (g 64) 0 0 16)) gl (va_up hh 62 nl) v tx) P := by
    apply k_up (Q := fun i => ∀ nl : Nat → Option Nat, (∀ t, t < i → nl t = (hh 7) t) → (∀ t, i ≤ t → nl t = (hh 62) t) → WP X d 45 (169, [some (.ref 56), some (.ref 1), some (.int (iI i))], [], Wd (va_up (va_up (va_up (va_up (va_up (va_up (va_up (va_up f 3584 (f 64)) 3588 (f 68)) 3590 (f 70)) 3591 (f 71)) 3592 (f 72)) 3594 (f 74)) 3596 (f 76)) 3598 (f 78)) fl (va_up (va_up (va_up (va_up (va_up (va_up (va_up g 57 (va_cpy (g 2) (g 57) 0 0 8)) 58 (va_cpy (g 3) (g 58) 0 0 8)) 59 (va_cpy (g 4) (g 59) 0 0 8)) 60 (va_cpy (g 5) (g 60) 0 0 3)) 61 (va_cpy (g 6) (g 61) 0 0 6)) 63 (va_cpy (g 8) (g 63) 0 0 3)) 64 (va_cpy (g 9) (g 64) 0 0 16)) gl (va_up hh 62 nl) v tx) P)
    · intro nl h1 h2
      refine b_yst_copy_56_1_169 (h := ?_) ..
      simp (disch := omega) only [z_lit, z_litl, z_neg, z_negl, z_add, z_sub, z_mul, z_addl, z_subl, z_mull, z_cc, z_cl, z_cr, z_cm, z_cml, z_cmr, z_lt, z_le, z_eq, z_ltl, z_lel, z_eql, z_nat, z_i2l, z_l2i, z_div, z_sh, Int.toNat_natCast, z_ts, z_tsl]
      exact ⟨fun _ => h nl h1 h2, fun c => by omega⟩
    · intro i hi ih nl h1 h2
      refine b_yst_copy_56_1_169 (h := ?_) ..
      have e1 : va_up hh 62 nl 7 = (hh 7) := va_ne (by decide)
      have e2 : va_up hh 62 nl 62 = nl := va_s
      rw [e1, e2, show (iI (i : Int)).toNatClampNeg = i by rw [z_nat (by omega)]; omega]
      refine ⟨fun c => by simp (disch := omega) only [z_lit, z_litl, z_neg, z_negl, z_add, z_sub, z_mul, z_addl, z_subl, z_mull, z_cc, z_cl, z_cr, z_cm, z_cml, z_cmr, z_lt, z_le, z_eq, z_ltl, z_lel, z_eql, z_nat, z_i2l, z_l2i, z_div, z_sh, Int.toNat_natCast, z_ts, z_tsl] at c; omega, fun _ => ⟨by simp (disch := omega) only [z_lit, z_litl, z_neg, z_negl, z_add, z_sub, z_mul, z_addl, z_subl, z_mull, z_cc, z_cl, z_cr, z_cm, z_cml, z_cmr, z_lt, z_le, z_eq, z_ltl, z_lel, z_eql, z_nat, z_i2l, z_l2i, z_div, z_sh, Int.toNat_natCast, z_ts, z_tsl]; omega, by simp (disch := omega) only [z_lit, z_litl, z_neg, z_negl, z_add, z_sub, z_mul, z_addl, z_subl, z_mull, z_cc, z_cl, z_cr, z_cm, z_cml, z_cmr, z_lt, z_le, z_eq, z_ltl, z_lel, z_eql, z_nat, z_i2l, z_l2i, z_div, z_sh, Int.toNat_natCast, z_ts, z_tsl]; omega, fun o ho => ?_, ?_⟩⟩
      · obtain ⟨tt, fs, rfl, hfs⟩ := hl i o ho
        exact ⟨fs, hfs⟩
      · rw [va_tw, show iI (i : Int) + (1 : Int32) = iI ((i + 1 : Nat) : Int) by rw [show (1 : Int32) = iI 1 from rfl, z_add]; rfl]
        refine ih _ (fun t ht => ?_) fun t ht => ?_
        · by_cases e : t = i
          · rw [e, va_s]
          · rw [va_ne e]; exact h1 t (by omega)
        · rw [va_ne (by omega)]; exact h2 t (by omega)
  have := key 0 (by omega) (hh 62) (fun t ht => absurd ht (Nat.not_lt_zero t)) fun t _ => rfl
  rw [show va_up hh 62 (hh 62) = hh by
    funext j
    by_cases e : j = 62
    · rw [e, va_s]
    · rw [va_ne e]] at this
  exact this
theorem c_copy_65_1 {X : mm_X} {d : Nat} {f : Nat → Int32} {fl : Nat → Int64} {g : Nat → Nat → Int32} {gl : Nat → Nat → Int64} {hh : Nat → Nat → Option Nat} {v : Nat → Value} {tx : mm_W} {P : Option Value → mm_W → Prop} (hl : i_lw tx (hh 7)) (h : ∀ nl : Nat → Option Nat, (∀ t, t < 6 → nl t = (hh 7) t) → (∀ t, 6 ≤ t → nl t = (hh 71) t) → P none (Wd (va_up (va_up (va_up (va_up (va_up (va_up (va_up (va_up f 4160 (f 64)) 4164 (f 68)) 4166 (f 70)) 4167 (f 71)) 4168 (f 72)) 4170 (f 74)) 4172 (f 76)) 4174 (f 78)) fl (va_up (va_up (va_up (va_up (va_up (va_up (va_up g 66 (va_cpy (g 2) (g 66) 0 0 8)) 67 (va_cpy (g 3) (g 67) 0 0 8)) 68 (va_cpy (g 4) (g 68) 0 0 8)) 69 (va_cpy (g 5) (g 69) 0 0 3)) 70 (va_cpy (g 6) (g 70) 0 0 6)) 72 (va_cpy (g 8) (g 72) 0 0 3)) 73 (va_cpy (g 9) (g 73) 0 0 16)) gl (va_up hh 71 nl) v tx)) : WP X d 45 (0, [some (.ref 65), some (.ref 1), none], [], Wd f fl g gl hh v tx) P := by
  refine b_yst_copy_65_1_0 (h := ?_) ..
  have key : ∀ i, i ≤ 6 → ∀ nl : Nat → Option Nat, (∀ t, t < i → nl t = (hh 7) t) → (∀ t, i ≤ t → nl t = (hh 71) t) → WP X d 45 (169, [some (.ref 65), some (.ref 1), some (.int (iI i))], [], Wd (va_up (va_up (va_up (va_up (va_up (va_up (va_up (va_up f 4160 (f 64)) 4164 (f 68)) 4166 (f 70)) 4167 (f 71)) 4168 (f 72)) 4170 (f 74)) 4172 (f 76)) 4174 (f 78)) fl (va_up (va_up (va_up (va_up (va_up (va_up (va_up g 66 (va_cpy (g 2) (g 66) 0 0 8)) 67 (va_cpy (g 3) (g 67) 0 0 8)) 68 (va_cpy (g 4) (g 68) 0 0 8)) 69 (va_cpy (g 5) (g 69) 0 0 3)) 70 (va_cpy (g 6) (g 70) 0 0 6)) 72 (va_cpy (g 8) (g 72) 0 0 3)) 73 (va_cpy (g 9) (g 73) 0 0 16)) gl (va_up hh 71 nl) v tx) P := by
    apply k_up (Q := fun i => ∀ nl : Nat → Option Nat, (∀ t, t < i → nl t = (hh 7) t) → (∀ t, i ≤ t → nl t = (hh 71) t) → WP X d 45 (169, [some (.ref 65), some (.ref 1), some (.int (iI i))], [], Wd (va_up (va_up (va_up (va_up (va_up (va_up (va_up (va_up f 4160 (f 64)) 4164 (f 68)) 4166 (f 70)) 4167 (f 71)) 4168 (f 72)) 4170 (f 74)) 4172 (f 76)) 4174 (f 78)) fl (va_up (va_up (va_up (va_up (va_up (va_up (va_up g 66 (va_cpy (g 2) (g 66) 0 0 8)) 67 (va_cpy (g 3) (g 67) 0 0 8)) 68 (va_cpy (g 4) (g 68) 0 0 8)) 69 (va_cpy (g 5) (g 69) 0 0 3)) 70 (va_cpy (g 6) (g 70) 0 0 6)) 72 (va_cpy (g 8) (g 72) 0 0 3)) 73 (va_cpy (g 9) (g 73) 0 0 16)) gl (va_up hh 71 nl) v tx) P)
    · intro nl h1 h2
      refine b_yst_copy_65_1_169 (h := ?_) ..
      simp (disch := omega) only [z_lit, z_litl, z_neg, z_negl, z_add, z_sub, z_mul, z_addl, z_subl, z_mull, z_cc, z_cl, z_cr, z_cm, z_cml, z_cmr, z_lt, z_le, z_eq, z_ltl, z_lel, z_eql, z_nat, z_i2l, z_l2i, z_div, z_sh, Int.toNat_natCast, z_ts, z_tsl]
      exact ⟨fun _ => h nl h1 h2, fun c => by omega⟩
    · intro i hi ih nl h1 h2
      refine b_yst_copy_65_1_169 (h := ?_) ..
      have e1 : va_up hh 71 nl 7 = (hh 7) := va_ne (by decide)
      have e2 : va_up hh 71 nl 71 = nl := va_s
      rw [e1, e2, show (iI (i : Int)).toNatClampNeg = i by rw [z_nat (by omega)]; omega]
      refine ⟨fun c => by simp (disch := omega) only [z_lit, z_litl, z_neg, z_negl, z_add, z_sub, z_mul, z_addl, z_subl, z_mull, z_cc, z_cl, z_cr, z_cm, z_cml, z_cmr, z_lt, z_le, z_eq, z_ltl, z_lel, z_eql, z_nat, z_i2l, z_l2i, z_div, z_sh, Int.toNat_natCast, z_ts, z_tsl] at c; omega, fun _ => ⟨by simp (disch := omega) only [z_lit, z_litl, z_neg, z_negl, z_add, z_sub, z_mul, z_addl, z_subl, z_mull, z_cc, z_cl, z_cr, z_cm, z_cml, z_cmr, z_lt, z_le, z_eq, z_ltl, z_lel, z_eql, z_nat, z_i2l, z_l2i, z_div, z_sh, Int.toNat_natCast, z_ts, z_tsl]; omega, by simp (disch := omega) only [z_lit, z_litl, z_neg, z_negl, z_add, z_sub, z_mul, z_addl, z_subl, z_mull, z_cc, z_cl, z_cr, z_cm, z_cml, z_cmr, z_lt, z_le, z_eq, z_ltl, z_lel, z_eql, z_nat, z_i2l, z_l2i, z_div, z_sh, Int.toNat_natCast, z_ts, z_tsl]; omega, fun o ho => ?_, ?_⟩⟩
      · obtain ⟨tt, fs, rfl, hfs⟩ := hl i o ho
        exact ⟨fs, hfs⟩
      · rw [va_tw, show iI (i : Int) + (1 : Int32) = iI ((i + 1 : Nat) : Int) by rw [show (1 : Int32) = iI 1 from rfl, z_add]; rfl]
        refine ih _ (fun t ht => ?_) fun t ht => ?_
        · by_cases e : t = i
          · rw [e, va_s]
          · rw [va_ne e]; exact h1 t (by omega)
        · rw [va_ne (by omega)]; exact h2 t (by omega)
  have := key 0 (by omega) (hh 71) (fun t ht => absurd ht (Nat.not_lt_zero t)) fun t _ => rfl
  rw [show va_up hh 71 (hh 71) = hh by
    funext j
    by_cases e : j = 71
    · rw [e, va_s]
    · rw [va_ne e]] at this
  exact this
theorem c_copy_1_56 {X : mm_X} {d : Nat} {f : Nat → Int32} {fl : Nat → Int64} {g : Nat → Nat → Int32} {gl : Nat → Nat → Int64} {hh : Nat → Nat → Option Nat} {v : Nat → Value} {tx : mm_W} {P : Option Value → mm_W → Prop} (hl : i_lw tx (hh 62)) (h : ∀ nl : Nat → Option Nat, (∀ t, t < 6 → nl t = (hh 62) t) → (∀ t, 6 ≤ t → nl t = (hh 7) t) → P none (Wd (va_up (va_up (va_up (va_up (va_up (va_up (va_up (va_up f 64 (f 3584)) 68 (f 3588)) 70 (f 3590)) 71 (f 3591)) 72 (f 3592)) 74 (f 3594)) 76 (f 3596)) 78 (f 3598)) fl (va_up (va_up (va_up (va_up (va_up (va_up (va_up g 2 (va_cpy (g 57) (g 2) 0 0 8)) 3 (va_cpy (g 58) (g 3) 0 0 8)) 4 (va_cpy (g 59) (g 4) 0 0 8)) 5 (va_cpy (g 60) (g 5) 0 0 3)) 6 (va_cpy (g 61) (g 6) 0 0 6)) 8 (va_cpy (g 63) (g 8) 0 0 3)) 9 (va_cpy (g 64) (g 9) 0 0 16)) gl (va_up hh 7 nl) v tx)) : WP X d 45 (0, [some (.ref 1), some (.ref 56), none], [], Wd f fl g gl hh v tx) P := by
  refine b_yst_copy_1_56_0 (h := ?_) ..
  have key : ∀ i, i ≤ 6 → ∀ nl : Nat → Option Nat, (∀ t, t < i → nl t = (hh 62) t) → (∀ t, i ≤ t → nl t = (hh 7) t) → WP X d 45 (169, [some (.ref 1), some (.ref 56), some (.int (iI i))], [], Wd (va_up (va_up (va_up (va_up (va_up (va_up (va_up (va_up f 64 (f 3584)) 68 (f 3588)) 70 (f 3590)) 71 (f 3591)) 72 (f 3592)) 74 (f 3594)) 76 (f 3596)) 78 (f 3598)) fl (va_up (va_up (va_up (va_up (va_up (va_up (va_up g 2 (va_cpy (g 57) (g 2) 0 0 8)) 3 (va_cpy (g 58) (g 3) 0 0 8)) 4 (va_cpy (g 59) (g 4) 0 0 8)) 5 (va_cpy (g 60) (g 5) 0 0 3)) 6 (va_cpy (g 61) (g 6) 0 0 6)) 8 (va_cpy (g 63) (g 8) 0 0 3)) 9 (va_cpy (g 64) (g 9) 0 0 16)) gl (va_up hh 7 nl) v tx) P := by
    apply k_up (Q := fun i => ∀ nl : Nat → Option Nat, (∀ t, t < i → nl t = (hh 62) t) → (∀ t, i ≤ t → nl t = (hh 7) t) → WP X d 45 (169, [some (.ref 1), some (.ref 56), some (.int (iI i))], [], Wd (va_up (va_up (va_up (va_up (va_up (va_up (va_up (va_up f 64 (f 3584)) 68 (f 3588)) 70 (f 3590)) 71 (f 3591)) 72 (f 3592)) 74 (f 3594)) 76 (f 3596)) 78 (f 3598)) fl (va_up (va_up (va_up (va_up (va_up (va_up (va_up g 2 (va_cpy (g 57) (g 2) 0 0 8)) 3 (va_cpy (g 58) (g 3) 0 0 8)) 4 (va_cpy (g 59) (g 4) 0 0 8)) 5 (va_cpy (g 60) (g 5) 0 0 3)) 6 (va_cpy (g 61) (g 6) 0 0 6)) 8 (va_cpy (g 63) (g 8) 0 0 3)) 9 (va_cpy (g 64) (g 9) 0 0 16)) gl (va_up hh 7 nl) v tx) P)
    · intro nl h1 h2
      refine b_yst_copy_1_56_169 (h := ?_) ..
      simp (disch := omega) only [z_lit, z_litl, z_neg, z_negl, z_add, z_sub, z_mul, z_addl, z_subl, z_mull, z_cc, z_cl, z_cr, z_cm, z_cml, z_cmr, z_lt, z_le, z_eq, z_ltl, z_lel, z_eql, z_nat, z_i2l, z_l2i, z_div, z_sh, Int.toNat_natCast, z_ts, z_tsl]
      exact ⟨fun _ => h nl h1 h2, fun c => by omega⟩
    · intro i hi ih nl h1 h2
      refine b_yst_copy_1_56_169 (h := ?_) ..
      have e1 : va_up hh 7 nl 62 = (hh 62) := va_ne (by decide)
      have e2 : va_up hh 7 nl 7 = nl := va_s
      rw [e1, e2, show (iI (i : Int)).toNatClampNeg = i by rw [z_nat (by omega)]; omega]
      refine ⟨fun c => by simp (disch := omega) only [z_lit, z_litl, z_neg, z_negl, z_add, z_sub, z_mul, z_addl, z_subl, z_mull, z_cc, z_cl, z_cr, z_cm, z_cml, z_cmr, z_lt, z_le, z_eq, z_ltl, z_lel, z_eql, z_nat, z_i2l, z_l2i, z_div, z_sh, Int.toNat_natCast, z_ts, z_tsl] at c; omega, fun _ => ⟨by simp (disch := omega) only [z_lit, z_litl, z_neg, z_negl, z_add, z_sub, z_mul, z_addl, z_subl, z_mull, z_cc, z_cl, z_cr, z_cm, z_cml, z_cmr, z_lt, z_le, z_eq, z_ltl, z_lel, z_eql, z_nat, z_i2l, z_l2i, z_div, z_sh, Int.toNat_natCast, z_ts, z_tsl]; omega, by simp (disch := omega) only [z_lit, z_litl, z_neg, z_negl, z_add, z_sub, z_mul, z_addl, z_subl, z_mull, z_cc, z_cl, z_cr, z_cm, z_cml, z_cmr, z_lt, z_le, z_eq, z_ltl, z_lel, z_eql, z_nat, z_i2l, z_l2i, z_div, z_sh, Int.toNat_natCast, z_ts, z_tsl]; omega, fun o ho => ?_, ?_⟩⟩
      · obtain ⟨tt, fs, rfl, hfs⟩ := hl i o ho
        exact ⟨fs, hfs⟩
      · rw [va_tw, show iI (i : Int) + (1 : Int32) = iI ((i + 1 : Nat) : Int) by rw [show (1 : Int32) = iI 1 from rfl, z_add]; rfl]
        refine ih _ (fun t ht => ?_) fun t ht => ?_
        · by_cases e : t = i
          · rw [e, va_s]
          · rw [va_ne e]; exact h1 t (by omega)
        · rw [va_ne (by omega)]; exact h2 t (by omega)
  have := key 0 (by omega) (hh 7) (fun t ht => absurd ht (Nat.not_lt_zero t)) fun t _ => rfl
  rw [show va_up hh 7 (hh 7) = hh by
    funext j
    by_cases e : j = 7
    · rw [e, va_s]
    · rw [va_ne e]] at this
  exact this
theorem c_copy_1_65 {X : mm_X} {d : Nat} {f : Nat → Int32} {fl : Nat → Int64} {g : Nat → Nat → Int32} {gl : Nat → Nat → Int64} {hh : Nat → Nat → Option Nat} {v : Nat → Value} {tx : mm_W} {P : Option Value → mm_W → Prop} (hl : i_lw tx (hh 71)) (h : ∀ nl : Nat → Option Nat, (∀ t, t < 6 → nl t = (hh 71) t) → (∀ t, 6 ≤ t → nl t = (hh 7) t) → P none (Wd (va_up (va_up (va_up (va_up (va_up (va_up (va_up (va_up f 64 (f 4160)) 68 (f 4164)) 70 (f 4166)) 71 (f 4167)) 72 (f 4168)) 74 (f 4170)) 76 (f 4172)) 78 (f 4174)) fl (va_up (va_up (va_up (va_up (va_up (va_up (va_up g 2 (va_cpy (g 66) (g 2) 0 0 8)) 3 (va_cpy (g 67) (g 3) 0 0 8)) 4 (va_cpy (g 68) (g 4) 0 0 8)) 5 (va_cpy (g 69) (g 5) 0 0 3)) 6 (va_cpy (g 70) (g 6) 0 0 6)) 8 (va_cpy (g 72) (g 8) 0 0 3)) 9 (va_cpy (g 73) (g 9) 0 0 16)) gl (va_up hh 7 nl) v tx)) : WP X d 45 (0, [some (.ref 1), some (.ref 65), none], [], Wd f fl g gl hh v tx) P := by
  refine b_yst_copy_1_65_0 (h := ?_) ..
  have key : ∀ i, i ≤ 6 → ∀ nl : Nat → Option Nat, (∀ t, t < i → nl t = (hh 71) t) → (∀ t, i ≤ t → nl t = (hh 7) t) → WP X d 45 (169, [some (.ref 1), some (.ref 65), some (.int (iI i))], [], Wd (va_up (va_up (va_up (va_up (va_up (va_up (va_up (va_up f 64 (f 4160)) 68 (f 4164)) 70 (f 4166)) 71 (f 4167)) 72 (f 4168)) 74 (f 4170)) 76 (f 4172)) 78 (f 4174)) fl (va_up (va_up (va_up (va_up (va_up (va_up (va_up g 2 (va_cpy (g 66) (g 2) 0 0 8)) 3 (va_cpy (g 67) (g 3) 0 0 8)) 4 (va_cpy (g 68) (g 4) 0 0 8)) 5 (va_cpy (g 69) (g 5) 0 0 3)) 6 (va_cpy (g 70) (g 6) 0 0 6)) 8 (va_cpy (g 72) (g 8) 0 0 3)) 9 (va_cpy (g 73) (g 9) 0 0 16)) gl (va_up hh 7 nl) v tx) P := by
    apply k_up (Q := fun i => ∀ nl : Nat → Option Nat, (∀ t, t < i → nl t = (hh 71) t) → (∀ t, i ≤ t → nl t = (hh 7) t) → WP X d 45 (169, [some (.ref 1), some (.ref 65), some (.int (iI i))], [], Wd (va_up (va_up (va_up (va_up (va_up (va_up (va_up (va_up f 64 (f 4160)) 68 (f 4164)) 70 (f 4166)) 71 (f 4167)) 72 (f 4168)) 74 (f 4170)) 76 (f 4172)) 78 (f 4174)) fl (va_up (va_up (va_up (va_up (va_up (va_up (va_up g 2 (va_cpy (g 66) (g 2) 0 0 8)) 3 (va_cpy (g 67) (g 3) 0 0 8)) 4 (va_cpy (g 68) (g 4) 0 0 8)) 5 (va_cpy (g 69) (g 5) 0 0 3)) 6 (va_cpy (g 70) (g 6) 0 0 6)) 8 (va_cpy (g 72) (g 8) 0 0 3)) 9 (va_cpy (g 73) (g 9) 0 0 16)) gl (va_up hh 7 nl) v tx) P)
    · intro nl h1 h2
      refine b_yst_copy_1_65_169 (h := ?_) ..
      simp (disch := omega) only [z_lit, z_litl, z_neg, z_negl, z_add, z_sub, z_mul, z_addl, z_subl, z_mull, z_cc, z_cl, z_cr, z_cm, z_cml, z_cmr, z_lt, z_le, z_eq, z_ltl, z_lel, z_eql, z_nat, z_i2l, z_l2i, z_div, z_sh, Int.toNat_natCast, z_ts, z_tsl]
      exact ⟨fun _ => h nl h1 h2, fun c => by omega⟩
    · intro i hi ih nl h1 h2
      refine b_yst_copy_1_65_169 (h := ?_) ..
      have e1 : va_up hh 7 nl 71 = (hh 71) := va_ne (by decide)
      have e2 : va_up hh 7 nl 7 = nl := va_s
      rw [e1, e2, show (iI (i : Int)).toNatClampNeg = i by rw [z_nat (by omega)]; omega]
      refine ⟨fun c => by simp (disch := omega) only [z_lit, z_litl, z_neg, z_negl, z_add, z_sub, z_mul, z_addl, z_subl, z_mull, z_cc, z_cl, z_cr, z_cm, z_cml, z_cmr, z_lt, z_le, z_eq, z_ltl, z_lel, z_eql, z_nat, z_i2l, z_l2i, z_div, z_sh, Int.toNat_natCast, z_ts, z_tsl] at c; omega, fun _ => ⟨by simp (disch := omega) only [z_lit, z_litl, z_neg, z_negl, z_add, z_sub, z_mul, z_addl, z_subl, z_mull, z_cc, z_cl, z_cr, z_cm, z_cml, z_cmr, z_lt, z_le, z_eq, z_ltl, z_lel, z_eql, z_nat, z_i2l, z_l2i, z_div, z_sh, Int.toNat_natCast, z_ts, z_tsl]; omega, by simp (disch := omega) only [z_lit, z_litl, z_neg, z_negl, z_add, z_sub, z_mul, z_addl, z_subl, z_mull, z_cc, z_cl, z_cr, z_cm, z_cml, z_cmr, z_lt, z_le, z_eq, z_ltl, z_lel, z_eql, z_nat, z_i2l, z_l2i, z_div, z_sh, Int.toNat_natCast, z_ts, z_tsl]; omega, fun o ho => ?_, ?_⟩⟩
      · obtain ⟨tt, fs, rfl, hfs⟩ := hl i o ho
        exact ⟨fs, hfs⟩
      · rw [va_tw, show iI (i : Int) + (1 : Int32) = iI ((i + 1 : Nat) : Int) by rw [show (1 : Int32) = iI 1 from rfl, z_add]; rfl]
        refine ih _ (fun t ht => ?_) fun t ht => ?_
        · by_cases e : t = i
          · rw [e, va_s]
          · rw [va_ne e]; exact h1 t (by omega)
        · rw [va_ne (by omega)]; exact h2 t (by omega)
  have := key 0 (by omega) (hh 7) (fun t ht => absurd ht (Nat.not_lt_zero t)) fun t _ => rfl
  rw [show va_up hh 7 (hh 7) = hh by
    funext j
    by_cases e : j = 7
    · rw [e, va_s]
    · rw [va_ne e]] at this
  exact this
theorem nar1 : vp_nar .boolean (iI 1) = iI 1 := by decide
theorem c_m_image {X : mm_X} {d : Nat} {f : Nat → Int32} {fl : Nat → Int64} {g : Nat → Nat → Int32} {gl : Nat → Nat → Int64} {hh : Nat → Nat → Option Nat} {v : Nat → Value} {tx : mm_W} {P : Option Value → mm_W → Prop} {k : Nat} (hk : k ≤ 1) (h : ∀ a : Nat → Int32, (∀ i, i < 5667 → a (5667 * k + i) = g 76 i) → (∀ j, j < 5667 * k ∨ 5667 * k + 5667 ≤ j → a j = g 77 j) → P (some (.int (iI 0))) (Wd (va_up f 4736 (iI 0)) fl (va_up (va_up g 77 a) 78 (upd (g 78) k (iI 1))) gl hh v tx)) : WP X (d + 1) 127 (0, [some (.ref 74), some (.int (iI k)), none], [], Wd f fl g gl hh v tx) P := by
  refine b_m_image_0 (h := ?_) ..
  simp (disch := omega) only [z_lit, z_litl, z_neg, z_negl, z_add, z_sub, z_mul, z_addl, z_subl, z_mull, z_cc, z_cl, z_cr, z_cm, z_cml, z_cmr, z_lt, z_le, z_eq, z_ltl, z_lel, z_eql, z_nat, z_i2l, z_l2i, z_div, z_sh, Int.toNat_natCast, z_ts, z_tsl]
  repeat (first | refine ⟨fun c9 => by omega, fun _ => ?_⟩ | refine ⟨fun _ => ?_, fun c9 => by omega⟩ | refine ⟨by omega, ?_⟩ | refine ⟨fun c9 => absurd trivial c9, fun _ => ?_⟩ | refine ⟨fun _ => ?_, fun c9 => absurd trivial c9⟩)
  have key : ∀ i, i ≤ 5667 → ∀ a : Nat → Int32, (∀ x, x < i → a (5667 * k + x) = g 76 x) → (∀ j, j < 5667 * k ∨ 5667 * k + i ≤ j → a j = g 77 j) → WP X (d + 1) 127 (17, [some (.ref 74), some (.int (iI k)), some (.int (iI i))], [], Wd f fl (va_up g 77 a) gl hh v tx) P := by
    apply k_up (Q := fun i => ∀ a : Nat → Int32, (∀ x, x < i → a (5667 * k + x) = g 76 x) → (∀ j, j < 5667 * k ∨ 5667 * k + i ≤ j → a j = g 77 j) → WP X (d + 1) 127 (17, [some (.ref 74), some (.int (iI k)), some (.int (iI i))], [], Wd f fl (va_up g 77 a) gl hh v tx) P)
    · intro a h1 h2
      refine b_m_image_17 (h := ?_) ..
      simp (disch := omega) only [z_lit, z_litl, z_neg, z_negl, z_add, z_sub, z_mul, z_addl, z_subl, z_mull, z_cc, z_cl, z_cr, z_cm, z_cml, z_cmr, z_lt, z_le, z_eq, z_ltl, z_lel, z_eql, z_nat, z_i2l, z_l2i, z_div, z_sh, Int.toNat_natCast, z_ts, z_tsl, va_ne, nar1]
      refine ⟨fun _ => ⟨by omega, ?_⟩, fun c => by omega⟩
      exact h a h1 h2
    · intro i hi ih a h1 h2
      refine b_m_image_17 (h := ?_) ..
      simp (disch := omega) only [z_lit, z_litl, z_neg, z_negl, z_add, z_sub, z_mul, z_addl, z_subl, z_mull, z_cc, z_cl, z_cr, z_cm, z_cml, z_cmr, z_lt, z_le, z_eq, z_ltl, z_lel, z_eql, z_nat, z_i2l, z_l2i, z_div, z_sh, Int.toNat_natCast, z_ts, z_tsl, va_ne, va_s, va_tw]
      refine ⟨fun c => by omega, fun _ => ⟨by omega, by omega, ?_⟩⟩
      refine ih _ (fun x hx => ?_) fun j hj => ?_
      · by_cases e : x = i
        · rw [e, upd_s]
        · rw [upd_ne (by omega)]; exact h1 x (by omega)
      · rw [upd_ne (by omega)]; exact h2 j (by omega)
  have := key 0 (by omega) (g 77) (fun x hx => absurd hx (Nat.not_lt_zero x)) fun j _ => rfl
  rw [show va_up g 77 (g 77) = g by
    funext j
    by_cases e : j = 77
    · rw [e, va_s]
    · rw [va_ne e]] at this
  exact this
theorem i_img.cg {xk mk : Int32} {n : Int32} {ro lo me : Nat → Int32} {m : Int32} {sp : Nat → Int32} {hu cl dn : Int32} {dd : Nat → Int32} {la : Int32} {lw : Nat → Option Nat} {fo : Int32} {te : Nat → Int32} {tx : mm_W} {K K' : Nat → Int32} (h : i_img xk mk n ro lo me m sp hu cl dn dd la lw fo te tx K) (e : ∀ i, i < 5667 → K' i = K i) : i_img xk mk n ro lo me m sp hu cl dn dd la lw fo te tx K' := by
  refine ⟨h.1, ?_⟩
  rcases h.2 with h2 | ⟨h2, κ, h3, h4, h5⟩
  · exact Or.inl h2
  · exact Or.inr ⟨h2, κ, h3, ⟨fun i hi hn => (e i hi).trans (h4.1 i hi hn), (e 59 (by omega)).trans h4.2⟩, h5⟩
theorem o_image0 (X : mm_X) {f : Nat → Int32} {fl : Nat → Int64} {g : Nat → Nat → Int32} {gl : Nat → Nat → Int64} {hh : Nat → Nat → Option Nat} {v : Nat → Value} {tx : mm_W} (hI : k_Inv f fl g gl hh v tx) : WP X 1999 95 (0, [some (.ref 0), some (.int (iI ((0 : Nat) : Int)))], [], Wd f fl g gl hh v tx) (fun r1 w1 => ∃ (a : Int64) (f1 : Nat → Int32) (fl1 : Nat → Int64) (g1 : Nat → Nat → Int32) (gl1 : Nat → Nat → Int64) (hh1 : Nat → Nat → Option Nat) (v1 : Nat → Value) (tx1 : mm_W), r1 = some (k_mi a) ∧ w1 = Wd f1 fl1 g1 gl1 hh1 v1 tx1 ∧ WP X 1999 127 (0, [some (.ref 74), some (.int (iI ((0 : Nat) : Int))), none], [], w1) (fun r2 w2 => r2 = some (k_mi a) ∧ ∃ (f2 : Nat → Int32) (fl2 : Nat → Int64) (g2 : Nat → Nat → Int32) (gl2 : Nat → Nat → Int64) (hh2 : Nat → Nat → Option Nat) (v2 : Nat → Value) (tx2 : mm_W), w2 = Wd f2 fl2 g2 gl2 hh2 v2 tx2 ∧ k_Inv f2 fl2 g2 gl2 hh2 v2 tx2 ∧ tx2.length ≤ tx.length + 3 ∧ mm_sl tx2 ≤ mm_sl tx + 464)) := by
  have hI' := hI
  obtain ⟨κ, ⟨wS, wH, wL, wD, wW, wT, wB⟩, hm, ⟨xS, xH, xL, xD, xW, xT⟩, he, ht, ha, hi0, hi1, hd, hr⟩ := hI
  refine b_x_image0_0 (h := ?_) ..
  simp (disch := omega) only [z_lit, z_litl, z_neg, z_negl, z_add, z_sub, z_mul, z_addl, z_subl, z_mull, z_cc, z_cl, z_cr, z_cm, z_cml, z_cmr, z_lt, z_le, z_eq, z_ltl, z_lel, z_eql, z_nat, z_i2l, z_l2i, z_div, z_sh, Int.toNat_natCast, z_ts, z_tsl]
  refine ⟨fun _ => ⟨by omega, by rw [hr.1]; rfl, ?_⟩, fun c => by omega⟩
  refine c_copy_56_1 hr.2.2.1 fun nl n1 n2 => ?_
  refine b_x_image0_27 (h := ?_) ..
  simp (disch := omega) only [z_lit, z_litl, z_neg, z_negl, z_add, z_sub, z_mul, z_addl, z_subl, z_mull, z_cc, z_cl, z_cr, z_cm, z_cml, z_cmr, z_lt, z_le, z_eq, z_ltl, z_lel, z_eql, z_nat, z_i2l, z_l2i, z_div, z_sh, Int.toNat_natCast, z_ts, z_tsl, va_ne, nar1]
  refine ⟨by omega, ?_⟩
  refine k_mid ?_
  refine c_m_image (k := 0) (by omega) fun a h1 h2 => ?_
  refine k_fin0 rfl ⟨κ, ⟨wS, wH, wL, wD, wW, wT, wB⟩, hm, ⟨xS, xH, xL, xD, xW, xT⟩, ⟨he.1, he.2.1, he.2.2.1, rfl, he.2.2.2.2⟩, ht, ha, ?_, ?_, hd, hr.1, hr.2.1, hr.2.2.1, hr.2.2.2.1, hr.2.2.2.2.1, hr.2.2.1.copy hr.2.2.2.2.2.1 n1 n2, hr.2.2.2.2.2.2⟩
  · refine ⟨?_, Or.inr ⟨?_, κ, ⟨wS, wH, wL, wD, wW, wT, wB⟩, ⟨fun i hi hn => ?_, ?_⟩, ?_⟩⟩
    · show upd (g 29) 0 (iI 1) 0 = upd (g 78) 0 (iI 1) 0
      rw [upd_s, upd_s]
    · show upd (g 29) 0 (iI 1) 0 = 1
      rw [upd_s]; rfl
    · show a i = _
      have := h1 i hi
      rw [Nat.mul_zero, Nat.zero_add] at this
      rw [this]; exact hm.1 i hn
    · show a 59 = _
      have := h1 59 (by omega)
      rw [Nat.mul_zero, Nat.zero_add] at this
      rw [this]; exact hm.2
    · exact xs_copy ⟨xS, xH, xL, xD, xW, xT⟩ ⟨wS, wH, wL, wD, wW, wT, wB⟩ n1
  · have q : i_img (g 29 1) (g 78 1) (f 4160) (g 66) (g 67) (g 68) (f 4164) (g 69) (f 4166) (f 4167) (f 4168) (g 70) (f 4170) (hh 71) (f 4172) (g 72) tx (fun i => a (5667 + i)) := hi1.cg fun i hi => h2 _ (Or.inr (by omega))
    exact q
theorem o_image1 (X : mm_X) {f : Nat → Int32} {fl : Nat → Int64} {g : Nat → Nat → Int32} {gl : Nat → Nat → Int64} {hh : Nat → Nat → Option Nat} {v : Nat → Value} {tx : mm_W} (hI : k_Inv f fl g gl hh v tx) : WP X 1999 95 (0, [some (.ref 0), some (.int (iI ((1 : Nat) : Int)))], [], Wd f fl g gl hh v tx) (fun r1 w1 => ∃ (a : Int64) (f1 : Nat → Int32) (fl1 : Nat → Int64) (g1 : Nat → Nat → Int32) (gl1 : Nat → Nat → Int64) (hh1 : Nat → Nat → Option Nat) (v1 : Nat → Value) (tx1 : mm_W), r1 = some (k_mi a) ∧ w1 = Wd f1 fl1 g1 gl1 hh1 v1 tx1 ∧ WP X 1999 127 (0, [some (.ref 74), some (.int (iI ((1 : Nat) : Int))), none], [], w1) (fun r2 w2 => r2 = some (k_mi a) ∧ ∃ (f2 : Nat → Int32) (fl2 : Nat → Int64) (g2 : Nat → Nat → Int32) (gl2 : Nat → Nat → Int64) (hh2 : Nat → Nat → Option Nat) (v2 : Nat → Value) (tx2 : mm_W), w2 = Wd f2 fl2 g2 gl2 hh2 v2 tx2 ∧ k_Inv f2 fl2 g2 gl2 hh2 v2 tx2 ∧ tx2.length ≤ tx.length + 3 ∧ mm_sl tx2 ≤ mm_sl tx + 464)) := by
  have hI' := hI
  obtain ⟨κ, ⟨wS, wH, wL, wD, wW, wT, wB⟩, hm, ⟨xS, xH, xL, xD, xW, xT⟩, he, ht, ha, hi0, hi1, hd, hr⟩ := hI
  refine b_x_image1_0 (h := ?_) ..
  simp (disch := omega) only [z_lit, z_litl, z_neg, z_negl, z_add, z_sub, z_mul, z_addl, z_subl, z_mull, z_cc, z_cl, z_cr, z_cm, z_cml, z_cmr, z_lt, z_le, z_eq, z_ltl, z_lel, z_eql, z_nat, z_i2l, z_l2i, z_div, z_sh, Int.toNat_natCast, z_ts, z_tsl]
  refine ⟨fun _ => ⟨by omega, by rw [hr.2.1]; rfl, ?_⟩, fun c => by omega⟩
  refine c_copy_65_1 hr.2.2.1 fun nl n1 n2 => ?_
  refine b_x_image1_27 (h := ?_) ..
  simp (disch := omega) only [z_lit, z_litl, z_neg, z_negl, z_add, z_sub, z_mul, z_addl, z_subl, z_mull, z_cc, z_cl, z_cr, z_cm, z_cml, z_cmr, z_lt, z_le, z_eq, z_ltl, z_lel, z_eql, z_nat, z_i2l, z_l2i, z_div, z_sh, Int.toNat_natCast, z_ts, z_tsl, va_ne, nar1]
  refine ⟨by omega, ?_⟩
  refine k_mid ?_
  refine c_m_image (k := 1) (by omega) fun a h1 h2 => ?_
  refine k_fin0 rfl ⟨κ, ⟨wS, wH, wL, wD, wW, wT, wB⟩, hm, ⟨xS, xH, xL, xD, xW, xT⟩, ⟨he.1, he.2.1, he.2.2.1, rfl, he.2.2.2.2⟩, ht, ha, ?_, ?_, hd, hr.1, hr.2.1, hr.2.2.1, hr.2.2.2.1, hr.2.2.2.2.1, hr.2.2.2.2.2.1, hr.2.2.1.copy hr.2.2.2.2.2.2 n1 n2⟩
  · have q : i_img (g 29 0) (g 78 0) (f 3584) (g 57) (g 58) (g 59) (f 3588) (g 60) (f 3590) (f 3591) (f 3592) (g 61) (f 3594) (hh 62) (f 3596) (g 63) tx (fun i => a i) := hi0.cg fun i hi => h2 _ (Or.inl (by omega))
    exact q
  · refine ⟨?_, Or.inr ⟨?_, κ, ⟨wS, wH, wL, wD, wW, wT, wB⟩, ⟨fun i hi hn => ?_, ?_⟩, ?_⟩⟩
    · show upd (g 29) 1 (iI 1) 1 = upd (g 78) 1 (iI 1) 1
      rw [upd_s, upd_s]
    · show upd (g 29) 1 (iI 1) 1 = 1
      rw [upd_s]; rfl
    · show a (5667 + i) = _
      exact (h1 i hi).trans (hm.1 i hn)
    · show a (5667 + 59) = _
      exact (h1 59 (by omega)).trans hm.2
    · exact xs_copy ⟨xS, xH, xL, xD, xW, xT⟩ ⟨wS, wH, wL, wD, wW, wT, wB⟩ n1
theorem o_image : k_op37 k_Inv := by
  intro a0 X f fl g gl hh v tx hI
  obtain ⟨z, hz, rfl⟩ := z_ex a0
  by_cases h0 : z = 0
  · subst h0; exact o_image0 X hI
  · by_cases h1 : z = 1
    · subst h1; exact o_image1 X hI
    · refine b_x_image0_0 (h := ?_) ..
      simp (disch := omega) only [z_lit, z_litl, z_neg, z_negl, z_add, z_sub, z_mul, z_addl, z_subl, z_mull, z_cc, z_cl, z_cr, z_cm, z_cml, z_cmr, z_lt, z_le, z_eq, z_ltl, z_lel, z_eql, z_nat, z_i2l, z_l2i, z_div, z_sh, Int.toNat_natCast, z_ts, z_tsl]
      refine ⟨fun c => by omega, fun _ => ?_⟩
      refine k_mid (b_m_image_0 (h := ?_) ..)
      simp (disch := omega) only [z_lit, z_litl, z_neg, z_negl, z_add, z_sub, z_mul, z_addl, z_subl, z_mull, z_cc, z_cl, z_cr, z_cm, z_cml, z_cmr, z_lt, z_le, z_eq, z_ltl, z_lel, z_eql, z_nat, z_i2l, z_l2i, z_div, z_sh, Int.toNat_natCast, z_ts, z_tsl, va_ne]
      exact ⟨fun c => by omega, fun _ => k_fin0 rfl (hI.rf (iI (-1)) 1 (by decide))⟩
