set_option maxRecDepth 20000 in
theorem b_yst_copy_56_1_0 (X : mm_X) (d : Nat) (f : Nat → Int32) (fl : Nat → Int64) (g : Nat → Nat → Int32) (gl : Nat → Nat → Int64) (hh : Nat → Nat → Option Nat) (v : Nat → Value) (tx : mm_W)   (P : Option Value → mm_W → Prop)
    (h : WP X (d) 45 (169, [some (.ref 56), some (.ref 1), some (.int 0)], [], Wd (va_up (va_up (va_up (va_up (va_up (va_up (va_up (va_up f 3584 (f 64)) 3588 (f 68)) 3590 (f 70)) 3591 (f 71)) 3592 (f 72)) 3594 (f 74)) 3596 (f 76)) 3598 (f 78)) fl (va_up (va_up (va_up (va_up (va_up (va_up (va_up g 57 (va_cpy (g 2) (g 57) 0 0 8)) 58 (va_cpy (g 3) (g 58) 0 0 8)) 59 (va_cpy (g 4) (g 59) 0 0 8)) 60 (va_cpy (g 5) (g 60) 0 0 3)) 61 (va_cpy (g 6) (g 61) 0 0 6)) 63 (va_cpy (g 8) (g 63) 0 0 3)) 64 (va_cpy (g 9) (g 64) 0 0 16)) gl hh v tx) P) :
    WP X (d) 45 (0, [some (.ref 56), some (.ref 1), none], [], Wd f fl g gl hh v tx) P := by
  refine WP.run hP_45 39 (c' := (76, [some (.ref 56), some (.ref 1), none], [.int 8, .int 0, .ref 57, .int 0, .ref 2], Wd (va_up (va_up (va_up (va_up (va_up (va_up (va_up (va_up f 3584 (f 64)) 3588 (f 68)) 3590 (f 70)) 3591 (f 71)) 3592 (f 72)) 3594 (f 74)) 3596 (f 76)) 3598 (f 78)) fl g gl hh v tx)) rfl ?_
  refine WP.of (fun _ _ => Ex.acopy hP_45 (w2 := Wd (va_up (va_up (va_up (va_up (va_up (va_up (va_up (va_up f 3584 (f 64)) 3588 (f 68)) 3590 (f 70)) 3591 (f 71)) 3592 (f 72)) 3594 (f 74)) 3596 (f 76)) 3598 (f 78)) fl (va_up g 57 (va_cpy (g 2) (g 57) 0 0 8)) gl hh v tx) rfl rfl (Wa_2 _ _ _ _ _ _ _) (Wa_57 _ _ _ _ _ _ _) (by decide) (Ws_57 _ _ _ _ _ _ _ _)) ?_
  refine WP.run hP_45 7 (c' := (91, [some (.ref 56), some (.ref 1), none], [.int 8, .int 0, .ref 58, .int 0, .ref 3], Wd (va_up (va_up (va_up (va_up (va_up (va_up (va_up (va_up f 3584 (f 64)) 3588 (f 68)) 3590 (f 70)) 3591 (f 71)) 3592 (f 72)) 3594 (f 74)) 3596 (f 76)) 3598 (f 78)) fl (va_up g 57 (va_cpy (g 2) (g 57) 0 0 8)) gl hh v tx)) rfl ?_
  refine WP.of (fun _ _ => Ex.acopy hP_45 (w2 := Wd (va_up (va_up (va_up (va_up (va_up (va_up (va_up (va_up f 3584 (f 64)) 3588 (f 68)) 3590 (f 70)) 3591 (f 71)) 3592 (f 72)) 3594 (f 74)) 3596 (f 76)) 3598 (f 78)) fl (va_up (va_up g 57 (va_cpy (g 2) (g 57) 0 0 8)) 58 (va_cpy (g 3) (g 58) 0 0 8)) gl hh v tx) rfl rfl (Wa_3 _ _ _ _ _ _ _) (Wa_58 _ _ _ _ _ _ _) (by decide) (Ws_58 _ _ _ _ _ _ _ _)) ?_
  refine WP.run hP_45 7 (c' := (106, [some (.ref 56), some (.ref 1), none], [.int 8, .int 0, .ref 59, .int 0, .ref 4], Wd (va_up (va_up (va_up (va_up (va_up (va_up (va_up (va_up f 3584 (f 64)) 3588 (f 68)) 3590 (f 70)) 3591 (f 71)) 3592 (f 72)) 3594 (f 74)) 3596 (f 76)) 3598 (f 78)) fl (va_up (va_up g 57 (va_cpy (g 2) (g 57) 0 0 8)) 58 (va_cpy (g 3) (g 58) 0 0 8)) gl hh v tx)) rfl ?_
  refine WP.of (fun _ _ => Ex.acopy hP_45 (w2 := Wd (va_up (va_up (va_up (va_up (va_up (va_up (va_up (va_up f 3584 (f 64)) 3588 (f 68)) 3590 (f 70)) 3591 (f 71)) 3592 (f 72)) 3594 (f 74)) 3596 (f 76)) 3598 (f 78)) fl (va_up (va_up (va_up g 57 (va_cpy (g 2) (g 57) 0 0 8)) 58 (va_cpy (g 3) (g 58) 0 0 8)) 59 (va_cpy (g 4) (g 59) 0 0 8)) gl hh v tx) rfl rfl (Wa_4 _ _ _ _ _ _ _) (Wa_59 _ _ _ _ _ _ _) (by decide) (Ws_59 _ _ _ _ _ _ _ _)) ?_
  refine WP.run hP_45 7 (c' := (120, [some (.ref 56), some (.ref 1), none], [.int 3, .int 0, .ref 60, .int 0, .ref 5], Wd (va_up (va_up (va_up (va_up (va_up (va_up (va_up (va_up f 3584 (f 64)) 3588 (f 68)) 3590 (f 70)) 3591 (f 71)) 3592 (f 72)) 3594 (f 74)) 3596 (f 76)) 3598 (f 78)) fl (va_up (va_up (va_up g 57 (va_cpy (g 2) (g 57) 0 0 8)) 58 (va_cpy (g 3) (g 58) 0 0 8)) 59 (va_cpy (g 4) (g 59) 0 0 8)) gl hh v tx)) rfl ?_
  refine WP.of (fun _ _ => Ex.acopy hP_45 (w2 := Wd (va_up (va_up (va_up (va_up (va_up (va_up (va_up (va_up f 3584 (f 64)) 3588 (f 68)) 3590 (f 70)) 3591 (f 71)) 3592 (f 72)) 3594 (f 74)) 3596 (f 76)) 3598 (f 78)) fl (va_up (va_up (va_up (va_up g 57 (va_cpy (g 2) (g 57) 0 0 8)) 58 (va_cpy (g 3) (g 58) 0 0 8)) 59 (va_cpy (g 4) (g 59) 0 0 8)) 60 (va_cpy (g 5) (g 60) 0 0 3)) gl hh v tx) rfl rfl (Wa_5 _ _ _ _ _ _ _) (Wa_60 _ _ _ _ _ _ _) (by decide) (Ws_60 _ _ _ _ _ _ _ _)) ?_
  refine WP.run hP_45 7 (c' := (135, [some (.ref 56), some (.ref 1), none], [.int 6, .int 0, .ref 61, .int 0, .ref 6], Wd (va_up (va_up (va_up (va_up (va_up (va_up (va_up (va_up f 3584 (f 64)) 3588 (f 68)) 3590 (f 70)) 3591 (f 71)) 3592 (f 72)) 3594 (f 74)) 3596 (f 76)) 3598 (f 78)) fl (va_up (va_up (va_up (va_up g 57 (va_cpy (g 2) (g 57) 0 0 8)) 58 (va_cpy (g 3) (g 58) 0 0 8)) 59 (va_cpy (g 4) (g 59) 0 0 8)) 60 (va_cpy (g 5) (g 60) 0 0 3)) gl hh v tx)) rfl ?_
  refine WP.of (fun _ _ => Ex.acopy hP_45 (w2 := Wd (va_up (va_up (va_up (va_up (va_up (va_up (va_up (va_up f 3584 (f 64)) 3588 (f 68)) 3590 (f 70)) 3591 (f 71)) 3592 (f 72)) 3594 (f 74)) 3596 (f 76)) 3598 (f 78)) fl (va_up (va_up (va_up (va_up (va_up g 57 (va_cpy (g 2) (g 57) 0 0 8)) 58 (va_cpy (g 3) (g 58) 0 0 8)) 59 (va_cpy (g 4) (g 59) 0 0 8)) 60 (va_cpy (g 5) (g 60) 0 0 3)) 61 (va_cpy (g 6) (g 61) 0 0 6)) gl hh v tx) rfl rfl (Wa_6 _ _ _ _ _ _ _) (Wa_61 _ _ _ _ _ _ _) (by decide) (Ws_61 _ _ _ _ _ _ _ _)) ?_
  refine WP.run hP_45 7 (c' := (149, [some (.ref 56), some (.ref 1), none], [.int 3, .int 0, .ref 63, .int 0, .ref 8], Wd (va_up (va_up (va_up (va_up (va_up (va_up (va_up (va_up f 3584 (f 64)) 3588 (f 68)) 3590 (f 70)) 3591 (f 71)) 3592 (f 72)) 3594 (f 74)) 3596 (f 76)) 3598 (f 78)) fl (va_up (va_up (va_up (va_up (va_up g 57 (va_cpy (g 2) (g 57) 0 0 8)) 58 (va_cpy (g 3) (g 58) 0 0 8)) 59 (va_cpy (g 4) (g 59) 0 0 8)) 60 (va_cpy (g 5) (g 60) 0 0 3)) 61 (va_cpy (g 6) (g 61) 0 0 6)) gl hh v tx)) rfl ?_
  refine WP.of (fun _ _ => Ex.acopy hP_45 (w2 := Wd (va_up (va_up (va_up (va_up (va_up (va_up (va_up (va_up f 3584 (f 64)) 3588 (f 68)) 3590 (f 70)) 3591 (f 71)) 3592 (f 72)) 3594 (f 74)) 3596 (f 76)) 3598 (f 78)) fl (va_up (va_up (va_up (va_up (va_up (va_up g 57 (va_cpy (g 2) (g 57) 0 0 8)) 58 (va_cpy (g 3) (g 58) 0 0 8)) 59 (va_cpy (g 4) (g 59) 0 0 8)) 60 (va_cpy (g 5) (g 60) 0 0 3)) 61 (va_cpy (g 6) (g 61) 0 0 6)) 63 (va_cpy (g 8) (g 63) 0 0 3)) gl hh v tx) rfl rfl (Wa_8 _ _ _ _ _ _ _) (Wa_63 _ _ _ _ _ _ _) (by decide) (Ws_63 _ _ _ _ _ _ _ _)) ?_
  refine WP.run hP_45 7 (c' := (164, [some (.ref 56), some (.ref 1), none], [.int 16, .int 0, .ref 64, .int 0, .ref 9], Wd (va_up (va_up (va_up (va_up (va_up (va_up (va_up (va_up f 3584 (f 64)) 3588 (f 68)) 3590 (f 70)) 3591 (f 71)) 3592 (f 72)) 3594 (f 74)) 3596 (f 76)) 3598 (f 78)) fl (va_up (va_up (va_up (va_up (va_up (va_up g 57 (va_cpy (g 2) (g 57) 0 0 8)) 58 (va_cpy (g 3) (g 58) 0 0 8)) 59 (va_cpy (g 4) (g 59) 0 0 8)) 60 (va_cpy (g 5) (g 60) 0 0 3)) 61 (va_cpy (g 6) (g 61) 0 0 6)) 63 (va_cpy (g 8) (g 63) 0 0 3)) gl hh v tx)) rfl ?_
  refine WP.of (fun _ _ => Ex.acopy hP_45 (w2 := Wd (va_up (va_up (va_up (va_up (va_up (va_up (va_up (va_up f 3584 (f 64)) 3588 (f 68)) 3590 (f 70)) 3591 (f 71)) 3592 (f 72)) 3594 (f 74)) 3596 (f 76)) 3598 (f 78)) fl (va_up (va_up (va_up (va_up (va_up (va_up (va_up g 57 (va_cpy (g 2) (g 57) 0 0 8)) 58 (va_cpy (g 3) (g 58) 0 0 8)) 59 (va_cpy (g 4) (g 59) 0 0 8)) 60 (va_cpy (g 5) (g 60) 0 0 3)) 61 (va_cpy (g 6) (g 61) 0 0 6)) 63 (va_cpy (g 8) (g 63) 0 0 3)) 64 (va_cpy (g 9) (g 64) 0 0 16)) gl hh v tx) rfl rfl (Wa_9 _ _ _ _ _ _ _) (Wa_64 _ _ _ _ _ _ _) (by decide) (Ws_64 _ _ _ _ _ _ _ _)) ?_
  refine WP.run hP_45 2 (c' := (169, [some (.ref 56), some (.ref 1), some (.int 0)], [], Wd (va_up (va_up (va_up (va_up (va_up (va_up (va_up (va_up f 3584 (f 64)) 3588 (f 68)) 3590 (f 70)) 3591 (f 71)) 3592 (f 72)) 3594 (f 74)) 3596 (f 76)) 3598 (f 78)) fl (va_up (va_up (va_up (va_up (va_up (va_up (va_up g 57 (va_cpy (g 2) (g 57) 0 0 8)) 58 (va_cpy (g 3) (g 58) 0 0 8)) 59 (va_cpy (g 4) (g 59) 0 0 8)) 60 (va_cpy (g 5) (g 60) 0 0 3)) 61 (va_cpy (g 6) (g 61) 0 0 6)) 63 (va_cpy (g 8) (g 63) 0 0 3)) 64 (va_cpy (g 9) (g 64) 0 0 16)) gl hh v tx)) rfl ?_
  exact h

set_option maxRecDepth 20000 in
theorem b_yst_copy_56_1_169 (X : mm_X) (d : Nat) (f : Nat → Int32) (fl : Nat → Int64) (g : Nat → Nat → Int32) (gl : Nat → Nat → Int64) (hh : Nat → Nat → Option Nat) (v : Nat → Value) (tx : mm_W) (l2 : Int32)  (P : Option Value → mm_W → Prop)
    (h : ((6 ≤ l2) → P none (Wd f fl g gl hh v tx)) ∧
    ((¬ (6 ≤ l2)) → ((¬ (l2 < 0 ∨ 6 ≤ l2.toNatClampNeg)) ∧ ((¬ (l2 < 0 ∨ 6 ≤ l2.toNatClampNeg)) ∧ ((∀ o, ((hh 7) l2.toNatClampNeg) = some o → ∃ fs, (Wd f fl g gl hh v tx)[o]? = some (.inr (6, fs))) ∧ WP X (d) 45 (169, [some (.ref 56), some (.ref 1), some (.int (l2 + (1 : Int32)))], [], Wd f fl g gl (va_up hh 62 (va_up (hh 62) (l2.toNatClampNeg) ((hh 7) l2.toNatClampNeg))) v tx) P))))) :
    WP X (d) 45 (169, [some (.ref 56), some (.ref 1), some (.int l2)], [], Wd f fl g gl hh v tx) P := by
  refine WP.run hP_45 2 (c' := (172, [some (.ref 56), some (.ref 1), some (.int l2)], [.int 6, .int l2], Wd f fl g gl hh v tx)) rfl ?_
  refine WP.br hP_45 (q := 6 ≤ l2) (t := 193) (f := 175) (L := [some (.ref 56), some (.ref 1), some (.int l2)]) (st := []) (w := Wd f fl g gl hh v tx) rfl (fun c1 => ?_) (fun c1 => ?_)
  · have h2 := h.1 c1
    exact WP.ret hP_45 (r := none) (w' := Wd f fl g gl hh v tx) rfl h2
  · have h3 := h.2 c1
    refine WP.run hP_45 6 (c' := (185, [some (.ref 56), some (.ref 1), some (.int l2)], [.int l2, .ref 7, .int l2, .ref 62], Wd f fl g gl hh v tx)) rfl ?_
    refine WP.of (fun _ _ => Ex.aald4 hP_45 rfl (Wa_7 _ _ _ _ _ _ _) h3.1) ?_
    have h4 := h3.2
    refine WP.of (fun _ _ => Ex.aastV hP_45 (w2 := Wd f fl g gl (va_up hh 62 (va_up (hh 62) (l2.toNatClampNeg) ((hh 7) l2.toNatClampNeg))) v tx) rfl (Wa_62 _ _ _ _ _ _ _) h4.1 h4.2.1 (Ws_62 _ _ _ _ _ _ _ _)) ?_
    have h5 := h4.2
    have h6 := h5.2
    refine WP.run hP_45 2 (c' := (169, [some (.ref 56), some (.ref 1), some (.int (l2 + (1 : Int32)))], [], Wd f fl g gl (va_up hh 62 (va_up (hh 62) (l2.toNatClampNeg) ((hh 7) l2.toNatClampNeg))) v tx)) rfl ?_
    exact h6

set_option maxRecDepth 20000 in
theorem b_yst_copy_65_1_0 (X : mm_X) (d : Nat) (f : Nat → Int32) (fl : Nat → Int64) (g : Nat → Nat → Int32) (gl : Nat → Nat → Int64) (hh : Nat → Nat → Option Nat) (v : Nat → Value) (tx : mm_W)   (P : Option Value → mm_W → Prop)
    (h : WP X (d) 45 (169, [some (.ref 65), some (.ref 1), some (.int 0)], [], Wd (va_up (va_up (va_up (va_up (va_up (va_up (va_up (va_up f 4160 (f 64)) 4164 (f 68)) 4166 (f 70)) 4167 (f 71)) 4168 (f 72)) 4170 (f 74)) 4172 (f 76)) 4174 (f 78)) fl (va_up (va_up (va_up (va_up (va_up (va_up (va_up g 66 (va_cpy (g 2) (g 66) 0 0 8)) 67 (va_cpy (g 3) (g 67) 0 0 8)) 68 (va_cpy (g 4) (g 68) 0 0 8)) 69 (va_cpy (g 5) (g 69) 0 0 3)) 70 (va_cpy (g 6) (g 70) 0 0 6)) 72 (va_cpy (g 8) (g 72) 0 0 3)) 73 (va_cpy (g 9) (g 73) 0 0 16)) gl hh v tx) P) :
    WP X (d) 45 (0, [some (.ref 65), some (.ref 1), none], [], Wd f fl g gl hh v tx) P := by
  refine WP.run hP_45 39 (c' := (76, [some (.ref 65), some (.ref 1), none], [.int 8, .int 0, .ref 66, .int 0, .ref 2], Wd (va_up (va_up (va_up (va_up (va_up (va_up (va_up (va_up f 4160 (f 64)) 4164 (f 68)) 4166 (f 70)) 4167 (f 71)) 4168 (f 72)) 4170 (f 74)) 4172 (f 76)) 4174 (f 78)) fl g gl hh v tx)) rfl ?_
  refine WP.of (fun _ _ => Ex.acopy hP_45 (w2 := Wd (va_up (va_up (va_up (va_up (va_up (va_up (va_up (va_up f 4160 (f 64)) 4164 (f 68)) 4166 (f 70)) 4167 (f 71)) 4168 (f 72)) 4170 (f 74)) 4172 (f 76)) 4174 (f 78)) fl (va_up g 66 (va_cpy (g 2) (g 66) 0 0 8)) gl hh v tx) rfl rfl (Wa_2 _ _ _ _ _ _ _) (Wa_66 _ _ _ _ _ _ _) (by decide) (Ws_66 _ _ _ _ _ _ _ _)) ?_
  refine WP.run hP_45 7 (c' := (91, [some (.ref 65), some (.ref 1), none], [.int 8, .int 0, .ref 67, .int 0, .ref 3], Wd (va_up (va_up (va_up (va_up (va_up (va_up (va_up (va_up f 4160 (f 64)) 4164 (f 68)) 4166 (f 70)) 4167 (f 71)) 4168 (f 72)) 4170 (f 74)) 4172 (f 76)) 4174 (f 78)) fl (va_up g 66 (va_cpy (g 2) (g 66) 0 0 8)) gl hh v tx)) rfl ?_
  refine WP.of (fun _ _ => Ex.acopy hP_45 (w2 := Wd (va_up (va_up (va_up (va_up (va_up (va_up (va_up (va_up f 4160 (f 64)) 4164 (f 68)) 4166 (f 70)) 4167 (f 71)) 4168 (f 72)) 4170 (f 74)) 4172 (f 76)) 4174 (f 78)) fl (va_up (va_up g 66 (va_cpy (g 2) (g 66) 0 0 8)) 67 (va_cpy (g 3) (g 67) 0 0 8)) gl hh v tx) rfl rfl (Wa_3 _ _ _ _ _ _ _) (Wa_67 _ _ _ _ _ _ _) (by decide) (Ws_67 _ _ _ _ _ _ _ _)) ?_
  refine WP.run hP_45 7 (c' := (106, [some (.ref 65), some (.ref 1), none], [.int 8, .int 0, .ref 68, .int 0, .ref 4], Wd (va_up (va_up (va_up (va_up (va_up (va_up (va_up (va_up f 4160 (f 64)) 4164 (f 68)) 4166 (f 70)) 4167 (f 71)) 4168 (f 72)) 4170 (f 74)) 4172 (f 76)) 4174 (f 78)) fl (va_up (va_up g 66 (va_cpy (g 2) (g 66) 0 0 8)) 67 (va_cpy (g 3) (g 67) 0 0 8)) gl hh v tx)) rfl ?_
  refine WP.of (fun _ _ => Ex.acopy hP_45 (w2 := Wd (va_up (va_up (va_up (va_up (va_up (va_up (va_up (va_up f 4160 (f 64)) 4164 (f 68)) 4166 (f 70)) 4167 (f 71)) 4168 (f 72)) 4170 (f 74)) 4172 (f 76)) 4174 (f 78)) fl (va_up (va_up (va_up g 66 (va_cpy (g 2) (g 66) 0 0 8)) 67 (va_cpy (g 3) (g 67) 0 0 8)) 68 (va_cpy (g 4) (g 68) 0 0 8)) gl hh v tx) rfl rfl (Wa_4 _ _ _ _ _ _ _) (Wa_68 _ _ _ _ _ _ _) (by decide) (Ws_68 _ _ _ _ _ _ _ _)) ?_
  refine WP.run hP_45 7 (c' := (120, [some (.ref 65), some (.ref 1), none], [.int 3, .int 0, .ref 69, .int 0, .ref 5], Wd (va_up (va_up (va_up (va_up (va_up (va_up (va_up (va_up f 4160 (f 64)) 4164 (f 68)) 4166 (f 70)) 4167 (f 71)) 4168 (f 72)) 4170 (f 74)) 4172 (f 76)) 4174 (f 78)) fl (va_up (va_up (va_up g 66 (va_cpy (g 2) (g 66) 0 0 8)) 67 (va_cpy (g 3) (g 67) 0 0 8)) 68 (va_cpy (g 4) (g 68) 0 0 8)) gl hh v tx)) rfl ?_
  refine WP.of (fun _ _ => Ex.acopy hP_45 (w2 := Wd (va_up (va_up (va_up (va_up (va_up (va_up (va_up (va_up f 4160 (f 64)) 4164 (f 68)) 4166 (f 70)) 4167 (f 71)) 4168 (f 72)) 4170 (f 74)) 4172 (f 76)) 4174 (f 78)) fl (va_up (va_up (va_up (va_up g 66 (va_cpy (g 2) (g 66) 0 0 8)) 67 (va_cpy (g 3) (g 67) 0 0 8)) 68 (va_cpy (g 4) (g 68) 0 0 8)) 69 (va_cpy (g 5) (g 69) 0 0 3)) gl hh v tx) rfl rfl (Wa_5 _ _ _ _ _ _ _) (Wa_69 _ _ _ _ _ _ _) (by decide) (Ws_69 _ _ _ _ _ _ _ _)) ?_
  refine WP.run hP_45 7 (c' := (135, [some (.ref 65), some (.ref 1), none], [.int 6, .int 0, .ref 70, .int 0, .ref 6], Wd (va_up (va_up (va_up (va_up (va_up (va_up (va_up (va_up f 4160 (f 64)) 4164 (f 68)) 4166 (f 70)) 4167 (f 71)) 4168 (f 72)) 4170 (f 74)) 4172 (f 76)) 4174 (f 78)) fl (va_up (va_up (va_up (va_up g 66 (va_cpy (g 2) (g 66) 0 0 8)) 67 (va_cpy (g 3) (g 67) 0 0 8)) 68 (va_cpy (g 4) (g 68) 0 0 8)) 69 (va_cpy (g 5) (g 69) 0 0 3)) gl hh v tx)) rfl ?_
  refine WP.of (fun _ _ => Ex.acopy hP_45 (w2 := Wd (va_up (va_up (va_up (va_up (va_up (va_up (va_up (va_up f 4160 (f 64)) 4164 (f 68)) 4166 (f 70)) 4167 (f 71)) 4168 (f 72)) 4170 (f 74)) 4172 (f 76)) 4174 (f 78)) fl (va_up (va_up (va_up (va_up (va_up g 66 (va_cpy (g 2) (g 66) 0 0 8)) 67 (va_cpy (g 3) (g 67) 0 0 8)) 68 (va_cpy (g 4) (g 68) 0 0 8)) 69 (va_cpy (g 5) (g 69) 0 0 3)) 70 (va_cpy (g 6) (g 70) 0 0 6)) gl hh v tx) rfl rfl (Wa_6 _ _ _ _ _ _ _) (Wa_70 _ _ _ _ _ _ _) (by decide) (Ws_70 _ _ _ _ _ _ _ _)) ?_
  refine WP.run hP_45 7 (c' := (149, [some (.ref 65), some (.ref 1), none], [.int 3, .int 0, .ref 72, .int 0, .ref 8], Wd (va_up (va_up (va_up (va_up (va_up (va_up (va_up (va_up f 4160 (f 64)) 4164 (f 68)) 4166 (f 70)) 4167 (f 71)) 4168 (f 72)) 4170 (f 74)) 4172 (f 76)) 4174 (f 78)) fl (va_up (va_up (va_up (va_up (va_up g 66 (va_cpy (g 2) (g 66) 0 0 8)) 67 (va_cpy (g 3) (g 67) 0 0 8)) 68 (va_cpy (g 4) (g 68) 0 0 8)) 69 (va_cpy (g 5) (g 69) 0 0 3)) 70 (va_cpy (g 6) (g 70) 0 0 6)) gl hh v tx)) rfl ?_
  refine WP.of (fun _ _ => Ex.acopy hP_45 (w2 := Wd (va_up (va_up (va_up (va_up (va_up (va_up (va_up (va_up f 4160 (f 64)) 4164 (f 68)) 4166 (f 70)) 4167 (f 71)) 4168 (f 72)) 4170 (f 74)) 4172 (f 76)) 4174 (f 78)) fl (va_up (va_up (va_up (va_up (va_up (va_up g 66 (va_cpy (g 2) (g 66) 0 0 8)) 67 (va_cpy (g 3) (g 67) 0 0 8)) 68 (va_cpy (g 4) (g 68) 0 0 8)) 69 (va_cpy (g 5) (g 69) 0 0 3)) 70 (va_cpy (g 6) (g 70) 0 0 6)) 72 (va_cpy (g 8) (g 72) 0 0 3)) gl hh v tx) rfl rfl (Wa_8 _ _ _ _ _ _ _) (Wa_72 _ _ _ _ _ _ _) (by decide) (Ws_72 _ _ _ _ _ _ _ _)) ?_
  refine WP.run hP_45 7 (c' := (164, [some (.ref 65), some (.ref 1), none], [.int 16, .int 0, .ref 73, .int 0, .ref 9], Wd (va_up (va_up (va_up (va_up (va_up (va_up (va_up (va_up f 4160 (f 64)) 4164 (f 68)) 4166 (f 70)) 4167 (f 71)) 4168 (f 72)) 4170 (f 74)) 4172 (f 76)) 4174 (f 78)) fl (va_up (va_up (va_up (va_up (va_up (va_up g 66 (va_cpy (g 2) (g 66) 0 0 8)) 67 (va_cpy (g 3) (g 67) 0 0 8)) 68 (va_cpy (g 4) (g 68) 0 0 8)) 69 (va_cpy (g 5) (g 69) 0 0 3)) 70 (va_cpy (g 6) (g 70) 0 0 6)) 72 (va_cpy (g 8) (g 72) 0 0 3)) gl hh v tx)) rfl ?_
  refine WP.of (fun _ _ => Ex.acopy hP_45 (w2 := Wd (va_up (va_up (va_up (va_up (va_up (va_up (va_up (va_up f 4160 (f 64)) 4164 (f 68)) 4166 (f 70)) 4167 (f 71)) 4168 (f 72)) 4170 (f 74)) 4172 (f 76)) 4174 (f 78)) fl (va_up (va_up (va_up (va_up (va_up (va_up (va_up g 66 (va_cpy (g 2) (g 66) 0 0 8)) 67 (va_cpy (g 3) (g 67) 0 0 8)) 68 (va_cpy (g 4) (g 68) 0 0 8)) 69 (va_cpy (g 5) (g 69) 0 0 3)) 70 (va_cpy (g 6) (g 70) 0 0 6)) 72 (va_cpy (g 8) (g 72) 0 0 3)) 73 (va_cpy (g 9) (g 73) 0 0 16)) gl hh v tx) rfl rfl (Wa_9 _ _ _ _ _ _ _) (Wa_73 _ _ _ _ _ _ _) (by decide) (Ws_73 _ _ _ _ _ _ _ _)) ?_
  refine WP.run hP_45 2 (c' := (169, [some (.ref 65), some (.ref 1), some (.int 0)], [], Wd (va_up (va_up (va_up (va_up (va_up (va_up (va_up (va_up f 4160 (f 64)) 4164 (f 68)) 4166 (f 70)) 4167 (f 71)) 4168 (f 72)) 4170 (f 74)) 4172 (f 76)) 4174 (f 78)) fl (va_up (va_up (va_up (va_up (va_up (va_up (va_up g 66 (va_cpy (g 2) (g 66) 0 0 8)) 67 (va_cpy (g 3) (g 67) 0 0 8)) 68 (va_cpy (g 4) (g 68) 0 0 8)) 69 (va_cpy (g 5) (g 69) 0 0 3)) 70 (va_cpy (g 6) (g 70) 0 0 6)) 72 (va_cpy (g 8) (g 72) 0 0 3)) 73 (va_cpy (g 9) (g 73) 0 0 16)) gl hh v tx)) rfl ?_
  exact h

set_option maxRecDepth 20000 in
theorem b_yst_copy_65_1_169 (X : mm_X) (d : Nat) (f : Nat → Int32) (fl : Nat → Int64) (g : Nat → Nat → Int32) (gl : Nat → Nat → Int64) (hh : Nat → Nat → Option Nat) (v : Nat → Value) (tx : mm_W) (l2 : Int32)  (P : Option Value → mm_W → Prop)
    (h : ((6 ≤ l2) → P none (Wd f fl g gl hh v tx)) ∧
    ((¬ (6 ≤ l2)) → ((¬ (l2 < 0 ∨ 6 ≤ l2.toNatClampNeg)) ∧ ((¬ (l2 < 0 ∨ 6 ≤ l2.toNatClampNeg)) ∧ ((∀ o, ((hh 7) l2.toNatClampNeg) = some o → ∃ fs, (Wd f fl g gl hh v tx)[o]? = some (.inr (6, fs))) ∧ WP X (d) 45 (169, [some (.ref 65), some (.ref 1), some (.int (l2 + (1 : Int32)))], [], Wd f fl g gl (va_up hh 71 (va_up (hh 71) (l2.toNatClampNeg) ((hh 7) l2.toNatClampNeg))) v tx) P))))) :
    WP X (d) 45 (169, [some (.ref 65), some (.ref 1), some (.int l2)], [], Wd f fl g gl hh v tx) P := by
  refine WP.run hP_45 2 (c' := (172, [some (.ref 65), some (.ref 1), some (.int l2)], [.int 6, .int l2], Wd f fl g gl hh v tx)) rfl ?_
  refine WP.br hP_45 (q := 6 ≤ l2) (t := 193) (f := 175) (L := [some (.ref 65), some (.ref 1), some (.int l2)]) (st := []) (w := Wd f fl g gl hh v tx) rfl (fun c1 => ?_) (fun c1 => ?_)
  · have h2 := h.1 c1
    exact WP.ret hP_45 (r := none) (w' := Wd f fl g gl hh v tx) rfl h2
  · have h3 := h.2 c1
    refine WP.run hP_45 6 (c' := (185, [some (.ref 65), some (.ref 1), some (.int l2)], [.int l2, .ref 7, .int l2, .ref 71], Wd f fl g gl hh v tx)) rfl ?_
    refine WP.of (fun _ _ => Ex.aald4 hP_45 rfl (Wa_7 _ _ _ _ _ _ _) h3.1) ?_
    have h4 := h3.2
    refine WP.of (fun _ _ => Ex.aastV hP_45 (w2 := Wd f fl g gl (va_up hh 71 (va_up (hh 71) (l2.toNatClampNeg) ((hh 7) l2.toNatClampNeg))) v tx) rfl (Wa_71 _ _ _ _ _ _ _) h4.1 h4.2.1 (Ws_71 _ _ _ _ _ _ _ _)) ?_
    have h5 := h4.2
    have h6 := h5.2
    refine WP.run hP_45 2 (c' := (169, [some (.ref 65), some (.ref 1), some (.int (l2 + (1 : Int32)))], [], Wd f fl g gl (va_up hh 71 (va_up (hh 71) (l2.toNatClampNeg) ((hh 7) l2.toNatClampNeg))) v tx)) rfl ?_
    exact h6

set_option maxRecDepth 20000 in
theorem b_yst_copy_1_56_0 (X : mm_X) (d : Nat) (f : Nat → Int32) (fl : Nat → Int64) (g : Nat → Nat → Int32) (gl : Nat → Nat → Int64) (hh : Nat → Nat → Option Nat) (v : Nat → Value) (tx : mm_W)   (P : Option Value → mm_W → Prop)
    (h : WP X (d) 45 (169, [some (.ref 1), some (.ref 56), some (.int 0)], [], Wd (va_up (va_up (va_up (va_up (va_up (va_up (va_up (va_up f 64 (f 3584)) 68 (f 3588)) 70 (f 3590)) 71 (f 3591)) 72 (f 3592)) 74 (f 3594)) 76 (f 3596)) 78 (f 3598)) fl (va_up (va_up (va_up (va_up (va_up (va_up (va_up g 2 (va_cpy (g 57) (g 2) 0 0 8)) 3 (va_cpy (g 58) (g 3) 0 0 8)) 4 (va_cpy (g 59) (g 4) 0 0 8)) 5 (va_cpy (g 60) (g 5) 0 0 3)) 6 (va_cpy (g 61) (g 6) 0 0 6)) 8 (va_cpy (g 63) (g 8) 0 0 3)) 9 (va_cpy (g 64) (g 9) 0 0 16)) gl hh v tx) P) :
    WP X (d) 45 (0, [some (.ref 1), some (.ref 56), none], [], Wd f fl g gl hh v tx) P := by
  refine WP.run hP_45 39 (c' := (76, [some (.ref 1), some (.ref 56), none], [.int 8, .int 0, .ref 2, .int 0, .ref 57], Wd (va_up (va_up (va_up (va_up (va_up (va_up (va_up (va_up f 64 (f 3584)) 68 (f 3588)) 70 (f 3590)) 71 (f 3591)) 72 (f 3592)) 74 (f 3594)) 76 (f 3596)) 78 (f 3598)) fl g gl hh v tx)) rfl ?_
  refine WP.of (fun _ _ => Ex.acopy hP_45 (w2 := Wd (va_up (va_up (va_up (va_up (va_up (va_up (va_up (va_up f 64 (f 3584)) 68 (f 3588)) 70 (f 3590)) 71 (f 3591)) 72 (f 3592)) 74 (f 3594)) 76 (f 3596)) 78 (f 3598)) fl (va_up g 2 (va_cpy (g 57) (g 2) 0 0 8)) gl hh v tx) rfl rfl (Wa_57 _ _ _ _ _ _ _) (Wa_2 _ _ _ _ _ _ _) (by decide) (Ws_2 _ _ _ _ _ _ _ _)) ?_
  refine WP.run hP_45 7 (c' := (91, [some (.ref 1), some (.ref 56), none], [.int 8, .int 0, .ref 3, .int 0, .ref 58], Wd (va_up (va_up (va_up (va_up (va_up (va_up (va_up (va_up f 64 (f 3584)) 68 (f 3588)) 70 (f 3590)) 71 (f 3591)) 72 (f 3592)) 74 (f 3594)) 76 (f 3596)) 78 (f 3598)) fl (va_up g 2 (va_cpy (g 57) (g 2) 0 0 8)) gl hh v tx)) rfl ?_
  refine WP.of (fun _ _ => Ex.acopy hP_45 (w2 := Wd (va_up (va_up (va_up (va_up (va_up (va_up (va_up (va_up f 64 (f 3584)) 68 (f 3588)) 70 (f 3590)) 71 (f 3591)) 72 (f 3592)) 74 (f 3594)) 76 (f 3596)) 78 (f 3598)) fl (va_up (va_up g 2 (va_cpy (g 57) (g 2) 0 0 8)) 3 (va_cpy (g 58) (g 3) 0 0 8)) gl hh v tx) rfl rfl (Wa_58 _ _ _ _ _ _ _) (Wa_3 _ _ _ _ _ _ _) (by decide) (Ws_3 _ _ _ _ _ _ _ _)) ?_
  refine WP.run hP_45 7 (c' := (106, [some (.ref 1), some (.ref 56), none], [.int 8, .int 0, .ref 4, .int 0, .ref 59], Wd (va_up (va_up (va_up (va_up (va_up (va_up (va_up (va_up f 64 (f 3584)) 68 (f 3588)) 70 (f 3590)) 71 (f 3591)) 72 (f 3592)) 74 (f 3594)) 76 (f 3596)) 78 (f 3598)) fl (va_up (va_up g 2 (va_cpy (g 57) (g 2) 0 0 8)) 3 (va_cpy (g 58) (g 3) 0 0 8)) gl hh v tx)) rfl ?_
  refine WP.of (fun _ _ => Ex.acopy hP_45 (w2 := Wd (va_up (va_up (va_up (va_up (va_up (va_up (va_up (va_up f 64 (f 3584)) 68 (f 3588)) 70 (f 3590)) 71 (f 3591)) 72 (f 3592)) 74 (f 3594)) 76 (f 3596)) 78 (f 3598)) fl (va_up (va_up (va_up g 2 (va_cpy (g 57) (g 2) 0 0 8)) 3 (va_cpy (g 58) (g 3) 0 0 8)) 4 (va_cpy (g 59) (g 4) 0 0 8)) gl hh v tx) rfl rfl (Wa_59 _ _ _ _ _ _ _) (Wa_4 _ _ _ _ _ _ _) (by decide) (Ws_4 _ _ _ _ _ _ _ _)) ?_
  refine WP.run hP_45 7 (c' := (120, [some (.ref 1), some (.ref 56), none], [.int 3, .int 0, .ref 5, .int 0, .ref 60], Wd (va_up (va_up (va_up (va_up (va_up (va_up (va_up (va_up f 64 (f 3584)) 68 (f 3588)) 70 (f 3590)) 71 (f 3591)) 72 (f 3592)) 74 (f 3594)) 76 (f 3596)) 78 (f 3598)) fl (va_up (va_up (va_up g 2 (va_cpy (g 57) (g 2) 0 0 8)) 3 (va_cpy (g 58) (g 3) 0 0 8)) 4 (va_cpy (g 59) (g 4) 0 0 8)) gl hh v tx)) rfl ?_
  refine WP.of (fun _ _ => Ex.acopy hP_45 (w2 := Wd (va_up (va_up (va_up (va_up (va_up (va_up (va_up (va_up f 64 (f 3584)) 68 (f 3588)) 70 (f 3590)) 71 (f 3591)) 72 (f 3592)) 74 (f 3594)) 76 (f 3596)) 78 (f 3598)) fl (va_up (va_up (va_up (va_up g 2 (va_cpy (g 57) (g 2) 0 0 8)) 3 (va_cpy (g 58) (g 3) 0 0 8)) 4 (va_cpy (g 59) (g 4) 0 0 8)) 5 (va_cpy (g 60) (g 5) 0 0 3)) gl hh v tx) rfl rfl (Wa_60 _ _ _ _ _ _ _) (Wa_5 _ _ _ _ _ _ _) (by decide) (Ws_5 _ _ _ _ _ _ _ _)) ?_
  refine WP.run hP_45 7 (c' := (135, [some (.ref 1), some (.ref 56), none], [.int 6, .int 0, .ref 6, .int 0, .ref 61], Wd (va_up (va_up (va_up (va_up (va_up (va_up (va_up (va_up f 64 (f 3584)) 68 (f 3588)) 70 (f 3590)) 71 (f 3591)) 72 (f 3592)) 74 (f 3594)) 76 (f 3596)) 78 (f 3598)) fl (va_up (va_up (va_up (va_up g 2 (va_cpy (g 57) (g 2) 0 0 8)) 3 (va_cpy (g 58) (g 3) 0 0 8)) 4 (va_cpy (g 59) (g 4) 0 0 8)) 5 (va_cpy (g 60) (g 5) 0 0 3)) gl hh v tx)) rfl ?_
  refine WP.of (fun _ _ => Ex.acopy hP_45 (w2 := Wd (va_up (va_up (va_up (va_up (va_up (va_up (va_up (va_up f 64 (f 3584)) 68 (f 3588)) 70 (f 3590)) 71 (f 3591)) 72 (f 3592)) 74 (f 3594)) 76 (f 3596)) 78 (f 3598)) fl (va_up (va_up (va_up (va_up (va_up g 2 (va_cpy (g 57) (g 2) 0 0 8)) 3 (va_cpy (g 58) (g 3) 0 0 8)) 4 (va_cpy (g 59) (g 4) 0 0 8)) 5 (va_cpy (g 60) (g 5) 0 0 3)) 6 (va_cpy (g 61) (g 6) 0 0 6)) gl hh v tx) rfl rfl (Wa_61 _ _ _ _ _ _ _) (Wa_6 _ _ _ _ _ _ _) (by decide) (Ws_6 _ _ _ _ _ _ _ _)) ?_
  refine WP.run hP_45 7 (c' := (149, [some (.ref 1), some (.ref 56), none], [.int 3, .int 0, .ref 8, .int 0, .ref 63], Wd (va_up (va_up (va_up (va_up (va_up (va_up (va_up (va_up f 64 (f 3584)) 68 (f 3588)) 70 (f 3590)) 71 (f 3591)) 72 (f 3592)) 74 (f 3594)) 76 (f 3596)) 78 (f 3598)) fl (va_up (va_up (va_up (va_up (va_up g 2 (va_cpy (g 57) (g 2) 0 0 8)) 3 (va_cpy (g 58) (g 3) 0 0 8)) 4 (va_cpy (g 59) (g 4) 0 0 8)) 5 (va_cpy (g 60) (g 5) 0 0 3)) 6 (va_cpy (g 61) (g 6) 0 0 6)) gl hh v tx)) rfl ?_
  refine WP.of (fun _ _ => Ex.acopy hP_45 (w2 := Wd (va_up (va_up (va_up (va_up (va_up (va_up (va_up (va_up f 64 (f 3584)) 68 (f 3588)) 70 (f 3590)) 71 (f 3591)) 72 (f 3592)) 74 (f 3594)) 76 (f 3596)) 78 (f 3598)) fl (va_up (va_up (va_up (va_up (va_up (va_up g 2 (va_cpy (g 57) (g 2) 0 0 8)) 3 (va_cpy (g 58) (g 3) 0 0 8)) 4 (va_cpy (g 59) (g 4) 0 0 8)) 5 (va_cpy (g 60) (g 5) 0 0 3)) 6 (va_cpy (g 61) (g 6) 0 0 6)) 8 (va_cpy (g 63) (g 8) 0 0 3)) gl hh v tx) rfl rfl (Wa_63 _ _ _ _ _ _ _) (Wa_8 _ _ _ _ _ _ _) (by decide) (Ws_8 _ _ _ _ _ _ _ _)) ?_
  refine WP.run hP_45 7 (c' := (164, [some (.ref 1), some (.ref 56), none], [.int 16, .int 0, .ref 9, .int 0, .ref 64], Wd (va_up (va_up (va_up (va_up (va_up (va_up (va_up (va_up f 64 (f 3584)) 68 (f 3588)) 70 (f 3590)) 71 (f 3591)) 72 (f 3592)) 74 (f 3594)) 76 (f 3596)) 78 (f 3598)) fl (va_up (va_up (va_up (va_up (va_up (va_up g 2 (va_cpy (g 57) (g 2) 0 0 8)) 3 (va_cpy (g 58) (g 3) 0 0 8)) 4 (va_cpy (g 59) (g 4) 0 0 8)) 5 (va_cpy (g 60) (g 5) 0 0 3)) 6 (va_cpy (g 61) (g 6) 0 0 6)) 8 (va_cpy (g 63) (g 8) 0 0 3)) gl hh v tx)) rfl ?_
  refine WP.of (fun _ _ => Ex.acopy hP_45 (w2 := Wd (va_up (va_up (va_up (va_up (va_up (va_up (va_up (va_up f 64 (f 3584)) 68 (f 3588)) 70 (f 3590)) 71 (f 3591)) 72 (f 3592)) 74 (f 3594)) 76 (f 3596)) 78 (f 3598)) fl (va_up (va_up (va_up (va_up (va_up (va_up (va_up g 2 (va_cpy (g 57) (g 2) 0 0 8)) 3 (va_cpy (g 58) (g 3) 0 0 8)) 4 (va_cpy (g 59) (g 4) 0 0 8)) 5 (va_cpy (g 60) (g 5) 0 0 3)) 6 (va_cpy (g 61) (g 6) 0 0 6)) 8 (va_cpy (g 63) (g 8) 0 0 3)) 9 (va_cpy (g 64) (g 9) 0 0 16)) gl hh v tx) rfl rfl (Wa_64 _ _ _ _ _ _ _) (Wa_9 _ _ _ _ _ _ _) (by decide) (Ws_9 _ _ _ _ _ _ _ _)) ?_
  refine WP.run hP_45 2 (c' := (169, [some (.ref 1), some (.ref 56), some (.int 0)], [], Wd (va_up (va_up (va_up (va_up (va_up (va_up (va_up (va_up f 64 (f 3584)) 68 (f 3588)) 70 (f 3590)) 71 (f 3591)) 72 (f 3592)) 74 (f 3594)) 76 (f 3596)) 78 (f 3598)) fl (va_up (va_up (va_up (va_up (va_up (va_up (va_up g 2 (va_cpy (g 57) (g 2) 0 0 8)) 3 (va_cpy (g 58) (g 3) 0 0 8)) 4 (va_cpy (g 59) (g 4) 0 0 8)) 5 (va_cpy (g 60) (g 5) 0 0 3)) 6 (va_cpy (g 61) (g 6) 0 0 6)) 8 (va_cpy (g 63) (g 8) 0 0 3)) 9 (va_cpy (g 64) (g 9) 0 0 16)) gl hh v tx)) rfl ?_
  exact h

set_option maxRecDepth 20000 in
theorem b_yst_copy_1_56_169 (X : mm_X) (d : Nat) (f : Nat → Int32) (fl : Nat → Int64) (g : Nat → Nat → Int32) (gl : Nat → Nat → Int64) (hh : Nat → Nat → Option Nat) (v : Nat → Value) (tx : mm_W) (l2 : Int32)  (P : Option Value → mm_W → Prop)
    (h : ((6 ≤ l2) → P none (Wd f fl g gl hh v tx)) ∧
    ((¬ (6 ≤ l2)) → ((¬ (l2 < 0 ∨ 6 ≤ l2.toNatClampNeg)) ∧ ((¬ (l2 < 0 ∨ 6 ≤ l2.toNatClampNeg)) ∧ ((∀ o, ((hh 62) l2.toNatClampNeg) = some o → ∃ fs, (Wd f fl g gl hh v tx)[o]? = some (.inr (6, fs))) ∧ WP X (d) 45 (169, [some (.ref 1), some (.ref 56), some (.int (l2 + (1 : Int32)))], [], Wd f fl g gl (va_up hh 7 (va_up (hh 7) (l2.toNatClampNeg) ((hh 62) l2.toNatClampNeg))) v tx) P))))) :
    WP X (d) 45 (169, [some (.ref 1), some (.ref 56), some (.int l2)], [], Wd f fl g gl hh v tx) P := by
  refine WP.run hP_45 2 (c' := (172, [some (.ref 1), some (.ref 56), some (.int l2)], [.int 6, .int l2], Wd f fl g gl hh v tx)) rfl ?_
  refine WP.br hP_45 (q := 6 ≤ l2) (t := 193) (f := 175) (L := [some (.ref 1), some (.ref 56), some (.int l2)]) (st := []) (w := Wd f fl g gl hh v tx) rfl (fun c1 => ?_) (fun c1 => ?_)
  · have h2 := h.1 c1
    exact WP.ret hP_45 (r := none) (w' := Wd f fl g gl hh v tx) rfl h2
  · have h3 := h.2 c1
    refine WP.run hP_45 6 (c' := (185, [some (.ref 1), some (.ref 56), some (.int l2)], [.int l2, .ref 62, .int l2, .ref 7], Wd f fl g gl hh v tx)) rfl ?_
    refine WP.of (fun _ _ => Ex.aald4 hP_45 rfl (Wa_62 _ _ _ _ _ _ _) h3.1) ?_
    have h4 := h3.2
    refine WP.of (fun _ _ => Ex.aastV hP_45 (w2 := Wd f fl g gl (va_up hh 7 (va_up (hh 7) (l2.toNatClampNeg) ((hh 62) l2.toNatClampNeg))) v tx) rfl (Wa_7 _ _ _ _ _ _ _) h4.1 h4.2.1 (Ws_7 _ _ _ _ _ _ _ _)) ?_
    have h5 := h4.2
    have h6 := h5.2
    refine WP.run hP_45 2 (c' := (169, [some (.ref 1), some (.ref 56), some (.int (l2 + (1 : Int32)))], [], Wd f fl g gl (va_up hh 7 (va_up (hh 7) (l2.toNatClampNeg) ((hh 62) l2.toNatClampNeg))) v tx)) rfl ?_
    exact h6

set_option maxRecDepth 20000 in
theorem b_yst_copy_1_65_0 (X : mm_X) (d : Nat) (f : Nat → Int32) (fl : Nat → Int64) (g : Nat → Nat → Int32) (gl : Nat → Nat → Int64) (hh : Nat → Nat → Option Nat) (v : Nat → Value) (tx : mm_W)   (P : Option Value → mm_W → Prop)
    (h : WP X (d) 45 (169, [some (.ref 1), some (.ref 65), some (.int 0)], [], Wd (va_up (va_up (va_up (va_up (va_up (va_up (va_up (va_up f 64 (f 4160)) 68 (f 4164)) 70 (f 4166)) 71 (f 4167)) 72 (f 4168)) 74 (f 4170)) 76 (f 4172)) 78 (f 4174)) fl (va_up (va_up (va_up (va_up (va_up (va_up (va_up g 2 (va_cpy (g 66) (g 2) 0 0 8)) 3 (va_cpy (g 67) (g 3) 0 0 8)) 4 (va_cpy (g 68) (g 4) 0 0 8)) 5 (va_cpy (g 69) (g 5) 0 0 3)) 6 (va_cpy (g 70) (g 6) 0 0 6)) 8 (va_cpy (g 72) (g 8) 0 0 3)) 9 (va_cpy (g 73) (g 9) 0 0 16)) gl hh v tx) P) :
    WP X (d) 45 (0, [some (.ref 1), some (.ref 65), none], [], Wd f fl g gl hh v tx) P := by
  refine WP.run hP_45 39 (c' := (76, [some (.ref 1), some (.ref 65), none], [.int 8, .int 0, .ref 2, .int 0, .ref 66], Wd (va_up (va_up (va_up (va_up (va_up (va_up (va_up (va_up f 64 (f 4160)) 68 (f 4164)) 70 (f 4166)) 71 (f 4167)) 72 (f 4168)) 74 (f 4170)) 76 (f 4172)) 78 (f 4174)) fl g gl hh v tx)) rfl ?_
  refine WP.of (fun _ _ => Ex.acopy hP_45 (w2 := Wd (va_up (va_up (va_up (va_up (va_up (va_up (va_up (va_up f 64 (f 4160)) 68 (f 4164)) 70 (f 4166)) 71 (f 4167)) 72 (f 4168)) 74 (f 4170)) 76 (f 4172)) 78 (f 4174)) fl (va_up g 2 (va_cpy (g 66) (g 2) 0 0 8)) gl hh v tx) rfl rfl (Wa_66 _ _ _ _ _ _ _) (Wa_2 _ _ _ _ _ _ _) (by decide) (Ws_2 _ _ _ _ _ _ _ _)) ?_
  refine WP.run hP_45 7 (c' := (91, [some (.ref 1), some (.ref 65), none], [.int 8, .int 0, .ref 3, .int 0, .ref 67], Wd (va_up (va_up (va_up (va_up (va_up (va_up (va_up (va_up f 64 (f 4160)) 68 (f 4164)) 70 (f 4166)) 71 (f 4167)) 72 (f 4168)) 74 (f 4170)) 76 (f 4172)) 78 (f 4174)) fl (va_up g 2 (va_cpy (g 66) (g 2) 0 0 8)) gl hh v tx)) rfl ?_
  refine WP.of (fun _ _ => Ex.acopy hP_45 (w2 := Wd (va_up (va_up (va_up (va_up (va_up (va_up (va_up (va_up f 64 (f 4160)) 68 (f 4164)) 70 (f 4166)) 71 (f 4167)) 72 (f 4168)) 74 (f 4170)) 76 (f 4172)) 78 (f 4174)) fl (va_up (va_up g 2 (va_cpy (g 66) (g 2) 0 0 8)) 3 (va_cpy (g 67) (g 3) 0 0 8)) gl hh v tx) rfl rfl (Wa_67 _ _ _ _ _ _ _) (Wa_3 _ _ _ _ _ _ _) (by decide) (Ws_3 _ _ _ _ _ _ _ _)) ?_
  refine WP.run hP_45 7 (c' := (106, [some (.ref 1), some (.ref 65), none], [.int 8, .int 0, .ref 4, .int 0, .ref 68], Wd (va_up (va_up (va_up (va_up (va_up (va_up (va_up (va_up f 64 (f 4160)) 68 (f 4164)) 70 (f 4166)) 71 (f 4167)) 72 (f 4168)) 74 (f 4170)) 76 (f 4172)) 78 (f 4174)) fl (va_up (va_up g 2 (va_cpy (g 66) (g 2) 0 0 8)) 3 (va_cpy (g 67) (g 3) 0 0 8)) gl hh v tx)) rfl ?_
  refine WP.of (fun _ _ => Ex.acopy hP_45 (w2 := Wd (va_up (va_up (va_up (va_up (va_up (va_up (va_up (va_up f 64 (f 4160)) 68 (f 4164)) 70 (f 4166)) 71 (f 4167)) 72 (f 4168)) 74 (f 4170)) 76 (f 4172)) 78 (f 4174)) fl (va_up (va_up (va_up g 2 (va_cpy (g 66) (g 2) 0 0 8)) 3 (va_cpy (g 67) (g 3) 0 0 8)) 4 (va_cpy (g 68) (g 4) 0 0 8)) gl hh v tx) rfl rfl (Wa_68 _ _ _ _ _ _ _) (Wa_4 _ _ _ _ _ _ _) (by decide) (Ws_4 _ _ _ _ _ _ _ _)) ?_
  refine WP.run hP_45 7 (c' := (120, [some (.ref 1), some (.ref 65), none], [.int 3, .int 0, .ref 5, .int 0, .ref 69], Wd (va_up (va_up (va_up (va_up (va_up (va_up (va_up (va_up f 64 (f 4160)) 68 (f 4164)) 70 (f 4166)) 71 (f 4167)) 72 (f 4168)) 74 (f 4170)) 76 (f 4172)) 78 (f 4174)) fl (va_up (va_up (va_up g 2 (va_cpy (g 66) (g 2) 0 0 8)) 3 (va_cpy (g 67) (g 3) 0 0 8)) 4 (va_cpy (g 68) (g 4) 0 0 8)) gl hh v tx)) rfl ?_
  refine WP.of (fun _ _ => Ex.acopy hP_45 (w2 := Wd (va_up (va_up (va_up (va_up (va_up (va_up (va_up (va_up f 64 (f 4160)) 68 (f 4164)) 70 (f 4166)) 71 (f 4167)) 72 (f 4168)) 74 (f 4170)) 76 (f 4172)) 78 (f 4174)) fl (va_up (va_up (va_up (va_up g 2 (va_cpy (g 66) (g 2) 0 0 8)) 3 (va_cpy (g 67) (g 3) 0 0 8)) 4 (va_cpy (g 68) (g 4) 0 0 8)) 5 (va_cpy (g 69) (g 5) 0 0 3)) gl hh v tx) rfl rfl (Wa_69 _ _ _ _ _ _ _) (Wa_5 _ _ _ _ _ _ _) (by decide) (Ws_5 _ _ _ _ _ _ _ _)) ?_
  refine WP.run hP_45 7 (c' := (135, [some (.ref 1), some (.ref 65), none], [.int 6, .int 0, .ref 6, .int 0, .ref 70], Wd (va_up (va_up (va_up (va_up (va_up (va_up (va_up (va_up f 64 (f 4160)) 68 (f 4164)) 70 (f 4166)) 71 (f 4167)) 72 (f 4168)) 74 (f 4170)) 76 (f 4172)) 78 (f 4174)) fl (va_up (va_up (va_up (va_up g 2 (va_cpy (g 66) (g 2) 0 0 8)) 3 (va_cpy (g 67) (g 3) 0 0 8)) 4 (va_cpy (g 68) (g 4) 0 0 8)) 5 (va_cpy (g 69) (g 5) 0 0 3)) gl hh v tx)) rfl ?_
  refine WP.of (fun _ _ => Ex.acopy hP_45 (w2 := Wd (va_up (va_up (va_up (va_up (va_up (va_up (va_up (va_up f 64 (f 4160)) 68 (f 4164)) 70 (f 4166)) 71 (f 4167)) 72 (f 4168)) 74 (f 4170)) 76 (f 4172)) 78 (f 4174)) fl (va_up (va_up (va_up (va_up (va_up g 2 (va_cpy (g 66) (g 2) 0 0 8)) 3 (va_cpy (g 67) (g 3) 0 0 8)) 4 (va_cpy (g 68) (g 4) 0 0 8)) 5 (va_cpy (g 69) (g 5) 0 0 3)) 6 (va_cpy (g 70) (g 6) 0 0 6)) gl hh v tx) rfl rfl (Wa_70 _ _ _ _ _ _ _) (Wa_6 _ _ _ _ _ _ _) (by decide) (Ws_6 _ _ _ _ _ _ _ _)) ?_
  refine WP.run hP_45 7 (c' := (149, [some (.ref 1), some (.ref 65), none], [.int 3, .int 0, .ref 8, .int 0, .ref 72], Wd (va_up (va_up (va_up (va_up (va_up (va_up (va_up (va_up f 64 (f 4160)) 68 (f 4164)) 70 (f 4166)) 71 (f 4167)) 72 (f 4168)) 74 (f 4170)) 76 (f 4172)) 78 (f 4174)) fl (va_up (va_up (va_up (va_up (va_up g 2 (va_cpy (g 66) (g 2) 0 0 8)) 3 (va_cpy (g 67) (g 3) 0 0 8)) 4 (va_cpy (g 68) (g 4) 0 0 8)) 5 (va_cpy (g 69) (g 5) 0 0 3)) 6 (va_cpy (g 70) (g 6) 0 0 6)) gl hh v tx)) rfl ?_
  refine WP.of (fun _ _ => Ex.acopy hP_45 (w2 := Wd (va_up (va_up (va_up (va_up (va_up (va_up (va_up (va_up f 64 (f 4160)) 68 (f 4164)) 70 (f 4166)) 71 (f 4167)) 72 (f 4168)) 74 (f 4170)) 76 (f 4172)) 78 (f 4174)) fl (va_up (va_up (va_up (va_up (va_up (va_up g 2 (va_cpy (g 66) (g 2) 0 0 8)) 3 (va_cpy (g 67) (g 3) 0 0 8)) 4 (va_cpy (g 68) (g 4) 0 0 8)) 5 (va_cpy (g 69) (g 5) 0 0 3)) 6 (va_cpy (g 70) (g 6) 0 0 6)) 8 (va_cpy (g 72) (g 8) 0 0 3)) gl hh v tx) rfl rfl (Wa_72 _ _ _ _ _ _ _) (Wa_8 _ _ _ _ _ _ _) (by decide) (Ws_8 _ _ _ _ _ _ _ _)) ?_
  refine WP.run hP_45 7 (c' := (164, [some (.ref 1), some (.ref 65), none], [.int 16, .int 0, .ref 9, .int 0, .ref 73], Wd (va_up (va_up (va_up (va_up (va_up (va_up (va_up (va_up f 64 (f 4160)) 68 (f 4164)) 70 (f 4166)) 71 (f 4167)) 72 (f 4168)) 74 (f 4170)) 76 (f 4172)) 78 (f 4174)) fl (va_up (va_up (va_up (va_up (va_up (va_up g 2 (va_cpy (g 66) (g 2) 0 0 8)) 3 (va_cpy (g 67) (g 3) 0 0 8)) 4 (va_cpy (g 68) (g 4) 0 0 8)) 5 (va_cpy (g 69) (g 5) 0 0 3)) 6 (va_cpy (g 70) (g 6) 0 0 6)) 8 (va_cpy (g 72) (g 8) 0 0 3)) gl hh v tx)) rfl ?_
  refine WP.of (fun _ _ => Ex.acopy hP_45 (w2 := Wd (va_up (va_up (va_up (va_up (va_up (va_up (va_up (va_up f 64 (f 4160)) 68 (f 4164)) 70 (f 4166)) 71 (f 4167)) 72 (f 4168)) 74 (f 4170)) 76 (f 4172)) 78 (f 4174)) fl (va_up (va_up (va_up (va_up (va_up (va_up (va_up g 2 (va_cpy (g 66) (g 2) 0 0 8)) 3 (va_cpy (g 67) (g 3) 0 0 8)) 4 (va_cpy (g 68) (g 4) 0 0 8)) 5 (va_cpy (g 69) (g 5) 0 0 3)) 6 (va_cpy (g 70) (g 6) 0 0 6)) 8 (va_cpy (g 72) (g 8) 0 0 3)) 9 (va_cpy (g 73) (g 9) 0 0 16)) gl hh v tx) rfl rfl (Wa_73 _ _ _ _ _ _ _) (Wa_9 _ _ _ _ _ _ _) (by decide) (Ws_9 _ _ _ _ _ _ _ _)) ?_
  refine WP.run hP_45 2 (c' := (169, [some (.ref 1), some (.ref 65), some (.int 0)], [], Wd (va_up (va_up (va_up (va_up (va_up (va_up (va_up (va_up f 64 (f 4160)) 68 (f 4164)) 70 (f 4166)) 71 (f 4167)) 72 (f 4168)) 74 (f 4170)) 76 (f 4172)) 78 (f 4174)) fl (va_up (va_up (va_up (va_up (va_up (va_up (va_up g 2 (va_cpy (g 66) (g 2) 0 0 8)) 3 (va_cpy (g 67) (g 3) 0 0 8)) 4 (va_cpy (g 68) (g 4) 0 0 8)) 5 (va_cpy (g 69) (g 5) 0 0 3)) 6 (va_cpy (g 70) (g 6) 0 0 6)) 8 (va_cpy (g 72) (g 8) 0 0 3)) 9 (va_cpy (g 73) (g 9) 0 0 16)) gl hh v tx)) rfl ?_
  exact h

set_option maxRecDepth 20000 in
theorem b_yst_copy_1_65_169 (X : mm_X) (d : Nat) (f : Nat → Int32) (fl : Nat → Int64) (g : Nat → Nat → Int32) (gl : Nat → Nat → Int64) (hh : Nat → Nat → Option Nat) (v : Nat → Value) (tx : mm_W) (l2 : Int32)  (P : Option Value → mm_W → Prop)
    (h : ((6 ≤ l2) → P none (Wd f fl g gl hh v tx)) ∧
    ((¬ (6 ≤ l2)) → ((¬ (l2 < 0 ∨ 6 ≤ l2.toNatClampNeg)) ∧ ((¬ (l2 < 0 ∨ 6 ≤ l2.toNatClampNeg)) ∧ ((∀ o, ((hh 71) l2.toNatClampNeg) = some o → ∃ fs, (Wd f fl g gl hh v tx)[o]? = some (.inr (6, fs))) ∧ WP X (d) 45 (169, [some (.ref 1), some (.ref 65), some (.int (l2 + (1 : Int32)))], [], Wd f fl g gl (va_up hh 7 (va_up (hh 7) (l2.toNatClampNeg) ((hh 71) l2.toNatClampNeg))) v tx) P))))) :
    WP X (d) 45 (169, [some (.ref 1), some (.ref 65), some (.int l2)], [], Wd f fl g gl hh v tx) P := by
  refine WP.run hP_45 2 (c' := (172, [some (.ref 1), some (.ref 65), some (.int l2)], [.int 6, .int l2], Wd f fl g gl hh v tx)) rfl ?_
  refine WP.br hP_45 (q := 6 ≤ l2) (t := 193) (f := 175) (L := [some (.ref 1), some (.ref 65), some (.int l2)]) (st := []) (w := Wd f fl g gl hh v tx) rfl (fun c1 => ?_) (fun c1 => ?_)
  · have h2 := h.1 c1
    exact WP.ret hP_45 (r := none) (w' := Wd f fl g gl hh v tx) rfl h2
  · have h3 := h.2 c1
    refine WP.run hP_45 6 (c' := (185, [some (.ref 1), some (.ref 65), some (.int l2)], [.int l2, .ref 71, .int l2, .ref 7], Wd f fl g gl hh v tx)) rfl ?_
    refine WP.of (fun _ _ => Ex.aald4 hP_45 rfl (Wa_71 _ _ _ _ _ _ _) h3.1) ?_
    have h4 := h3.2
    refine WP.of (fun _ _ => Ex.aastV hP_45 (w2 := Wd f fl g gl (va_up hh 7 (va_up (hh 7) (l2.toNatClampNeg) ((hh 71) l2.toNatClampNeg))) v tx) rfl (Wa_7 _ _ _ _ _ _ _) h4.1 h4.2.1 (Ws_7 _ _ _ _ _ _ _ _)) ?_
    have h5 := h4.2
    have h6 := h5.2
    refine WP.run hP_45 2 (c' := (169, [some (.ref 1), some (.ref 65), some (.int (l2 + (1 : Int32)))], [], Wd f fl g gl (va_up hh 7 (va_up (hh 7) (l2.toNatClampNeg) ((hh 71) l2.toNatClampNeg))) v tx)) rfl ?_
    exact h6

set_option maxRecDepth 20000 in
theorem b_m_image_0 (X : mm_X) (d : Nat) (f : Nat → Int32) (fl : Nat → Int64) (g : Nat → Nat → Int32) (gl : Nat → Nat → Int64) (hh : Nat → Nat → Option Nat) (v : Nat → Value) (tx : mm_W) (p0 : Int32)  (P : Option Value → mm_W → Prop)
    (h : (((0 : Int32) ≤ p0 ∧ p0 ≤ (1 : Int32)) → WP X (d + 1) 127 (17, [some (.ref 74), some (.int p0), some (.int 0)], [], Wd f fl g gl hh v tx) P) ∧
    ((¬ ((0 : Int32) ≤ p0 ∧ p0 ≤ (1 : Int32))) → P (some (.int (-1))) (Wd (va_up f 4736 (-1 : Int32)) fl (va_up g 75 (upd (g 75) (1) (((g 75) 1) + (1 : Int32)))) gl hh v tx))) :
    WP X (d + 1) 127 (0, [some (.ref 74), some (.int p0), none], [], Wd f fl g gl hh v tx) P := by
  refine WP.run hP_127 3 (c' := (3, [some (.ref 74), some (.int p0), none], [.int 1, .int 0, .int p0], Wd f fl g gl hh v tx)) rfl ?_
  refine WP.call hP_127 hP_116 (as := [.int p0, .int 0, .int 1]) (pc' := 6) (L' := [some (.ref 74), some (.int p0), none]) (st' := []) (w1 := Wd f fl g gl hh v tx) rfl ⟨Nat.le_of_ble_eq_true rfl, Nat.le_of_ble_eq_true rfl⟩ rfl (b_lies_m X (d) f fl g gl hh v tx p0 0 1 _ ?_)
  refine ⟨fun c1 => ?_, fun c1 => ?_⟩
  · have h2 := h.1 c1
    refine WP.run hP_127 2 (c' := (16, [some (.ref 74), some (.int p0), none], [.int 0], Wd f fl g gl hh v tx)) rfl ?_
    refine WP.run hP_127 1 (c' := (17, [some (.ref 74), some (.int p0), some (.int 0)], [], Wd f fl g gl hh v tx)) rfl ?_
    exact h2
  · have h3 := h.2 c1
    refine WP.run hP_127 3 (c' := (11, [some (.ref 74), some (.int p0), none], [.int (-1), .ref 74], Wd f fl g gl hh v tx)) rfl ?_
    refine WP.call hP_127 hP_119 (as := [.ref 74, .int (-1)]) (pc' := 14) (L' := [some (.ref 74), some (.int p0), none]) (st' := []) (w1 := Wd f fl g gl hh v tx) rfl ⟨Nat.le_of_ble_eq_true rfl, Nat.le_of_ble_eq_true rfl⟩ rfl (b_m_refuses_0 X (d) f fl g gl hh v tx (-1) _ ?_)
    refine ⟨by decide, ?_⟩
    refine ⟨by decide, ?_⟩
    exact WP.retI hP_127 rfl rfl h3

set_option maxRecDepth 20000 in
theorem b_m_image_17 (X : mm_X) (d : Nat) (f : Nat → Int32) (fl : Nat → Int64) (g : Nat → Nat → Int32) (gl : Nat → Nat → Int64) (hh : Nat → Nat → Option Nat) (v : Nat → Value) (tx : mm_W) (l1 : Int32) (l2 : Int32)  (P : Option Value → mm_W → Prop)
    (h : ((5667 ≤ l2) → ((¬ (l1 < 0 ∨ 2 ≤ l1.toNatClampNeg)) ∧ P (some (.int 0)) (Wd (va_up f 4736 0) fl (va_up g 78 (upd (g 78) (l1.toNatClampNeg) (vp_nar .boolean (1 : Int32)))) gl hh v tx))) ∧
    ((¬ (5667 ≤ l2)) → ((¬ (l2 < 0 ∨ 5667 ≤ l2.toNatClampNeg)) ∧ ((¬ ((((5667 : Int32) * l1) + l2) < 0 ∨ 11334 ≤ (((5667 : Int32) * l1) + l2).toNatClampNeg)) ∧ WP X (d + 1) 127 (17, [some (.ref 74), some (.int l1), some (.int (l2 + (1 : Int32)))], [], Wd f fl (va_up g 77 (upd (g 77) ((((5667 : Int32) * l1) + l2).toNatClampNeg) ((g 76) l2.toNatClampNeg))) gl hh v tx) P)))) :
    WP X (d + 1) 127 (17, [some (.ref 74), some (.int l1), some (.int l2)], [], Wd f fl g gl hh v tx) P := by
  refine WP.run hP_127 2 (c' := (21, [some (.ref 74), some (.int l1), some (.int l2)], [.int 5667, .int l2], Wd f fl g gl hh v tx)) rfl ?_
  refine WP.br hP_127 (q := 5667 ≤ l2) (t := 48) (f := 24) (L := [some (.ref 74), some (.int l1), some (.int l2)]) (st := []) (w := Wd f fl g gl hh v tx) rfl (fun c1 => ?_) (fun c1 => ?_)
  · have h2 := h.1 c1
    refine WP.run hP_127 4 (c' := (54, [some (.ref 74), some (.int l1), none], [.int 1, .int l1, .ref 78], Wd f fl g gl hh v tx)) rfl ?_
    refine WP.of (fun _ _ => Ex.zast hP_127 (w2 := Wd f fl (va_up g 78 (upd (g 78) (l1.toNatClampNeg) (vp_nar .boolean (1 : Int32)))) gl hh v tx) rfl (Wa_78 _ _ _ _ _ _ _) h2.1 (Ws_78 _ _ _ _ _ _ _ _)) ?_
    have h3 := h2.2
    refine WP.run hP_127 2 (c' := (57, [some (.ref 74), some (.int l1), none], [.int 0, .ref 74], Wd f fl (va_up g 78 (upd (g 78) (l1.toNatClampNeg) (vp_nar .boolean (1 : Int32)))) gl hh v tx)) rfl ?_
    refine WP.call hP_127 hP_120 (as := [.ref 74, .int 0]) (pc' := 60) (L' := [some (.ref 74), some (.int l1), none]) (st' := []) (w1 := Wd f fl (va_up g 78 (upd (g 78) (l1.toNatClampNeg) (vp_nar .boolean (1 : Int32)))) gl hh v tx) rfl ⟨Nat.le_of_ble_eq_true rfl, Nat.le_of_ble_eq_true rfl⟩ rfl (b_m_good_0 X (d) f fl (va_up g 78 (upd (g 78) (l1.toNatClampNeg) (vp_nar .boolean (1 : Int32)))) gl hh v tx 0 _ ?_)
    exact WP.retI hP_127 rfl rfl h3
  · have h4 := h.2 c1
    refine WP.run hP_127 10 (c' := (40, [some (.ref 74), some (.int l1), some (.int l2)], [.int l2, .ref 76, .int (((5667 : Int32) * l1) + l2), .ref 77], Wd f fl g gl hh v tx)) rfl ?_
    refine WP.of (fun _ _ => Ex.iald hP_127 rfl (Wa_76 _ _ _ _ _ _ _) h4.1) ?_
    have h5 := h4.2
    refine WP.of (fun _ _ => Ex.iast hP_127 (w2 := Wd f fl (va_up g 77 (upd (g 77) ((((5667 : Int32) * l1) + l2).toNatClampNeg) ((g 76) l2.toNatClampNeg))) gl hh v tx) rfl (Wa_77 _ _ _ _ _ _ _) h5.1 (Ws_77 _ _ _ _ _ _ _ _)) ?_
    have h6 := h5.2
    refine WP.run hP_127 2 (c' := (17, [some (.ref 74), some (.int l1), some (.int (l2 + (1 : Int32)))], [], Wd f fl (va_up g 77 (upd (g 77) ((((5667 : Int32) * l1) + l2).toNatClampNeg) ((g 76) l2.toNatClampNeg))) gl hh v tx)) rfl ?_
    exact h6

set_option maxRecDepth 20000 in
theorem b_m_back_0 (X : mm_X) (d : Nat) (f : Nat → Int32) (fl : Nat → Int64) (g : Nat → Nat → Int32) (gl : Nat → Nat → Int64) (hh : Nat → Nat → Option Nat) (v : Nat → Value) (tx : mm_W) (p0 : Int32)  (P : Option Value → mm_W → Prop)
    (h : (((0 : Int32) ≤ p0 ∧ p0 ≤ (1 : Int32)) → ((¬ (p0 < 0 ∨ 2 ≤ p0.toNatClampNeg)) ∧ (((¬ ((g 78) p0.toNatClampNeg) = 0) → WP X (d + 1) 128 (33, [some (.ref 74), some (.int p0), some (.int 0)], [], Wd f fl g gl hh v tx) P) ∧
      ((((g 78) p0.toNatClampNeg) = 0) → P (some (.int (-2))) (Wd (va_up f 4736 (-2 : Int32)) fl (va_up g 75 (upd (g 75) (2) (((g 75) 2) + (1 : Int32)))) gl hh v tx))))) ∧
    ((¬ ((0 : Int32) ≤ p0 ∧ p0 ≤ (1 : Int32))) → P (some (.int (-1))) (Wd (va_up f 4736 (-1 : Int32)) fl (va_up g 75 (upd (g 75) (1) (((g 75) 1) + (1 : Int32)))) gl hh v tx))) :
    WP X (d + 1) 128 (0, [some (.ref 74), some (.int p0), none], [], Wd f fl g gl hh v tx) P := by
  refine WP.run hP_128 3 (c' := (3, [some (.ref 74), some (.int p0), none], [.int 1, .int 0, .int p0], Wd f fl g gl hh v tx)) rfl ?_
  refine WP.call hP_128 hP_116 (as := [.int p0, .int 0, .int 1]) (pc' := 6) (L' := [some (.ref 74), some (.int p0), none]) (st' := []) (w1 := Wd f fl g gl hh v tx) rfl ⟨Nat.le_of_ble_eq_true rfl, Nat.le_of_ble_eq_true rfl⟩ rfl (b_lies_m X (d) f fl g gl hh v tx p0 0 1 _ ?_)
  refine ⟨fun c1 => ?_, fun c1 => ?_⟩
  · have h2 := h.1 c1
    refine WP.run hP_128 4 (c' := (20, [some (.ref 74), some (.int p0), none], [.int p0, .ref 78], Wd f fl g gl hh v tx)) rfl ?_
    refine WP.of (fun _ _ => Ex.zald hP_128 rfl (Wa_78 _ _ _ _ _ _ _) h2.1) ?_
    have h3 := h2.2
    refine WP.br hP_128 (q := ¬ ((g 78) p0.toNatClampNeg) = 0) (t := 31) (f := 24) (L := [some (.ref 74), some (.int p0), none]) (st := []) (w := Wd f fl g gl hh v tx) rfl (fun c4 => ?_) (fun c4 => ?_)
    · have h5 := h3.1 c4
      refine WP.run hP_128 1 (c' := (32, [some (.ref 74), some (.int p0), none], [.int 0], Wd f fl g gl hh v tx)) rfl ?_
      refine WP.run hP_128 1 (c' := (33, [some (.ref 74), some (.int p0), some (.int 0)], [], Wd f fl g gl hh v tx)) rfl ?_
      exact h5
    · have h6 := h3.2 (Classical.not_not.mp c4)
      refine WP.run hP_128 2 (c' := (27, [some (.ref 74), some (.int p0), none], [.int (-2), .ref 74], Wd f fl g gl hh v tx)) rfl ?_
      refine WP.call hP_128 hP_119 (as := [.ref 74, .int (-2)]) (pc' := 30) (L' := [some (.ref 74), some (.int p0), none]) (st' := []) (w1 := Wd f fl g gl hh v tx) rfl ⟨Nat.le_of_ble_eq_true rfl, Nat.le_of_ble_eq_true rfl⟩ rfl (b_m_refuses_0 X (d) f fl g gl hh v tx (-2) _ ?_)
      refine ⟨by decide, ?_⟩
      refine ⟨by decide, ?_⟩
      exact WP.retI hP_128 rfl rfl h6
  · have h7 := h.2 c1
    refine WP.run hP_128 3 (c' := (11, [some (.ref 74), some (.int p0), none], [.int (-1), .ref 74], Wd f fl g gl hh v tx)) rfl ?_
    refine WP.call hP_128 hP_119 (as := [.ref 74, .int (-1)]) (pc' := 14) (L' := [some (.ref 74), some (.int p0), none]) (st' := []) (w1 := Wd f fl g gl hh v tx) rfl ⟨Nat.le_of_ble_eq_true rfl, Nat.le_of_ble_eq_true rfl⟩ rfl (b_m_refuses_0 X (d) f fl g gl hh v tx (-1) _ ?_)
    refine ⟨by decide, ?_⟩
    refine ⟨by decide, ?_⟩
    exact WP.retI hP_128 rfl rfl h7

set_option maxRecDepth 20000 in
theorem b_m_back_33 (X : mm_X) (d : Nat) (f : Nat → Int32) (fl : Nat → Int64) (g : Nat → Nat → Int32) (gl : Nat → Nat → Int64) (hh : Nat → Nat → Option Nat) (v : Nat → Value) (tx : mm_W) (l1 : Int32) (l2 : Int32)  (P : Option Value → mm_W → Prop)
    (h : ((5667 ≤ l2) → P (some (.int 0)) (Wd (va_up (va_up f 4777 0) 4736 0) fl g gl hh v tx)) ∧
    ((¬ (5667 ≤ l2)) → ((¬ ((((5667 : Int32) * l1) + l2) < 0 ∨ 11334 ≤ (((5667 : Int32) * l1) + l2).toNatClampNeg)) ∧ ((¬ (l2 < 0 ∨ 5667 ≤ l2.toNatClampNeg)) ∧ WP X (d + 2) 128 (33, [some (.ref 74), some (.int l1), some (.int (l2 + (1 : Int32)))], [], Wd f fl (va_up g 76 (upd (g 76) (l2.toNatClampNeg) ((g 77) (((5667 : Int32) * l1) + l2).toNatClampNeg))) gl hh v tx) P)))) :
    WP X (d + 2) 128 (33, [some (.ref 74), some (.int l1), some (.int l2)], [], Wd f fl g gl hh v tx) P := by
  refine WP.run hP_128 2 (c' := (37, [some (.ref 74), some (.int l1), some (.int l2)], [.int 5667, .int l2], Wd f fl g gl hh v tx)) rfl ?_
  refine WP.br hP_128 (q := 5667 ≤ l2) (t := 64) (f := 40) (L := [some (.ref 74), some (.int l1), some (.int l2)]) (st := []) (w := Wd f fl g gl hh v tx) rfl (fun c1 => ?_) (fun c1 => ?_)
  · have h2 := h.1 c1
    refine WP.run hP_128 2 (c' := (66, [some (.ref 74), none, none], [.int 0, .ref 74], Wd f fl g gl hh v tx)) rfl ?_
    refine WP.call hP_128 hP_121 (as := [.ref 74, .int 0]) (pc' := 69) (L' := [some (.ref 74), none, none]) (st' := []) (w1 := Wd f fl g gl hh v tx) rfl ⟨Nat.le_of_ble_eq_true rfl, Nat.le_of_ble_eq_true rfl⟩ rfl (b_m_settled_0 X (d) f fl g gl hh v tx 0 _ ?_)
    exact WP.retI hP_128 rfl rfl h2
  · have h3 := h.2 c1
    refine WP.run hP_128 10 (c' := (56, [some (.ref 74), some (.int l1), some (.int l2)], [.int (((5667 : Int32) * l1) + l2), .ref 77, .int l2, .ref 76], Wd f fl g gl hh v tx)) rfl ?_
    refine WP.of (fun _ _ => Ex.iald hP_128 rfl (Wa_77 _ _ _ _ _ _ _) h3.1) ?_
    have h4 := h3.2
    refine WP.of (fun _ _ => Ex.iast hP_128 (w2 := Wd f fl (va_up g 76 (upd (g 76) (l2.toNatClampNeg) ((g 77) (((5667 : Int32) * l1) + l2).toNatClampNeg))) gl hh v tx) rfl (Wa_76 _ _ _ _ _ _ _) h4.1 (Ws_76 _ _ _ _ _ _ _ _)) ?_
    have h5 := h4.2
    refine WP.run hP_128 2 (c' := (33, [some (.ref 74), some (.int l1), some (.int (l2 + (1 : Int32)))], [], Wd f fl (va_up g 76 (upd (g 76) (l2.toNatClampNeg) ((g 77) (((5667 : Int32) * l1) + l2).toNatClampNeg))) gl hh v tx)) rfl ?_
    exact h5

set_option maxRecDepth 20000 in
theorem b_x_image0_0 (X : mm_X) (d : Nat) (f : Nat → Int32) (fl : Nat → Int64) (g : Nat → Nat → Int32) (gl : Nat → Nat → Int64) (hh : Nat → Nat → Option Nat) (v : Nat → Value) (tx : mm_W) (p0 : Int32)  (P : Option Value → mm_W → Prop)
    (h : ((0 ≤ p0 ∧ p0 < (2 : Int32)) → ((¬ (p0 < 0 ∨ 2 ≤ p0.toNatClampNeg)) ∧ (((mm_rf ((hh 28) p0.toNatClampNeg)) = .ref 56) ∧ WP X (d + 1) 45 (0, [some (.ref 56), some (.ref 1), none], [], Wd f fl g gl hh v tx) (fun rv w2 => WP X (d + 2) 95 (27, [some (.ref 0), some (.int p0)], rv.toList ++ [], w2) P)))) ∧
    ((¬ (0 ≤ p0 ∧ p0 < (2 : Int32))) → P (some (.int (-1))) (Wd (va_up f 18 (-1 : Int32)) fl (va_up g 55 (upd (g 55) (1) (((g 55) 1) + (1 : Int32)))) gl hh v tx))) :
    WP X (d + 2) 95 (0, [some (.ref 0), some (.int p0)], [], Wd f fl g gl hh v tx) P := by
  refine WP.run hP_95 2 (c' := (2, [some (.ref 0), some (.int p0)], [.int 2, .int p0], Wd f fl g gl hh v tx)) rfl ?_
  refine WP.call hP_95 hP_99 (as := [.int p0, .int 2]) (pc' := 5) (L' := [some (.ref 0), some (.int p0)]) (st' := []) (w1 := Wd f fl g gl hh v tx) rfl ⟨Nat.le_of_ble_eq_true rfl, Nat.le_of_ble_eq_true rfl⟩ rfl (b_within_m X (d + 1) f fl g gl hh v tx p0 2 _ ?_)
  refine ⟨fun c1 => ?_, fun c1 => ?_⟩
  · have h2 := h.1 c1
    refine WP.run hP_95 4 (c' := (19, [some (.ref 0), some (.int p0)], [.int p0, .ref 28], Wd f fl g gl hh v tx)) rfl ?_
    refine WP.of (fun _ _ => Ex.aald5 hP_95 rfl (Wa_28 _ _ _ _ _ _ _) h2.1) ?_
    have h3 := h2.2
    rw [h3.1]
    have h4 := h3.2
    refine WP.run hP_95 2 (c' := (24, [some (.ref 0), some (.int p0)], [.ref 1, .ref 56], Wd f fl g gl hh v tx)) rfl ?_
    refine WP.call hP_95 hP_45 (as := [.ref 56, .ref 1]) (pc' := 27) (L' := [some (.ref 0), some (.int p0)]) (st' := []) (w1 := Wd f fl g gl hh v tx) rfl ⟨Nat.le_of_ble_eq_true rfl, Nat.le_of_ble_eq_true rfl⟩ rfl ?_
    exact h4
  · have h5 := h.2 c1
    refine WP.run hP_95 3 (c' := (10, [some (.ref 0), some (.int p0)], [.int (-1), .ref 0], Wd f fl g gl hh v tx)) rfl ?_
    refine WP.call hP_95 hP_101 (as := [.ref 0, .int (-1)]) (pc' := 13) (L' := [some (.ref 0), some (.int p0)]) (st' := []) (w1 := Wd f fl g gl hh v tx) rfl ⟨Nat.le_of_ble_eq_true rfl, Nat.le_of_ble_eq_true rfl⟩ rfl (b_x_refused_0 X (d) f fl g gl hh v tx (-1) _ ?_)
    refine ⟨fun c6 => ?_, fun c => absurd c (by decide)⟩
    refine ⟨by decide, ?_⟩
    refine ⟨by decide, ?_⟩
    exact WP.retI hP_95 rfl rfl h5

set_option maxRecDepth 20000 in
theorem b_x_image0_27 (X : mm_X) (d : Nat) (f : Nat → Int32) (fl : Nat → Int64) (g : Nat → Nat → Int32) (gl : Nat → Nat → Int64) (hh : Nat → Nat → Option Nat) (v : Nat → Value) (tx : mm_W) (l1 : Int32)  (P : Option Value → mm_W → Prop)
    (h : (¬ (l1 < 0 ∨ 2 ≤ l1.toNatClampNeg)) ∧ P (some (.int 0)) (Wd (va_up f 18 0) fl (va_up g 29 (upd (g 29) (l1.toNatClampNeg) (vp_nar .boolean (1 : Int32)))) gl hh v tx)) :
    WP X (d + 1) 95 (27, [some (.ref 0), some (.int l1)], [], Wd f fl g gl hh v tx) P := by
  refine WP.run hP_95 4 (c' := (33, [some (.ref 0), some (.int l1)], [.int 1, .int l1, .ref 29], Wd f fl g gl hh v tx)) rfl ?_
  refine WP.of (fun _ _ => Ex.zast hP_95 (w2 := Wd f fl (va_up g 29 (upd (g 29) (l1.toNatClampNeg) (vp_nar .boolean (1 : Int32)))) gl hh v tx) rfl (Wa_29 _ _ _ _ _ _ _) h.1 (Ws_29 _ _ _ _ _ _ _ _)) ?_
  have h1 := h.2
  refine WP.run hP_95 2 (c' := (36, [some (.ref 0), some (.int l1)], [.int 0, .ref 0], Wd f fl (va_up g 29 (upd (g 29) (l1.toNatClampNeg) (vp_nar .boolean (1 : Int32)))) gl hh v tx)) rfl ?_
  refine WP.call hP_95 hP_100 (as := [.ref 0, .int 0]) (pc' := 39) (L' := [some (.ref 0), some (.int l1)]) (st' := []) (w1 := Wd f fl (va_up g 29 (upd (g 29) (l1.toNatClampNeg) (vp_nar .boolean (1 : Int32)))) gl hh v tx) rfl ⟨Nat.le_of_ble_eq_true rfl, Nat.le_of_ble_eq_true rfl⟩ rfl (b_x_accepted_0 X (d) f fl (va_up g 29 (upd (g 29) (l1.toNatClampNeg) (vp_nar .boolean (1 : Int32)))) gl hh v tx 0 _ ?_)
  exact WP.retI hP_95 rfl rfl h1

set_option maxRecDepth 20000 in
theorem b_x_back0_0 (X : mm_X) (d : Nat) (f : Nat → Int32) (fl : Nat → Int64) (g : Nat → Nat → Int32) (gl : Nat → Nat → Int64) (hh : Nat → Nat → Option Nat) (v : Nat → Value) (tx : mm_W) (p0 : Int32)  (P : Option Value → mm_W → Prop)
    (h : ((0 ≤ p0 ∧ p0 < (2 : Int32)) → ((¬ (p0 < 0 ∨ 2 ≤ p0.toNatClampNeg)) ∧ (((¬ ((g 29) p0.toNatClampNeg) = 0) → ((¬ (p0 < 0 ∨ 2 ≤ p0.toNatClampNeg)) ∧ (((mm_rf ((hh 28) p0.toNatClampNeg)) = .ref 56) ∧ WP X (d + 1) 45 (0, [some (.ref 1), some (.ref 56), none], [], Wd f fl g gl hh v tx) (fun rv w2 => WP X (d + 2) 96 (43, [some (.ref 0), some (.int p0)], rv.toList ++ [], w2) P)))) ∧
      ((((g 29) p0.toNatClampNeg) = 0) → P (some (.int (-2))) (Wd (va_up f 18 (-2 : Int32)) fl (va_up g 55 (upd (g 55) (2) (((g 55) 2) + (1 : Int32)))) gl hh v tx))))) ∧
    ((¬ (0 ≤ p0 ∧ p0 < (2 : Int32))) → P (some (.int (-1))) (Wd (va_up f 18 (-1 : Int32)) fl (va_up g 55 (upd (g 55) (1) (((g 55) 1) + (1 : Int32)))) gl hh v tx))) :
    WP X (d + 2) 96 (0, [some (.ref 0), some (.int p0)], [], Wd f fl g gl hh v tx) P := by
  refine WP.run hP_96 2 (c' := (2, [some (.ref 0), some (.int p0)], [.int 2, .int p0], Wd f fl g gl hh v tx)) rfl ?_
  refine WP.call hP_96 hP_99 (as := [.int p0, .int 2]) (pc' := 5) (L' := [some (.ref 0), some (.int p0)]) (st' := []) (w1 := Wd f fl g gl hh v tx) rfl ⟨Nat.le_of_ble_eq_true rfl, Nat.le_of_ble_eq_true rfl⟩ rfl (b_within_m X (d + 1) f fl g gl hh v tx p0 2 _ ?_)
  refine ⟨fun c1 => ?_, fun c1 => ?_⟩
  · have h2 := h.1 c1
    refine WP.run hP_96 4 (c' := (19, [some (.ref 0), some (.int p0)], [.int p0, .ref 29], Wd f fl g gl hh v tx)) rfl ?_
    refine WP.of (fun _ _ => Ex.zald hP_96 rfl (Wa_29 _ _ _ _ _ _ _) h2.1) ?_
    have h3 := h2.2
    refine WP.br hP_96 (q := ¬ ((g 29) p0.toNatClampNeg) = 0) (t := 30) (f := 23) (L := [some (.ref 0), some (.int p0)]) (st := []) (w := Wd f fl g gl hh v tx) rfl (fun c4 => ?_) (fun c4 => ?_)
    · have h5 := h3.1 c4
      refine WP.run hP_96 5 (c' := (39, [some (.ref 0), some (.int p0)], [.int p0, .ref 28, .ref 1], Wd f fl g gl hh v tx)) rfl ?_
      refine WP.of (fun _ _ => Ex.aald5 hP_96 rfl (Wa_28 _ _ _ _ _ _ _) h5.1) ?_
      have h6 := h5.2
      rw [h6.1]
      have h7 := h6.2
      refine WP.call hP_96 hP_45 (as := [.ref 1, .ref 56]) (pc' := 43) (L' := [some (.ref 0), some (.int p0)]) (st' := []) (w1 := Wd f fl g gl hh v tx) rfl ⟨Nat.le_of_ble_eq_true rfl, Nat.le_of_ble_eq_true rfl⟩ rfl ?_
      exact h7
    · have h8 := h3.2 (Classical.not_not.mp c4)
      refine WP.run hP_96 2 (c' := (26, [some (.ref 0), some (.int p0)], [.int (-2), .ref 0], Wd f fl g gl hh v tx)) rfl ?_
      refine WP.call hP_96 hP_101 (as := [.ref 0, .int (-2)]) (pc' := 29) (L' := [some (.ref 0), some (.int p0)]) (st' := []) (w1 := Wd f fl g gl hh v tx) rfl ⟨Nat.le_of_ble_eq_true rfl, Nat.le_of_ble_eq_true rfl⟩ rfl (b_x_refused_0 X (d) f fl g gl hh v tx (-2) _ ?_)
      refine ⟨fun c9 => ?_, fun c => absurd c (by decide)⟩
      refine ⟨by decide, ?_⟩
      refine ⟨by decide, ?_⟩
      exact WP.retI hP_96 rfl rfl h8
  · have h10 := h.2 c1
    refine WP.run hP_96 3 (c' := (10, [some (.ref 0), some (.int p0)], [.int (-1), .ref 0], Wd f fl g gl hh v tx)) rfl ?_
    refine WP.call hP_96 hP_101 (as := [.ref 0, .int (-1)]) (pc' := 13) (L' := [some (.ref 0), some (.int p0)]) (st' := []) (w1 := Wd f fl g gl hh v tx) rfl ⟨Nat.le_of_ble_eq_true rfl, Nat.le_of_ble_eq_true rfl⟩ rfl (b_x_refused_0 X (d) f fl g gl hh v tx (-1) _ ?_)
    refine ⟨fun c11 => ?_, fun c => absurd c (by decide)⟩
    refine ⟨by decide, ?_⟩
    refine ⟨by decide, ?_⟩
    exact WP.retI hP_96 rfl rfl h10

set_option maxRecDepth 20000 in
theorem b_x_back0_43 (X : mm_X) (d : Nat) (f : Nat → Int32) (fl : Nat → Int64) (g : Nat → Nat → Int32) (gl : Nat → Nat → Int64) (hh : Nat → Nat → Option Nat) (v : Nat → Value) (tx : mm_W) (l1 : Int32)  (P : Option Value → mm_W → Prop)
    (h : P (some (.int 0)) (Wd (va_up (va_up f 78 0) 18 0) fl g gl hh v tx)) :
    WP X (d + 1) 96 (43, [some (.ref 0), some (.int l1)], [], Wd f fl g gl hh v tx) P := by
  refine WP.run hP_96 6 (c' := (53, [some (.ref 0), some (.int l1)], [.int 0, .ref 0], Wd (va_up f 78 0) fl g gl hh v tx)) rfl ?_
  refine WP.call hP_96 hP_100 (as := [.ref 0, .int 0]) (pc' := 56) (L' := [some (.ref 0), some (.int l1)]) (st' := []) (w1 := Wd (va_up f 78 0) fl g gl hh v tx) rfl ⟨Nat.le_of_ble_eq_true rfl, Nat.le_of_ble_eq_true rfl⟩ rfl (b_x_accepted_0 X (d) (va_up f 78 0) fl g gl hh v tx 0 _ ?_)
  exact WP.retI hP_96 rfl rfl h

set_option maxRecDepth 20000 in
theorem b_x_image1_0 (X : mm_X) (d : Nat) (f : Nat → Int32) (fl : Nat → Int64) (g : Nat → Nat → Int32) (gl : Nat → Nat → Int64) (hh : Nat → Nat → Option Nat) (v : Nat → Value) (tx : mm_W) (p0 : Int32)  (P : Option Value → mm_W → Prop)
    (h : ((0 ≤ p0 ∧ p0 < (2 : Int32)) → ((¬ (p0 < 0 ∨ 2 ≤ p0.toNatClampNeg)) ∧ (((mm_rf ((hh 28) p0.toNatClampNeg)) = .ref 65) ∧ WP X (d + 1) 45 (0, [some (.ref 65), some (.ref 1), none], [], Wd f fl g gl hh v tx) (fun rv w2 => WP X (d + 2) 95 (27, [some (.ref 0), some (.int p0)], rv.toList ++ [], w2) P)))) ∧
    ((¬ (0 ≤ p0 ∧ p0 < (2 : Int32))) → P (some (.int (-1))) (Wd (va_up f 18 (-1 : Int32)) fl (va_up g 55 (upd (g 55) (1) (((g 55) 1) + (1 : Int32)))) gl hh v tx))) :
    WP X (d + 2) 95 (0, [some (.ref 0), some (.int p0)], [], Wd f fl g gl hh v tx) P := by
  refine WP.run hP_95 2 (c' := (2, [some (.ref 0), some (.int p0)], [.int 2, .int p0], Wd f fl g gl hh v tx)) rfl ?_
  refine WP.call hP_95 hP_99 (as := [.int p0, .int 2]) (pc' := 5) (L' := [some (.ref 0), some (.int p0)]) (st' := []) (w1 := Wd f fl g gl hh v tx) rfl ⟨Nat.le_of_ble_eq_true rfl, Nat.le_of_ble_eq_true rfl⟩ rfl (b_within_m X (d + 1) f fl g gl hh v tx p0 2 _ ?_)
  refine ⟨fun c1 => ?_, fun c1 => ?_⟩
  · have h2 := h.1 c1
    refine WP.run hP_95 4 (c' := (19, [some (.ref 0), some (.int p0)], [.int p0, .ref 28], Wd f fl g gl hh v tx)) rfl ?_
    refine WP.of (fun _ _ => Ex.aald5 hP_95 rfl (Wa_28 _ _ _ _ _ _ _) h2.1) ?_
    have h3 := h2.2
    rw [h3.1]
    have h4 := h3.2
    refine WP.run hP_95 2 (c' := (24, [some (.ref 0), some (.int p0)], [.ref 1, .ref 65], Wd f fl g gl hh v tx)) rfl ?_
    refine WP.call hP_95 hP_45 (as := [.ref 65, .ref 1]) (pc' := 27) (L' := [some (.ref 0), some (.int p0)]) (st' := []) (w1 := Wd f fl g gl hh v tx) rfl ⟨Nat.le_of_ble_eq_true rfl, Nat.le_of_ble_eq_true rfl⟩ rfl ?_
    exact h4
  · have h5 := h.2 c1
    refine WP.run hP_95 3 (c' := (10, [some (.ref 0), some (.int p0)], [.int (-1), .ref 0], Wd f fl g gl hh v tx)) rfl ?_
    refine WP.call hP_95 hP_101 (as := [.ref 0, .int (-1)]) (pc' := 13) (L' := [some (.ref 0), some (.int p0)]) (st' := []) (w1 := Wd f fl g gl hh v tx) rfl ⟨Nat.le_of_ble_eq_true rfl, Nat.le_of_ble_eq_true rfl⟩ rfl (b_x_refused_0 X (d) f fl g gl hh v tx (-1) _ ?_)
    refine ⟨fun c6 => ?_, fun c => absurd c (by decide)⟩
    refine ⟨by decide, ?_⟩
    refine ⟨by decide, ?_⟩
    exact WP.retI hP_95 rfl rfl h5

set_option maxRecDepth 20000 in
theorem b_x_image1_27 (X : mm_X) (d : Nat) (f : Nat → Int32) (fl : Nat → Int64) (g : Nat → Nat → Int32) (gl : Nat → Nat → Int64) (hh : Nat → Nat → Option Nat) (v : Nat → Value) (tx : mm_W) (l1 : Int32)  (P : Option Value → mm_W → Prop)
    (h : (¬ (l1 < 0 ∨ 2 ≤ l1.toNatClampNeg)) ∧ P (some (.int 0)) (Wd (va_up f 18 0) fl (va_up g 29 (upd (g 29) (l1.toNatClampNeg) (vp_nar .boolean (1 : Int32)))) gl hh v tx)) :
    WP X (d + 1) 95 (27, [some (.ref 0), some (.int l1)], [], Wd f fl g gl hh v tx) P := by
  refine WP.run hP_95 4 (c' := (33, [some (.ref 0), some (.int l1)], [.int 1, .int l1, .ref 29], Wd f fl g gl hh v tx)) rfl ?_
  refine WP.of (fun _ _ => Ex.zast hP_95 (w2 := Wd f fl (va_up g 29 (upd (g 29) (l1.toNatClampNeg) (vp_nar .boolean (1 : Int32)))) gl hh v tx) rfl (Wa_29 _ _ _ _ _ _ _) h.1 (Ws_29 _ _ _ _ _ _ _ _)) ?_
  have h1 := h.2
  refine WP.run hP_95 2 (c' := (36, [some (.ref 0), some (.int l1)], [.int 0, .ref 0], Wd f fl (va_up g 29 (upd (g 29) (l1.toNatClampNeg) (vp_nar .boolean (1 : Int32)))) gl hh v tx)) rfl ?_
  refine WP.call hP_95 hP_100 (as := [.ref 0, .int 0]) (pc' := 39) (L' := [some (.ref 0), some (.int l1)]) (st' := []) (w1 := Wd f fl (va_up g 29 (upd (g 29) (l1.toNatClampNeg) (vp_nar .boolean (1 : Int32)))) gl hh v tx) rfl ⟨Nat.le_of_ble_eq_true rfl, Nat.le_of_ble_eq_true rfl⟩ rfl (b_x_accepted_0 X (d) f fl (va_up g 29 (upd (g 29) (l1.toNatClampNeg) (vp_nar .boolean (1 : Int32)))) gl hh v tx 0 _ ?_)
  exact WP.retI hP_95 rfl rfl h1

set_option maxRecDepth 20000 in
theorem b_x_back1_0 (X : mm_X) (d : Nat) (f : Nat → Int32) (fl : Nat → Int64) (g : Nat → Nat → Int32) (gl : Nat → Nat → Int64) (hh : Nat → Nat → Option Nat) (v : Nat → Value) (tx : mm_W) (p0 : Int32)  (P : Option Value → mm_W → Prop)
    (h : ((0 ≤ p0 ∧ p0 < (2 : Int32)) → ((¬ (p0 < 0 ∨ 2 ≤ p0.toNatClampNeg)) ∧ (((¬ ((g 29) p0.toNatClampNeg) = 0) → ((¬ (p0 < 0 ∨ 2 ≤ p0.toNatClampNeg)) ∧ (((mm_rf ((hh 28) p0.toNatClampNeg)) = .ref 65) ∧ WP X (d + 1) 45 (0, [some (.ref 1), some (.ref 65), none], [], Wd f fl g gl hh v tx) (fun rv w2 => WP X (d + 2) 96 (43, [some (.ref 0), some (.int p0)], rv.toList ++ [], w2) P)))) ∧
      ((((g 29) p0.toNatClampNeg) = 0) → P (some (.int (-2))) (Wd (va_up f 18 (-2 : Int32)) fl (va_up g 55 (upd (g 55) (2) (((g 55) 2) + (1 : Int32)))) gl hh v tx))))) ∧
    ((¬ (0 ≤ p0 ∧ p0 < (2 : Int32))) → P (some (.int (-1))) (Wd (va_up f 18 (-1 : Int32)) fl (va_up g 55 (upd (g 55) (1) (((g 55) 1) + (1 : Int32)))) gl hh v tx))) :
    WP X (d + 2) 96 (0, [some (.ref 0), some (.int p0)], [], Wd f fl g gl hh v tx) P := by
  refine WP.run hP_96 2 (c' := (2, [some (.ref 0), some (.int p0)], [.int 2, .int p0], Wd f fl g gl hh v tx)) rfl ?_
  refine WP.call hP_96 hP_99 (as := [.int p0, .int 2]) (pc' := 5) (L' := [some (.ref 0), some (.int p0)]) (st' := []) (w1 := Wd f fl g gl hh v tx) rfl ⟨Nat.le_of_ble_eq_true rfl, Nat.le_of_ble_eq_true rfl⟩ rfl (b_within_m X (d + 1) f fl g gl hh v tx p0 2 _ ?_)
  refine ⟨fun c1 => ?_, fun c1 => ?_⟩
  · have h2 := h.1 c1
    refine WP.run hP_96 4 (c' := (19, [some (.ref 0), some (.int p0)], [.int p0, .ref 29], Wd f fl g gl hh v tx)) rfl ?_
    refine WP.of (fun _ _ => Ex.zald hP_96 rfl (Wa_29 _ _ _ _ _ _ _) h2.1) ?_
    have h3 := h2.2
    refine WP.br hP_96 (q := ¬ ((g 29) p0.toNatClampNeg) = 0) (t := 30) (f := 23) (L := [some (.ref 0), some (.int p0)]) (st := []) (w := Wd f fl g gl hh v tx) rfl (fun c4 => ?_) (fun c4 => ?_)
    · have h5 := h3.1 c4
      refine WP.run hP_96 5 (c' := (39, [some (.ref 0), some (.int p0)], [.int p0, .ref 28, .ref 1], Wd f fl g gl hh v tx)) rfl ?_
      refine WP.of (fun _ _ => Ex.aald5 hP_96 rfl (Wa_28 _ _ _ _ _ _ _) h5.1) ?_
      have h6 := h5.2
      rw [h6.1]
      have h7 := h6.2
      refine WP.call hP_96 hP_45 (as := [.ref 1, .ref 65]) (pc' := 43) (L' := [some (.ref 0), some (.int p0)]) (st' := []) (w1 := Wd f fl g gl hh v tx) rfl ⟨Nat.le_of_ble_eq_true rfl, Nat.le_of_ble_eq_true rfl⟩ rfl ?_
      exact h7
    · have h8 := h3.2 (Classical.not_not.mp c4)
      refine WP.run hP_96 2 (c' := (26, [some (.ref 0), some (.int p0)], [.int (-2), .ref 0], Wd f fl g gl hh v tx)) rfl ?_
      refine WP.call hP_96 hP_101 (as := [.ref 0, .int (-2)]) (pc' := 29) (L' := [some (.ref 0), some (.int p0)]) (st' := []) (w1 := Wd f fl g gl hh v tx) rfl ⟨Nat.le_of_ble_eq_true rfl, Nat.le_of_ble_eq_true rfl⟩ rfl (b_x_refused_0 X (d) f fl g gl hh v tx (-2) _ ?_)
      refine ⟨fun c9 => ?_, fun c => absurd c (by decide)⟩
      refine ⟨by decide, ?_⟩
      refine ⟨by decide, ?_⟩
      exact WP.retI hP_96 rfl rfl h8
  · have h10 := h.2 c1
    refine WP.run hP_96 3 (c' := (10, [some (.ref 0), some (.int p0)], [.int (-1), .ref 0], Wd f fl g gl hh v tx)) rfl ?_
    refine WP.call hP_96 hP_101 (as := [.ref 0, .int (-1)]) (pc' := 13) (L' := [some (.ref 0), some (.int p0)]) (st' := []) (w1 := Wd f fl g gl hh v tx) rfl ⟨Nat.le_of_ble_eq_true rfl, Nat.le_of_ble_eq_true rfl⟩ rfl (b_x_refused_0 X (d) f fl g gl hh v tx (-1) _ ?_)
    refine ⟨fun c11 => ?_, fun c => absurd c (by decide)⟩
    refine ⟨by decide, ?_⟩
    refine ⟨by decide, ?_⟩
    exact WP.retI hP_96 rfl rfl h10

set_option maxRecDepth 20000 in
theorem b_x_back1_43 (X : mm_X) (d : Nat) (f : Nat → Int32) (fl : Nat → Int64) (g : Nat → Nat → Int32) (gl : Nat → Nat → Int64) (hh : Nat → Nat → Option Nat) (v : Nat → Value) (tx : mm_W) (l1 : Int32)  (P : Option Value → mm_W → Prop)
    (h : P (some (.int 0)) (Wd (va_up (va_up f 78 0) 18 0) fl g gl hh v tx)) :
    WP X (d + 1) 96 (43, [some (.ref 0), some (.int l1)], [], Wd f fl g gl hh v tx) P := by
  refine WP.run hP_96 6 (c' := (53, [some (.ref 0), some (.int l1)], [.int 0, .ref 0], Wd (va_up f 78 0) fl g gl hh v tx)) rfl ?_
  refine WP.call hP_96 hP_100 (as := [.ref 0, .int 0]) (pc' := 56) (L' := [some (.ref 0), some (.int l1)]) (st' := []) (w1 := Wd (va_up f 78 0) fl g gl hh v tx) rfl ⟨Nat.le_of_ble_eq_true rfl, Nat.le_of_ble_eq_true rfl⟩ rfl (b_x_accepted_0 X (d) (va_up f 78 0) fl g gl hh v tx 0 _ ?_)
  exact WP.retI hP_96 rfl rfl h
