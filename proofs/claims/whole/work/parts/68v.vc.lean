set_option maxRecDepth 20000 in
theorem b_yre_fail_31_0 (X : mm_X) (d : Nat) (f : Nat → Int32) (fl : Nat → Int64) (g : Nat → Nat → Int32) (gl : Nat → Nat → Int64) (hh : Nat → Nat → Option Nat) (v : Nat → Value) (tx : mm_W)   (P : Option Value → mm_W → Prop)
    (h : P (some (.int 0)) (Wd (va_up f 1985 (f 1991)) fl g gl hh v tx)) :
    WP X (d) 40 (0, [some (.ref 31)], [], Wd f fl g gl hh v tx) P := by
  refine WP.run hP_40 5 (c' := (9, [some (.ref 31)], [.int 0], Wd (va_up f 1985 (f 1991)) fl g gl hh v tx)) rfl ?_
  exact WP.ret hP_40 (r := some (.int 0)) (w' := Wd (va_up f 1985 (f 1991)) fl g gl hh v tx) rfl h

set_option maxRecDepth 20000 in
theorem b_yre_emit_31_0 (X : mm_X) (d : Nat) (f : Nat → Int32) (fl : Nat → Int64) (g : Nat → Nat → Int32) (gl : Nat → Nat → Int64) (hh : Nat → Nat → Option Nat) (v : Nat → Value) (tx : mm_W) (p0 : Int32) (p1 : Int32)  (P : Option Value → mm_W → Prop)
    (h : ((400 ≤ (f 2049)) → P none (Wd f fl g gl hh v tx)) ∧
    ((¬ (400 ≤ (f 2049))) → ((¬ ((f 2049) < 0 ∨ 400 ≤ (f 2049).toNatClampNeg)) ∧ P none (Wd (va_up f 2049 ((f 2049) + (1 : Int32))) fl (va_up g 34 (upd (g 34) ((f 2049).toNatClampNeg) (((p0 <<< ((12 : Int32) &&& (31 : Int32))) : Int32) ||| p1))) gl hh v tx)))) :
    WP X (d) 41 (0, [some (.ref 31), some (.int p0), some (.int p1)], [], Wd f fl g gl hh v tx) P := by
  refine WP.run hP_41 7 (c' := (15, [some (.ref 31), some (.int p0), some (.int p1)], [.int 400, .int (f 2049)], Wd f fl g gl hh v tx)) rfl ?_
  refine WP.br hP_41 (q := 400 ≤ (f 2049)) (t := 52) (f := 18) (L := [some (.ref 31), some (.int p0), some (.int p1)]) (st := []) (w := Wd f fl g gl hh v tx) rfl (fun c1 => ?_) (fun c1 => ?_)
  · have h2 := h.1 c1
    exact WP.ret hP_41 (r := none) (w' := Wd f fl g gl hh v tx) rfl h2
  · have h3 := h.2 c1
    refine WP.run hP_41 11 (c' := (38, [some (.ref 31), some (.int p0), some (.int p1)], [.int (((p0 <<< ((12 : Int32) &&& (31 : Int32))) : Int32) ||| p1), .int (f 2049), .ref 34], Wd f fl g gl hh v tx)) rfl ?_
    refine WP.of (fun _ _ => Ex.iast hP_41 (w2 := Wd f fl (va_up g 34 (upd (g 34) ((f 2049).toNatClampNeg) (((p0 <<< ((12 : Int32) &&& (31 : Int32))) : Int32) ||| p1))) gl hh v tx) rfl (Wa_34 _ _ _ _ _ _ _) h3.1 (Ws_34 _ _ _ _ _ _ _ _)) ?_
    have h4 := h3.2
    refine WP.run hP_41 7 (c' := (52, [some (.ref 31), some (.int p0), some (.int p1)], [], Wd (va_up f 2049 ((f 2049) + (1 : Int32))) fl (va_up g 34 (upd (g 34) ((f 2049).toNatClampNeg) (((p0 <<< ((12 : Int32) &&& (31 : Int32))) : Int32) ||| p1))) gl hh v tx)) rfl ?_
    exact WP.ret hP_41 (r := none) (w' := Wd (va_up f 2049 ((f 2049) + (1 : Int32))) fl (va_up g 34 (upd (g 34) ((f 2049).toNatClampNeg) (((p0 <<< ((12 : Int32) &&& (31 : Int32))) : Int32) ||| p1))) gl hh v tx) rfl h4

set_option maxRecDepth 20000 in
theorem b_yre_step_31_0 (X : mm_X) (d : Nat) (f : Nat → Int32) (fl : Nat → Int64) (g : Nat → Nat → Int32) (gl : Nat → Nat → Int64) (hh : Nat → Nat → Option Nat) (v : Nat → Value) (tx : mm_W)   (P : Option Value → mm_W → Prop)
    (h : WP X (d) 42 (5, [some (.ref 31), some (.int (f 1992))], [], Wd f fl g gl hh v tx) P) :
    WP X (d) 42 (0, [some (.ref 31), none], [], Wd f fl g gl hh v tx) P := by
  refine WP.run hP_42 3 (c' := (5, [some (.ref 31), some (.int (f 1992))], [], Wd f fl g gl hh v tx)) rfl ?_
  exact h

set_option maxRecDepth 20000 in
theorem b_yre_step_31_5 (X : mm_X) (d : Nat) (f : Nat → Int32) (fl : Nat → Int64) (g : Nat → Nat → Int32) (gl : Nat → Nat → Int64) (hh : Nat → Nat → Option Nat) (v : Nat → Value) (tx : mm_W) (l1 : Int32) (e0 : v 1986 = .ref 30) (P : Option Value → mm_W → Prop)
    (h : (((f 1987) ≤ l1) → WP X (d) 42 (30, [some (.ref 31), some (.int l1)], [], Wd f fl g gl hh v tx) P) ∧
    ((¬ ((f 1987) ≤ l1)) → ((¬ (l1 < 0 ∨ 400 ≤ l1.toNatClampNeg)) ∧ (((¬ ((g 30) l1.toNatClampNeg) = 32) → WP X (d) 42 (30, [some (.ref 31), some (.int l1)], [], Wd f fl g gl hh v tx) P) ∧
      ((((g 30) l1.toNatClampNeg) = 32) → WP X (d) 42 (5, [some (.ref 31), some (.int (l1 + (1 : Int32)))], [], Wd f fl g gl hh v tx) P))))) :
    WP X (d) 42 (5, [some (.ref 31), some (.int l1)], [], Wd f fl g gl hh v tx) P := by
  refine WP.run hP_42 3 (c' := (10, [some (.ref 31), some (.int l1)], [.int (f 1987), .int l1], Wd f fl g gl hh v tx)) rfl ?_
  refine WP.br hP_42 (q := (f 1987) ≤ l1) (t := 30) (f := 13) (L := [some (.ref 31), some (.int l1)]) (st := []) (w := Wd f fl g gl hh v tx) rfl (fun c1 => ?_) (fun c1 => ?_)
  · have h2 := h.1 c1
    exact h2
  · have h3 := h.2 c1
    refine WP.run hP_42 2 (c' := (17, [some (.ref 31), some (.int l1)], [(v 1986)], Wd f fl g gl hh v tx)) rfl ?_
    rw [e0]
    refine WP.run hP_42 1 (c' := (18, [some (.ref 31), some (.int l1)], [.int l1, .ref 30], Wd f fl g gl hh v tx)) rfl ?_
    refine WP.of (fun _ _ => Ex.iald hP_42 rfl (Wa_30 _ _ _ _ _ _ _) h3.1) ?_
    have h4 := h3.2
    refine WP.run hP_42 1 (c' := (21, [some (.ref 31), some (.int l1)], [.int 32, .int ((g 30) l1.toNatClampNeg)], Wd f fl g gl hh v tx)) rfl ?_
    refine WP.br hP_42 (q := ¬ ((g 30) l1.toNatClampNeg) = 32) (t := 30) (f := 24) (L := [some (.ref 31), some (.int l1)]) (st := []) (w := Wd f fl g gl hh v tx) rfl (fun c5 => ?_) (fun c5 => ?_)
    · have h6 := h4.1 c5
      exact h6
    · have h7 := h4.2 (Classical.not_not.mp c5)
      refine WP.run hP_42 2 (c' := (5, [some (.ref 31), some (.int (l1 + (1 : Int32)))], [], Wd f fl g gl hh v tx)) rfl ?_
      exact h7

set_option maxRecDepth 20000 in
theorem b_yre_step_31_30 (X : mm_X) (d : Nat) (f : Nat → Int32) (fl : Nat → Int64) (g : Nat → Nat → Int32) (gl : Nat → Nat → Int64) (hh : Nat → Nat → Option Nat) (v : Nat → Value) (tx : mm_W) (l1 : Int32) (e0 : v 1986 = .ref 30) (P : Option Value → mm_W → Prop)
    (h : (((f 1987) ≤ l1) → WP X (d) 42 (54, [some (.ref 31), some (.int l1)], [.int (-1), .ref 31], Wd (va_up f 1991 l1) fl g gl hh v tx) P) ∧
    ((¬ ((f 1987) ≤ l1)) → ((¬ (l1 < 0 ∨ 400 ≤ l1.toNatClampNeg)) ∧ WP X (d) 42 (54, [some (.ref 31), some (.int l1)], [.int ((g 30) l1.toNatClampNeg), .ref 31], Wd (va_up f 1991 l1) fl g gl hh v tx) P))) :
    WP X (d) 42 (30, [some (.ref 31), some (.int l1)], [], Wd f fl g gl hh v tx) P := by
  refine WP.run hP_42 7 (c' := (41, [some (.ref 31), some (.int l1)], [.int (f 1987), .int l1, .ref 31], Wd (va_up f 1991 l1) fl g gl hh v tx)) rfl ?_
  refine WP.br hP_42 (q := (f 1987) ≤ l1) (t := 53) (f := 44) (L := [some (.ref 31), some (.int l1)]) (st := [.ref 31]) (w := Wd (va_up f 1991 l1) fl g gl hh v tx) rfl (fun c1 => ?_) (fun c1 => ?_)
  · have h2 := h.1 c1
    refine WP.run hP_42 1 (c' := (54, [some (.ref 31), some (.int l1)], [.int (-1), .ref 31], Wd (va_up f 1991 l1) fl g gl hh v tx)) rfl ?_
    exact h2
  · have h3 := h.2 c1
    refine WP.run hP_42 2 (c' := (48, [some (.ref 31), some (.int l1)], [(v 1986), .ref 31], Wd (va_up f 1991 l1) fl g gl hh v tx)) rfl ?_
    rw [e0]
    refine WP.run hP_42 1 (c' := (49, [some (.ref 31), some (.int l1)], [.int l1, .ref 30, .ref 31], Wd (va_up f 1991 l1) fl g gl hh v tx)) rfl ?_
    refine WP.of (fun _ _ => Ex.iald hP_42 rfl (Wa_30 _ _ _ _ _ _ _) h3.1) ?_
    have h4 := h3.2
    refine WP.run hP_42 1 (c' := (54, [some (.ref 31), some (.int l1)], [.int ((g 30) l1.toNatClampNeg), .ref 31], Wd (va_up f 1991 l1) fl g gl hh v tx)) rfl ?_
    exact h4

set_option maxRecDepth 20000 in
theorem b_yre_step_31_54 (X : mm_X) (d : Nat) (f : Nat → Int32) (fl : Nat → Int64) (g : Nat → Nat → Int32) (gl : Nat → Nat → Int64) (hh : Nat → Nat → Option Nat) (v : Nat → Value) (tx : mm_W) (l1 : Int32) (s0 : Int32)  (P : Option Value → mm_W → Prop)
    (h : ((s0 < 97) → WP X (d) 42 (122, [some (.ref 31), some (.int l1)], [], Wd (va_up (va_up f 1990 s0) 1993 0) fl g gl hh v tx) P) ∧
    ((¬ (s0 < 97)) → (((122 < s0) → WP X (d) 42 (122, [some (.ref 31), some (.int l1)], [], Wd (va_up (va_up f 1990 s0) 1993 0) fl g gl hh v tx) P) ∧
      ((¬ (122 < s0)) → WP X (d) 42 (86, [some (.ref 31), some (.int l1)], [], Wd (va_up (va_up f 1993 0) 1990 97) fl g gl hh v tx) P)))) :
    WP X (d) 42 (54, [some (.ref 31), some (.int l1)], [.int s0, .ref 31], Wd f fl g gl hh v tx) P := by
  refine WP.run hP_42 7 (c' := (68, [some (.ref 31), some (.int l1)], [.int 97, .int s0], Wd (va_up (va_up f 1990 s0) 1993 0) fl g gl hh v tx)) rfl ?_
  refine WP.br hP_42 (q := s0 < 97) (t := 122) (f := 71) (L := [some (.ref 31), some (.int l1)]) (st := []) (w := Wd (va_up (va_up f 1990 s0) 1993 0) fl g gl hh v tx) rfl (fun c1 => ?_) (fun c1 => ?_)
  · have h2 := h.1 c1
    exact h2
  · have h3 := h.2 c1
    refine WP.run hP_42 3 (c' := (77, [some (.ref 31), some (.int l1)], [.int 122, .int s0], Wd (va_up (va_up f 1990 s0) 1993 0) fl g gl hh v tx)) rfl ?_
    refine WP.br hP_42 (q := 122 < s0) (t := 122) (f := 80) (L := [some (.ref 31), some (.int l1)]) (st := []) (w := Wd (va_up (va_up f 1990 s0) 1993 0) fl g gl hh v tx) rfl (fun c4 => ?_) (fun c4 => ?_)
    · have h5 := h3.1 c4
      exact h5
    · have h6 := h3.2 c4
      refine WP.run hP_42 3 (c' := (86, [some (.ref 31), some (.int l1)], [], Wd (va_up (va_up f 1993 0) 1990 97) fl g gl hh v tx)) rfl ?_
      exact h6

set_option maxRecDepth 20000 in
theorem b_yre_step_31_122 (X : mm_X) (d : Nat) (f : Nat → Int32) (fl : Nat → Int64) (g : Nat → Nat → Int32) (gl : Nat → Nat → Int64) (hh : Nat → Nat → Option Nat) (v : Nat → Value) (tx : mm_W) (l1 : Int32)  (P : Option Value → mm_W → Prop)
    (h : (((f 1990) < 48) → WP X (d) 42 (209, [some (.ref 31), some (.int l1)], [], Wd f fl g gl hh v tx) P) ∧
    ((¬ ((f 1990) < 48)) → (((57 < (f 1990)) → WP X (d) 42 (209, [some (.ref 31), some (.int l1)], [], Wd f fl g gl hh v tx) P) ∧
      ((¬ (57 < (f 1990))) → WP X (d) 42 (146, [some (.ref 31), some (.int l1)], [], Wd (va_up f 1990 48) fl g gl hh v tx) P)))) :
    WP X (d) 42 (122, [some (.ref 31), some (.int l1)], [], Wd f fl g gl hh v tx) P := by
  refine WP.run hP_42 3 (c' := (128, [some (.ref 31), some (.int l1)], [.int 48, .int (f 1990)], Wd f fl g gl hh v tx)) rfl ?_
  refine WP.br hP_42 (q := (f 1990) < 48) (t := 209) (f := 131) (L := [some (.ref 31), some (.int l1)]) (st := []) (w := Wd f fl g gl hh v tx) rfl (fun c1 => ?_) (fun c1 => ?_)
  · have h2 := h.1 c1
    exact h2
  · have h3 := h.2 c1
    refine WP.run hP_42 3 (c' := (137, [some (.ref 31), some (.int l1)], [.int 57, .int (f 1990)], Wd f fl g gl hh v tx)) rfl ?_
    refine WP.br hP_42 (q := 57 < (f 1990)) (t := 209) (f := 140) (L := [some (.ref 31), some (.int l1)]) (st := []) (w := Wd f fl g gl hh v tx) rfl (fun c4 => ?_) (fun c4 => ?_)
    · have h5 := h3.1 c4
      exact h5
    · have h6 := h3.2 c4
      refine WP.run hP_42 3 (c' := (146, [some (.ref 31), some (.int l1)], [], Wd (va_up f 1990 48) fl g gl hh v tx)) rfl ?_
      exact h6

set_option maxRecDepth 20000 in
theorem b_yre_step_31_86 (X : mm_X) (d : Nat) (f : Nat → Int32) (fl : Nat → Int64) (g : Nat → Nat → Int32) (gl : Nat → Nat → Int64) (hh : Nat → Nat → Option Nat) (v : Nat → Value) (tx : mm_W) (l1 : Int32) (e0 : v 1986 = .ref 30) (P : Option Value → mm_W → Prop)
    (h : (((f 1987) ≤ l1) → P none (Wd (va_up f 1992 l1) fl g gl hh v tx)) ∧
    ((¬ ((f 1987) ≤ l1)) → ((¬ (l1 < 0 ∨ 400 ≤ l1.toNatClampNeg)) ∧ (((((g 30) l1.toNatClampNeg) < 97) → P none (Wd (va_up f 1992 l1) fl g gl hh v tx)) ∧
      ((¬ (((g 30) l1.toNatClampNeg) < 97)) → ((¬ (l1 < 0 ∨ 400 ≤ l1.toNatClampNeg)) ∧ (((122 < ((g 30) l1.toNatClampNeg)) → P none (Wd (va_up f 1992 l1) fl g gl hh v tx)) ∧
        ((¬ (122 < ((g 30) l1.toNatClampNeg))) → WP X (d) 42 (86, [some (.ref 31), some (.int (l1 + (1 : Int32)))], [], Wd f fl g gl hh v tx) P)))))))) :
    WP X (d) 42 (86, [some (.ref 31), some (.int l1)], [], Wd f fl g gl hh v tx) P := by
  refine WP.run hP_42 3 (c' := (91, [some (.ref 31), some (.int l1)], [.int (f 1987), .int l1], Wd f fl g gl hh v tx)) rfl ?_
  refine WP.br hP_42 (q := (f 1987) ≤ l1) (t := 220) (f := 94) (L := [some (.ref 31), some (.int l1)]) (st := []) (w := Wd f fl g gl hh v tx) rfl (fun c1 => ?_) (fun c1 => ?_)
  · have h2 := h.1 c1
    refine WP.run hP_42 3 (c' := (225, [some (.ref 31), some (.int l1)], [], Wd (va_up f 1992 l1) fl g gl hh v tx)) rfl ?_
    exact WP.ret hP_42 (r := none) (w' := Wd (va_up f 1992 l1) fl g gl hh v tx) rfl h2
  · have h3 := h.2 c1
    refine WP.run hP_42 2 (c' := (98, [some (.ref 31), some (.int l1)], [(v 1986)], Wd f fl g gl hh v tx)) rfl ?_
    rw [e0]
    refine WP.run hP_42 1 (c' := (99, [some (.ref 31), some (.int l1)], [.int l1, .ref 30], Wd f fl g gl hh v tx)) rfl ?_
    refine WP.of (fun _ _ => Ex.iald hP_42 rfl (Wa_30 _ _ _ _ _ _ _) h3.1) ?_
    have h4 := h3.2
    refine WP.run hP_42 1 (c' := (102, [some (.ref 31), some (.int l1)], [.int 97, .int ((g 30) l1.toNatClampNeg)], Wd f fl g gl hh v tx)) rfl ?_
    refine WP.br hP_42 (q := ((g 30) l1.toNatClampNeg) < 97) (t := 220) (f := 105) (L := [some (.ref 31), some (.int l1)]) (st := []) (w := Wd f fl g gl hh v tx) rfl (fun c5 => ?_) (fun c5 => ?_)
    · have h6 := h4.1 c5
      refine WP.run hP_42 3 (c' := (225, [some (.ref 31), some (.int l1)], [], Wd (va_up f 1992 l1) fl g gl hh v tx)) rfl ?_
      exact WP.ret hP_42 (r := none) (w' := Wd (va_up f 1992 l1) fl g gl hh v tx) rfl h6
    · have h7 := h4.2 c5
      refine WP.run hP_42 2 (c' := (109, [some (.ref 31), some (.int l1)], [(v 1986)], Wd f fl g gl hh v tx)) rfl ?_
      rw [e0]
      refine WP.run hP_42 1 (c' := (110, [some (.ref 31), some (.int l1)], [.int l1, .ref 30], Wd f fl g gl hh v tx)) rfl ?_
      refine WP.of (fun _ _ => Ex.iald hP_42 rfl (Wa_30 _ _ _ _ _ _ _) h7.1) ?_
      have h8 := h7.2
      refine WP.run hP_42 1 (c' := (113, [some (.ref 31), some (.int l1)], [.int 122, .int ((g 30) l1.toNatClampNeg)], Wd f fl g gl hh v tx)) rfl ?_
      refine WP.br hP_42 (q := 122 < ((g 30) l1.toNatClampNeg)) (t := 220) (f := 116) (L := [some (.ref 31), some (.int l1)]) (st := []) (w := Wd f fl g gl hh v tx) rfl (fun c9 => ?_) (fun c9 => ?_)
      · have h10 := h8.1 c9
        refine WP.run hP_42 3 (c' := (225, [some (.ref 31), some (.int l1)], [], Wd (va_up f 1992 l1) fl g gl hh v tx)) rfl ?_
        exact WP.ret hP_42 (r := none) (w' := Wd (va_up f 1992 l1) fl g gl hh v tx) rfl h10
      · have h11 := h8.2 c9
        refine WP.run hP_42 2 (c' := (86, [some (.ref 31), some (.int (l1 + (1 : Int32)))], [], Wd f fl g gl hh v tx)) rfl ?_
        exact h11

set_option maxRecDepth 20000 in
theorem b_yre_step_31_209 (X : mm_X) (d : Nat) (f : Nat → Int32) (fl : Nat → Int64) (g : Nat → Nat → Int32) (gl : Nat → Nat → Int64) (hh : Nat → Nat → Option Nat) (v : Nat → Value) (tx : mm_W) (l1 : Int32)  (P : Option Value → mm_W → Prop)
    (h : (((f 1990) = (-1)) → P none (Wd (va_up f 1992 l1) fl g gl hh v tx)) ∧
    ((¬ (f 1990) = (-1)) → P none (Wd (va_up f 1992 (l1 + (1 : Int32))) fl g gl hh v tx))) :
    WP X (d) 42 (209, [some (.ref 31), some (.int l1)], [], Wd f fl g gl hh v tx) P := by
  refine WP.run hP_42 3 (c' := (214, [some (.ref 31), some (.int l1)], [.int (-1), .int (f 1990)], Wd f fl g gl hh v tx)) rfl ?_
  refine WP.br hP_42 (q := (f 1990) = (-1)) (t := 220) (f := 217) (L := [some (.ref 31), some (.int l1)]) (st := []) (w := Wd f fl g gl hh v tx) rfl (fun c1 => ?_) (fun c1 => ?_)
  · have h2 := h.1 c1
    refine WP.run hP_42 3 (c' := (225, [some (.ref 31), some (.int l1)], [], Wd (va_up f 1992 l1) fl g gl hh v tx)) rfl ?_
    exact WP.ret hP_42 (r := none) (w' := Wd (va_up f 1992 l1) fl g gl hh v tx) rfl h2
  · have h3 := h.2 c1
    refine WP.run hP_42 4 (c' := (225, [some (.ref 31), some (.int (l1 + (1 : Int32)))], [], Wd (va_up f 1992 (l1 + (1 : Int32))) fl g gl hh v tx)) rfl ?_
    exact WP.ret hP_42 (r := none) (w' := Wd (va_up f 1992 (l1 + (1 : Int32))) fl g gl hh v tx) rfl h3

set_option maxRecDepth 20000 in
theorem b_yre_step_31_146 (X : mm_X) (d : Nat) (f : Nat → Int32) (fl : Nat → Int64) (g : Nat → Nat → Int32) (gl : Nat → Nat → Int64) (hh : Nat → Nat → Option Nat) (v : Nat → Value) (tx : mm_W) (l1 : Int32) (e0 : v 1986 = .ref 30) (P : Option Value → mm_W → Prop)
    (h : (((f 1987) ≤ l1) → P none (Wd (va_up f 1992 l1) fl g gl hh v tx)) ∧
    ((¬ ((f 1987) ≤ l1)) → ((¬ (l1 < 0 ∨ 400 ≤ l1.toNatClampNeg)) ∧ (((((g 30) l1.toNatClampNeg) < 48) → P none (Wd (va_up f 1992 l1) fl g gl hh v tx)) ∧
      ((¬ (((g 30) l1.toNatClampNeg) < 48)) → ((¬ (l1 < 0 ∨ 400 ≤ l1.toNatClampNeg)) ∧ (((57 < ((g 30) l1.toNatClampNeg)) → P none (Wd (va_up f 1992 l1) fl g gl hh v tx)) ∧
        ((¬ (57 < ((g 30) l1.toNatClampNeg))) → ((¬ (l1 < 0 ∨ 400 ≤ l1.toNatClampNeg)) ∧ WP X (d) 42 (146, [some (.ref 31), some (.int (l1 + (1 : Int32)))], [], Wd (va_up f 1993 (if 1001 < ((((10 : Int32) * (f 1993)) + ((g 30) l1.toNatClampNeg)) - (48 : Int32)) then 1001 else ((((10 : Int32) * (f 1993)) + ((g 30) l1.toNatClampNeg)) - (48 : Int32)))) fl g gl hh v tx) P))))))))) :
    WP X (d) 42 (146, [some (.ref 31), some (.int l1)], [], Wd f fl g gl hh v tx) P := by
  refine WP.run hP_42 3 (c' := (151, [some (.ref 31), some (.int l1)], [.int (f 1987), .int l1], Wd f fl g gl hh v tx)) rfl ?_
  refine WP.br hP_42 (q := (f 1987) ≤ l1) (t := 220) (f := 154) (L := [some (.ref 31), some (.int l1)]) (st := []) (w := Wd f fl g gl hh v tx) rfl (fun c1 => ?_) (fun c1 => ?_)
  · have h2 := h.1 c1
    refine WP.run hP_42 3 (c' := (225, [some (.ref 31), some (.int l1)], [], Wd (va_up f 1992 l1) fl g gl hh v tx)) rfl ?_
    exact WP.ret hP_42 (r := none) (w' := Wd (va_up f 1992 l1) fl g gl hh v tx) rfl h2
  · have h3 := h.2 c1
    refine WP.run hP_42 2 (c' := (158, [some (.ref 31), some (.int l1)], [(v 1986)], Wd f fl g gl hh v tx)) rfl ?_
    rw [e0]
    refine WP.run hP_42 1 (c' := (159, [some (.ref 31), some (.int l1)], [.int l1, .ref 30], Wd f fl g gl hh v tx)) rfl ?_
    refine WP.of (fun _ _ => Ex.iald hP_42 rfl (Wa_30 _ _ _ _ _ _ _) h3.1) ?_
    have h4 := h3.2
    refine WP.run hP_42 1 (c' := (162, [some (.ref 31), some (.int l1)], [.int 48, .int ((g 30) l1.toNatClampNeg)], Wd f fl g gl hh v tx)) rfl ?_
    refine WP.br hP_42 (q := ((g 30) l1.toNatClampNeg) < 48) (t := 220) (f := 165) (L := [some (.ref 31), some (.int l1)]) (st := []) (w := Wd f fl g gl hh v tx) rfl (fun c5 => ?_) (fun c5 => ?_)
    · have h6 := h4.1 c5
      refine WP.run hP_42 3 (c' := (225, [some (.ref 31), some (.int l1)], [], Wd (va_up f 1992 l1) fl g gl hh v tx)) rfl ?_
      exact WP.ret hP_42 (r := none) (w' := Wd (va_up f 1992 l1) fl g gl hh v tx) rfl h6
    · have h7 := h4.2 c5
      refine WP.run hP_42 2 (c' := (169, [some (.ref 31), some (.int l1)], [(v 1986)], Wd f fl g gl hh v tx)) rfl ?_
      rw [e0]
      refine WP.run hP_42 1 (c' := (170, [some (.ref 31), some (.int l1)], [.int l1, .ref 30], Wd f fl g gl hh v tx)) rfl ?_
      refine WP.of (fun _ _ => Ex.iald hP_42 rfl (Wa_30 _ _ _ _ _ _ _) h7.1) ?_
      have h8 := h7.2
      refine WP.run hP_42 1 (c' := (173, [some (.ref 31), some (.int l1)], [.int 57, .int ((g 30) l1.toNatClampNeg)], Wd f fl g gl hh v tx)) rfl ?_
      refine WP.br hP_42 (q := 57 < ((g 30) l1.toNatClampNeg)) (t := 220) (f := 176) (L := [some (.ref 31), some (.int l1)]) (st := []) (w := Wd f fl g gl hh v tx) rfl (fun c9 => ?_) (fun c9 => ?_)
      · have h10 := h8.1 c9
        refine WP.run hP_42 3 (c' := (225, [some (.ref 31), some (.int l1)], [], Wd (va_up f 1992 l1) fl g gl hh v tx)) rfl ?_
        exact WP.ret hP_42 (r := none) (w' := Wd (va_up f 1992 l1) fl g gl hh v tx) rfl h10
      · have h11 := h8.2 c9
        refine WP.run hP_42 7 (c' := (188, [some (.ref 31), some (.int l1)], [(v 1986), .int ((10 : Int32) * (f 1993)), .ref 31], Wd f fl g gl hh v tx)) rfl ?_
        rw [e0]
        refine WP.run hP_42 1 (c' := (189, [some (.ref 31), some (.int l1)], [.int l1, .ref 30, .int ((10 : Int32) * (f 1993)), .ref 31], Wd f fl g gl hh v tx)) rfl ?_
        refine WP.of (fun _ _ => Ex.iald hP_42 rfl (Wa_30 _ _ _ _ _ _ _) h11.1) ?_
        have h12 := h11.2
        refine WP.run hP_42 8 (c' := (146, [some (.ref 31), some (.int (l1 + (1 : Int32)))], [], Wd (va_up f 1993 (if 1001 < ((((10 : Int32) * (f 1993)) + ((g 30) l1.toNatClampNeg)) - (48 : Int32)) then 1001 else ((((10 : Int32) * (f 1993)) + ((g 30) l1.toNatClampNeg)) - (48 : Int32)))) fl g gl hh v tx)) rfl ?_
        exact h12

set_option maxRecDepth 20000 in
theorem b_yre_begin_31_30_0 (X : mm_X) (d : Nat) (f : Nat → Int32) (fl : Nat → Int64) (g : Nat → Nat → Int32) (gl : Nat → Nat → Int64) (hh : Nat → Nat → Option Nat) (v : Nat → Value) (tx : mm_W) (p0 : Int32) (p1 : Int32)  (P : Option Value → mm_W → Prop)
    (h : (p1 = 0 ∨ p1 = 1) ∧ WP X (d) 42 (0, [some (.ref 31), none], [], Wd (va_up (va_up (va_up (va_up (va_up (va_up (va_up f 1987 (if 400 < p0 then 400 else p0)) 1988 p1) 1989 0) 1985 (-1)) 2048 0) 2049 0) 1992 0) fl g gl hh (va_up v 1986 (.ref 30)) tx) (fun rv w2 => WP X (d + 1) 34 (55, [some (.ref 31), some (.ref 30), some (.int p0), some (.int p1)], rv.toList ++ [], w2) P)) :
    WP X (d + 1) 34 (0, [some (.ref 31), some (.ref 30), some (.int p0), some (.int p1)], [], Wd f fl g gl hh v tx) P := by
  refine WP.run hP_34 11 (c' := (17, [some (.ref 31), some (.ref 30), some (.int p0), some (.int p1)], [.int p1, .ref 31], Wd (va_up f 1987 (if 400 < p0 then 400 else p0)) fl g gl hh (va_up v 1986 (.ref 30)) tx)) rfl ?_
  refine WP.of (fun _ _ => Ex.putZ hP_34 (w2 := Wd (va_up (va_up f 1987 (if 400 < p0 then 400 else p0)) 1988 p1) fl g gl hh (va_up v 1986 (.ref 30)) tx) rfl rfl rfl (Nat.le_of_ble_eq_true rfl) rfl h.1 rfl) ?_
  have h1 := h.2
  refine WP.run hP_34 18 (c' := (52, [some (.ref 31), some (.ref 30), some (.int p0), some (.int p1)], [.ref 31], Wd (va_up (va_up (va_up (va_up (va_up (va_up (va_up f 1987 (if 400 < p0 then 400 else p0)) 1988 p1) 1989 0) 1985 (-1)) 2048 0) 2049 0) 1992 0) fl g gl hh (va_up v 1986 (.ref 30)) tx)) rfl ?_
  refine WP.call hP_34 hP_42 (as := [.ref 31]) (pc' := 55) (L' := [some (.ref 31), some (.ref 30), some (.int p0), some (.int p1)]) (st' := []) (w1 := Wd (va_up (va_up (va_up (va_up (va_up (va_up (va_up f 1987 (if 400 < p0 then 400 else p0)) 1988 p1) 1989 0) 1985 (-1)) 2048 0) 2049 0) 1992 0) fl g gl hh (va_up v 1986 (.ref 30)) tx) rfl ⟨Nat.le_of_ble_eq_true rfl, Nat.le_of_ble_eq_true rfl⟩ rfl ?_
  exact h1

set_option maxRecDepth 20000 in
theorem b_yre_begin_31_30_55 (X : mm_X) (d : Nat) (f : Nat → Int32) (fl : Nat → Int64) (g : Nat → Nat → Int32) (gl : Nat → Nat → Int64) (hh : Nat → Nat → Option Nat) (v : Nat → Value) (tx : mm_W) (l2 : Int32) (l3 : Int32)  (P : Option Value → mm_W → Prop)
    (h : P none (Wd f fl g gl hh v tx)) :
    WP X (d) 34 (55, [some (.ref 31), some (.ref 30), some (.int l2), some (.int l3)], [], Wd f fl g gl hh v tx) P := by
  exact WP.ret hP_34 (r := none) (w' := Wd f fl g gl hh v tx) rfl h

set_option maxRecDepth 20000 in
theorem b_yre_times_31_0 (X : mm_X) (d : Nat) (f : Nat → Int32) (fl : Nat → Int64) (g : Nat → Nat → Int32) (gl : Nat → Nat → Int64) (hh : Nat → Nat → Option Nat) (v : Nat → Value) (tx : mm_W)   (P : Option Value → mm_W → Prop)
    (h : WP X (d) 42 (0, [some (.ref 31), none], [], Wd f fl g gl hh v tx) (fun rv w2 => WP X (d + 1) 35 (4, [some (.ref 31), none], rv.toList ++ [], w2) P)) :
    WP X (d + 1) 35 (0, [some (.ref 31), none], [], Wd f fl g gl hh v tx) P := by
  refine WP.run hP_35 1 (c' := (1, [some (.ref 31), none], [.ref 31], Wd f fl g gl hh v tx)) rfl ?_
  refine WP.call hP_35 hP_42 (as := [.ref 31]) (pc' := 4) (L' := [some (.ref 31), none]) (st' := []) (w1 := Wd f fl g gl hh v tx) rfl ⟨Nat.le_of_ble_eq_true rfl, Nat.le_of_ble_eq_true rfl⟩ rfl ?_
  exact h

set_option maxRecDepth 20000 in
theorem b_yre_times_31_4 (X : mm_X) (d : Nat) (f : Nat → Int32) (fl : Nat → Int64) (g : Nat → Nat → Int32) (gl : Nat → Nat → Int64) (hh : Nat → Nat → Option Nat) (v : Nat → Value) (tx : mm_W)   (P : Option Value → mm_W → Prop)
    (h : ((¬ (f 1990) = 48) → WP X (d) 40 (0, [some (.ref 31)], [], Wd f fl g gl hh v tx) (fun rv w2 => WP X (d + 1) 35 (34, [some (.ref 31), none], rv.toList ++ [], w2) P)) ∧
    (((f 1990) = 48) → ((((f 1993) < 1) → WP X (d) 40 (0, [some (.ref 31)], [], Wd f fl g gl hh v tx) (fun rv w2 => WP X (d + 1) 35 (34, [some (.ref 31), none], rv.toList ++ [], w2) P)) ∧
      ((¬ ((f 1993) < 1)) → ((((f 1993) ≤ 20) → WP X (d) 42 (0, [some (.ref 31), none], [], Wd f fl g gl hh v tx) (fun rv w2 => WP X (d + 1) 35 (46, [some (.ref 31), some (.int (f 1993))], rv.toList ++ [], w2) P)) ∧
        ((¬ ((f 1993) ≤ 20)) → WP X (d) 40 (0, [some (.ref 31)], [], Wd f fl g gl hh v tx) (fun rv w2 => WP X (d + 1) 35 (34, [some (.ref 31), none], rv.toList ++ [], w2) P))))))) :
    WP X (d + 1) 35 (4, [some (.ref 31), none], [], Wd f fl g gl hh v tx) P := by
  refine WP.run hP_35 3 (c' := (10, [some (.ref 31), none], [.int 48, .int (f 1990)], Wd f fl g gl hh v tx)) rfl ?_
  refine WP.br hP_35 (q := ¬ (f 1990) = 48) (t := 30) (f := 13) (L := [some (.ref 31), none]) (st := []) (w := Wd f fl g gl hh v tx) rfl (fun c1 => ?_) (fun c1 => ?_)
  · have h2 := h.1 c1
    refine WP.run hP_35 1 (c' := (31, [some (.ref 31), none], [.ref 31], Wd f fl g gl hh v tx)) rfl ?_
    refine WP.call hP_35 hP_40 (as := [.ref 31]) (pc' := 34) (L' := [some (.ref 31), none]) (st' := []) (w1 := Wd f fl g gl hh v tx) rfl ⟨Nat.le_of_ble_eq_true rfl, Nat.le_of_ble_eq_true rfl⟩ rfl ?_
    exact h2
  · have h3 := h.2 (Classical.not_not.mp c1)
    refine WP.run hP_35 3 (c' := (18, [some (.ref 31), none], [.int 1, .int (f 1993)], Wd f fl g gl hh v tx)) rfl ?_
    refine WP.br hP_35 (q := (f 1993) < 1) (t := 30) (f := 21) (L := [some (.ref 31), none]) (st := []) (w := Wd f fl g gl hh v tx) rfl (fun c4 => ?_) (fun c4 => ?_)
    · have h5 := h3.1 c4
      refine WP.run hP_35 1 (c' := (31, [some (.ref 31), none], [.ref 31], Wd f fl g gl hh v tx)) rfl ?_
      refine WP.call hP_35 hP_40 (as := [.ref 31]) (pc' := 34) (L' := [some (.ref 31), none]) (st' := []) (w1 := Wd f fl g gl hh v tx) rfl ⟨Nat.le_of_ble_eq_true rfl, Nat.le_of_ble_eq_true rfl⟩ rfl ?_
      exact h5
    · have h6 := h3.2 c4
      refine WP.run hP_35 3 (c' := (27, [some (.ref 31), none], [.int 20, .int (f 1993)], Wd f fl g gl hh v tx)) rfl ?_
      refine WP.br hP_35 (q := (f 1993) ≤ 20) (t := 37) (f := 30) (L := [some (.ref 31), none]) (st := []) (w := Wd f fl g gl hh v tx) rfl (fun c7 => ?_) (fun c7 => ?_)
      · have h8 := h6.1 c7
        refine WP.run hP_35 2 (c' := (41, [some (.ref 31), none], [.int (f 1993)], Wd f fl g gl hh v tx)) rfl ?_
        refine WP.run hP_35 2 (c' := (43, [some (.ref 31), some (.int (f 1993))], [.ref 31], Wd f fl g gl hh v tx)) rfl ?_
        refine WP.call hP_35 hP_42 (as := [.ref 31]) (pc' := 46) (L' := [some (.ref 31), some (.int (f 1993))]) (st' := []) (w1 := Wd f fl g gl hh v tx) rfl ⟨Nat.le_of_ble_eq_true rfl, Nat.le_of_ble_eq_true rfl⟩ rfl ?_
        exact h8
      · have h9 := h6.2 c7
        refine WP.run hP_35 1 (c' := (31, [some (.ref 31), none], [.ref 31], Wd f fl g gl hh v tx)) rfl ?_
        refine WP.call hP_35 hP_40 (as := [.ref 31]) (pc' := 34) (L' := [some (.ref 31), none]) (st' := []) (w1 := Wd f fl g gl hh v tx) rfl ⟨Nat.le_of_ble_eq_true rfl, Nat.le_of_ble_eq_true rfl⟩ rfl ?_
        exact h9

set_option maxRecDepth 20000 in
theorem b_yre_times_31_34 (X : mm_X) (d : Nat) (f : Nat → Int32) (fl : Nat → Int64) (g : Nat → Nat → Int32) (gl : Nat → Nat → Int64) (hh : Nat → Nat → Option Nat) (v : Nat → Value) (tx : mm_W) (s0 : Int32)  (P : Option Value → mm_W → Prop)
    (h : P (some (.int (-1))) (Wd f fl g gl hh v tx)) :
    WP X (d) 35 (34, [some (.ref 31), none], [.int s0], Wd f fl g gl hh v tx) P := by
  refine WP.run hP_35 2 (c' := (36, [some (.ref 31), none], [.int (-1)], Wd f fl g gl hh v tx)) rfl ?_
  exact WP.retI hP_35 rfl rfl h

set_option maxRecDepth 20000 in
theorem b_yre_times_31_46 (X : mm_X) (d : Nat) (f : Nat → Int32) (fl : Nat → Int64) (g : Nat → Nat → Int32) (gl : Nat → Nat → Int64) (hh : Nat → Nat → Option Nat) (v : Nat → Value) (tx : mm_W) (l1 : Int32)  (P : Option Value → mm_W → Prop)
    (h : P (some (.int l1)) (Wd f fl g gl hh v tx)) :
    WP X (d) 35 (46, [some (.ref 31), some (.int l1)], [], Wd f fl g gl hh v tx) P := by
  refine WP.run hP_35 1 (c' := (47, [some (.ref 31), some (.int l1)], [.int l1], Wd f fl g gl hh v tx)) rfl ?_
  exact WP.retI hP_35 rfl rfl h

set_option maxRecDepth 20000 in
theorem b_yre_pick_31_0 (X : mm_X) (d : Nat) (f : Nat → Int32) (fl : Nat → Int64) (g : Nat → Nat → Int32) (gl : Nat → Nat → Int64) (hh : Nat → Nat → Option Nat) (v : Nat → Value) (tx : mm_W) (z0 : UInt32)  (P : Option Value → mm_W → Prop)
    (h : (((f 1990) = 97) → WP X (d) 43 (24, [some (.ref 31), some (.float z0), some (.int 0), some (.int (f 1991)), some (.int 1), some (.int 0), none], [], Wd f fl g gl hh v tx) P) ∧
    ((¬ (f 1990) = 97) → P (some (.int (-1))) (Wd f fl g gl hh v tx))) :
    WP X (d) 43 (0, [some (.ref 31), some (.float z0), none, none, none, none, none], [], Wd f fl g gl hh v tx) P := by
  refine WP.run hP_43 3 (c' := (6, [some (.ref 31), some (.float z0), none, none, none, none, none], [.int 97, .int (f 1990)], Wd f fl g gl hh v tx)) rfl ?_
  refine WP.br hP_43 (q := (f 1990) = 97) (t := 11) (f := 9) (L := [some (.ref 31), some (.float z0), none, none, none, none, none]) (st := []) (w := Wd f fl g gl hh v tx) rfl (fun c1 => ?_) (fun c1 => ?_)
  · have h2 := h.1 c1
    refine WP.run hP_43 1 (c' := (12, [some (.ref 31), some (.float z0), none, none, none, none, none], [.int 0], Wd f fl g gl hh v tx)) rfl ?_
    refine WP.run hP_43 3 (c' := (17, [some (.ref 31), some (.float z0), some (.int 0), none, none, none, none], [.int (f 1991)], Wd f fl g gl hh v tx)) rfl ?_
    refine WP.run hP_43 2 (c' := (19, [some (.ref 31), some (.float z0), some (.int 0), some (.int (f 1991)), none, none, none], [.int 1], Wd f fl g gl hh v tx)) rfl ?_
    refine WP.run hP_43 2 (c' := (22, [some (.ref 31), some (.float z0), some (.int 0), some (.int (f 1991)), some (.int 1), none, none], [.int 0], Wd f fl g gl hh v tx)) rfl ?_
    refine WP.run hP_43 1 (c' := (24, [some (.ref 31), some (.float z0), some (.int 0), some (.int (f 1991)), some (.int 1), some (.int 0), none], [], Wd f fl g gl hh v tx)) rfl ?_
    exact h2
  · have h3 := h.2 c1
    refine WP.run hP_43 1 (c' := (10, [some (.ref 31), some (.float z0), none, none, none, none, none], [.int (-1)], Wd f fl g gl hh v tx)) rfl ?_
    exact WP.retI hP_43 rfl rfl h3

set_option maxRecDepth 20000 in
theorem b_yre_pick_31_24 (X : mm_X) (d : Nat) (f : Nat → Int32) (fl : Nat → Int64) (g : Nat → Nat → Int32) (gl : Nat → Nat → Int64) (hh : Nat → Nat → Option Nat) (v : Nat → Value) (tx : mm_W) (z0 : UInt32) (l2 : Int32) (l3 : Int32) (l4 : Int32) (l5 : Int32) (tS : List Int32) (eS : mk_S[z0.toNat - 16]? = some tS) (eZ : 16 ≤ z0.toNat) (e2 : v 1986 = .ref 30) (P : Option Value → mm_W → Prop)
    (h : (((Int32.ofNat tS.length) ≤ l5) → P (some (.int (-1))) (Wd f fl g gl hh v tx)) ∧
    ((¬ ((Int32.ofNat tS.length) ≤ l5)) → ((¬ (l5 < 0 ∨ tS.length ≤ l5.toNatClampNeg)) ∧ ((((tS.getD l5.toNatClampNeg 0) = 32) → (((l4 = 0) → WP X (d) 43 (24, [some (.ref 31), some (.float z0), some (.int (l2 + (1 : Int32))), some (.int (f 1991)), some (.int 1), some (.int (l5 + (1 : Int32))), none], [], Wd f fl g gl hh v tx) P) ∧
        ((¬ l4 = 0) → (((¬ l3 = (f 1992)) → WP X (d) 43 (24, [some (.ref 31), some (.float z0), some (.int (l2 + (1 : Int32))), some (.int (f 1991)), some (.int 1), some (.int (l5 + (1 : Int32))), none], [], Wd f fl g gl hh v tx) P) ∧
          ((l3 = (f 1992)) → P (some (.int l2)) (Wd f fl g gl hh v tx)))))) ∧
      ((¬ (tS.getD l5.toNatClampNeg 0) = 32) → (((l4 = 0) → WP X (d) 43 (24, [some (.ref 31), some (.float z0), some (.int l2), some (.int (l3 + (1 : Int32))), some (.int 0), some (.int (l5 + (1 : Int32))), none], [], Wd f fl g gl hh v tx) P) ∧
        ((¬ l4 = 0) → ((((f 1992) ≤ l3) → WP X (d) 43 (24, [some (.ref 31), some (.float z0), some (.int l2), some (.int (l3 + (1 : Int32))), some (.int 0), some (.int (l5 + (1 : Int32))), none], [], Wd f fl g gl hh v tx) P) ∧
          ((¬ ((f 1992) ≤ l3)) → ((¬ (l3 < 0 ∨ 400 ≤ l3.toNatClampNeg)) ∧ (((¬ ((g 30) l3.toNatClampNeg) = (tS.getD l5.toNatClampNeg 0)) → WP X (d) 43 (24, [some (.ref 31), some (.float z0), some (.int l2), some (.int (l3 + (1 : Int32))), some (.int 0), some (.int (l5 + (1 : Int32))), none], [], Wd f fl g gl hh v tx) P) ∧
            ((((g 30) l3.toNatClampNeg) = (tS.getD l5.toNatClampNeg 0)) → WP X (d) 43 (24, [some (.ref 31), some (.float z0), some (.int l2), some (.int (l3 + (1 : Int32))), some (.int 1), some (.int (l5 + (1 : Int32))), none], [], Wd f fl g gl hh v tx) P)))))))))))) :
    WP X (d) 43 (24, [some (.ref 31), some (.float z0), some (.int l2), some (.int l3), some (.int l4), some (.int l5), none], [], Wd f fl g gl hh v tx) P := by
  refine WP.run hP_43 2 (c' := (27, [some (.ref 31), some (.float z0), some (.int l2), some (.int l3), some (.int l4), some (.int l5), none], [.float z0, .int l5], Wd f fl g gl hh v tx)) rfl ?_
  refine WP.of (fun _ _ => Ex.slen hP_43 rfl eS eZ ⟨rfl, Nat.le_of_ble_eq_true rfl⟩) ?_
  refine WP.br hP_43 (q := (Int32.ofNat tS.length) ≤ l5) (t := 117) (f := 33) (L := [some (.ref 31), some (.float z0), some (.int l2), some (.int l3), some (.int l4), some (.int l5), none]) (st := []) (w := Wd f fl g gl hh v tx) rfl (fun c1 => ?_) (fun c1 => ?_)
  · have h2 := h.1 c1
    refine WP.run hP_43 1 (c' := (118, [none, none, none, none, none, none, none], [.int (-1)], Wd f fl g gl hh v tx)) rfl ?_
    exact WP.retI hP_43 rfl rfl h2
  · have h3 := h.2 c1
    refine WP.run hP_43 2 (c' := (36, [some (.ref 31), some (.float z0), some (.int l2), some (.int l3), some (.int l4), some (.int l5), none], [.int l5, .float z0], Wd f fl g gl hh v tx)) rfl ?_
    refine WP.of (fun _ _ => Ex.schr hP_43 rfl eS eZ ⟨rfl, Nat.le_of_ble_eq_true rfl⟩ h3.1) ?_
    have h4 := h3.2
    refine WP.run hP_43 3 (c' := (45, [some (.ref 31), some (.float z0), some (.int l2), some (.int l3), some (.int l4), some (.int l5), some (.int (tS.getD l5.toNatClampNeg 0))], [.int 32, .int (tS.getD l5.toNatClampNeg 0)], Wd f fl g gl hh v tx)) rfl ?_
    refine WP.br hP_43 (q := (tS.getD l5.toNatClampNeg 0) = 32) (t := 85) (f := 48) (L := [some (.ref 31), some (.float z0), some (.int l2), some (.int l3), some (.int l4), some (.int l5), some (.int (tS.getD l5.toNatClampNeg 0))]) (st := []) (w := Wd f fl g gl hh v tx) rfl (fun c5 => ?_) (fun c5 => ?_)
    · have h6 := h4.1 c5
      refine WP.run hP_43 1 (c' := (87, [some (.ref 31), some (.float z0), some (.int l2), some (.int l3), some (.int l4), some (.int l5), none], [.int l4], Wd f fl g gl hh v tx)) rfl ?_
      refine WP.br hP_43 (q := l4 = 0) (t := 100) (f := 90) (L := [some (.ref 31), some (.float z0), some (.int l2), some (.int l3), some (.int l4), some (.int l5), none]) (st := []) (w := Wd f fl g gl hh v tx) rfl (fun c7 => ?_) (fun c7 => ?_)
      · have h8 := h6.1 c7
        refine WP.run hP_43 3 (c' := (107, [some (.ref 31), some (.float z0), some (.int (l2 + (1 : Int32))), none, none, some (.int l5), none], [.int (f 1991)], Wd f fl g gl hh v tx)) rfl ?_
        refine WP.run hP_43 2 (c' := (109, [some (.ref 31), some (.float z0), some (.int (l2 + (1 : Int32))), some (.int (f 1991)), none, some (.int l5), none], [.int 1], Wd f fl g gl hh v tx)) rfl ?_
        refine WP.run hP_43 1 (c' := (111, [some (.ref 31), some (.float z0), some (.int (l2 + (1 : Int32))), some (.int (f 1991)), some (.int 1), some (.int l5), none], [], Wd f fl g gl hh v tx)) rfl ?_
        refine WP.run hP_43 2 (c' := (24, [some (.ref 31), some (.float z0), some (.int (l2 + (1 : Int32))), some (.int (f 1991)), some (.int 1), some (.int (l5 + (1 : Int32))), none], [], Wd f fl g gl hh v tx)) rfl ?_
        exact h8
      · have h9 := h6.2 c7
        refine WP.run hP_43 3 (c' := (95, [some (.ref 31), some (.float z0), some (.int l2), some (.int l3), some (.int l4), some (.int l5), none], [.int (f 1992), .int l3], Wd f fl g gl hh v tx)) rfl ?_
        refine WP.br hP_43 (q := ¬ l3 = (f 1992)) (t := 100) (f := 98) (L := [some (.ref 31), some (.float z0), some (.int l2), some (.int l3), some (.int l4), some (.int l5), none]) (st := []) (w := Wd f fl g gl hh v tx) rfl (fun c10 => ?_) (fun c10 => ?_)
        · have h11 := h9.1 c10
          refine WP.run hP_43 3 (c' := (107, [some (.ref 31), some (.float z0), some (.int (l2 + (1 : Int32))), none, none, some (.int l5), none], [.int (f 1991)], Wd f fl g gl hh v tx)) rfl ?_
          refine WP.run hP_43 2 (c' := (109, [some (.ref 31), some (.float z0), some (.int (l2 + (1 : Int32))), some (.int (f 1991)), none, some (.int l5), none], [.int 1], Wd f fl g gl hh v tx)) rfl ?_
          refine WP.run hP_43 1 (c' := (111, [some (.ref 31), some (.float z0), some (.int (l2 + (1 : Int32))), some (.int (f 1991)), some (.int 1), some (.int l5), none], [], Wd f fl g gl hh v tx)) rfl ?_
          refine WP.run hP_43 2 (c' := (24, [some (.ref 31), some (.float z0), some (.int (l2 + (1 : Int32))), some (.int (f 1991)), some (.int 1), some (.int (l5 + (1 : Int32))), none], [], Wd f fl g gl hh v tx)) rfl ?_
          exact h11
        · have h12 := h9.2 (Classical.not_not.mp c10)
          refine WP.run hP_43 1 (c' := (99, [some (.ref 31), some (.float z0), some (.int l2), some (.int l3), some (.int l4), some (.int l5), none], [.int l2], Wd f fl g gl hh v tx)) rfl ?_
          exact WP.retI hP_43 rfl rfl h12
    · have h13 := h4.2 c5
      refine WP.run hP_43 1 (c' := (50, [some (.ref 31), some (.float z0), some (.int l2), some (.int l3), some (.int l4), some (.int l5), some (.int (tS.getD l5.toNatClampNeg 0))], [.int l4], Wd f fl g gl hh v tx)) rfl ?_
      refine WP.br hP_43 (q := l4 = 0) (t := 76) (f := 53) (L := [some (.ref 31), some (.float z0), some (.int l2), some (.int l3), some (.int l4), some (.int l5), some (.int (tS.getD l5.toNatClampNeg 0))]) (st := []) (w := Wd f fl g gl hh v tx) rfl (fun c14 => ?_) (fun c14 => ?_)
      · have h15 := h13.1 c14
        refine WP.run hP_43 1 (c' := (77, [some (.ref 31), some (.float z0), some (.int l2), some (.int l3), none, some (.int l5), none], [.int 0], Wd f fl g gl hh v tx)) rfl ?_
        refine WP.run hP_43 1 (c' := (79, [some (.ref 31), some (.float z0), some (.int l2), some (.int l3), some (.int 0), some (.int l5), none], [], Wd f fl g gl hh v tx)) rfl ?_
        refine WP.run hP_43 2 (c' := (111, [some (.ref 31), some (.float z0), some (.int l2), some (.int (l3 + (1 : Int32))), some (.int 0), some (.int l5), none], [], Wd f fl g gl hh v tx)) rfl ?_
        refine WP.run hP_43 2 (c' := (24, [some (.ref 31), some (.float z0), some (.int l2), some (.int (l3 + (1 : Int32))), some (.int 0), some (.int (l5 + (1 : Int32))), none], [], Wd f fl g gl hh v tx)) rfl ?_
        exact h15
      · have h16 := h13.2 c14
        refine WP.run hP_43 3 (c' := (58, [some (.ref 31), some (.float z0), some (.int l2), some (.int l3), some (.int l4), some (.int l5), some (.int (tS.getD l5.toNatClampNeg 0))], [.int (f 1992), .int l3], Wd f fl g gl hh v tx)) rfl ?_
        refine WP.br hP_43 (q := (f 1992) ≤ l3) (t := 76) (f := 61) (L := [some (.ref 31), some (.float z0), some (.int l2), some (.int l3), some (.int l4), some (.int l5), some (.int (tS.getD l5.toNatClampNeg 0))]) (st := []) (w := Wd f fl g gl hh v tx) rfl (fun c17 => ?_) (fun c17 => ?_)
        · have h18 := h16.1 c17
          refine WP.run hP_43 1 (c' := (77, [some (.ref 31), some (.float z0), some (.int l2), some (.int l3), none, some (.int l5), none], [.int 0], Wd f fl g gl hh v tx)) rfl ?_
          refine WP.run hP_43 1 (c' := (79, [some (.ref 31), some (.float z0), some (.int l2), some (.int l3), some (.int 0), some (.int l5), none], [], Wd f fl g gl hh v tx)) rfl ?_
          refine WP.run hP_43 2 (c' := (111, [some (.ref 31), some (.float z0), some (.int l2), some (.int (l3 + (1 : Int32))), some (.int 0), some (.int l5), none], [], Wd f fl g gl hh v tx)) rfl ?_
          refine WP.run hP_43 2 (c' := (24, [some (.ref 31), some (.float z0), some (.int l2), some (.int (l3 + (1 : Int32))), some (.int 0), some (.int (l5 + (1 : Int32))), none], [], Wd f fl g gl hh v tx)) rfl ?_
          exact h18
        · have h19 := h16.2 c17
          refine WP.run hP_43 2 (c' := (65, [some (.ref 31), some (.float z0), some (.int l2), some (.int l3), some (.int l4), some (.int l5), some (.int (tS.getD l5.toNatClampNeg 0))], [(v 1986)], Wd f fl g gl hh v tx)) rfl ?_
          rw [e2]
          refine WP.run hP_43 1 (c' := (66, [some (.ref 31), some (.float z0), some (.int l2), some (.int l3), some (.int l4), some (.int l5), some (.int (tS.getD l5.toNatClampNeg 0))], [.int l3, .ref 30], Wd f fl g gl hh v tx)) rfl ?_
          refine WP.of (fun _ _ => Ex.iald hP_43 rfl (Wa_30 _ _ _ _ _ _ _) h19.1) ?_
          have h20 := h19.2
          refine WP.run hP_43 1 (c' := (69, [some (.ref 31), some (.float z0), some (.int l2), some (.int l3), some (.int l4), some (.int l5), some (.int (tS.getD l5.toNatClampNeg 0))], [.int (tS.getD l5.toNatClampNeg 0), .int ((g 30) l3.toNatClampNeg)], Wd f fl g gl hh v tx)) rfl ?_
          refine WP.br hP_43 (q := ¬ ((g 30) l3.toNatClampNeg) = (tS.getD l5.toNatClampNeg 0)) (t := 76) (f := 72) (L := [some (.ref 31), some (.float z0), some (.int l2), some (.int l3), some (.int l4), some (.int l5), some (.int (tS.getD l5.toNatClampNeg 0))]) (st := []) (w := Wd f fl g gl hh v tx) rfl (fun c21 => ?_) (fun c21 => ?_)
          · have h22 := h20.1 c21
            refine WP.run hP_43 1 (c' := (77, [some (.ref 31), some (.float z0), some (.int l2), some (.int l3), none, some (.int l5), none], [.int 0], Wd f fl g gl hh v tx)) rfl ?_
            refine WP.run hP_43 1 (c' := (79, [some (.ref 31), some (.float z0), some (.int l2), some (.int l3), some (.int 0), some (.int l5), none], [], Wd f fl g gl hh v tx)) rfl ?_
            refine WP.run hP_43 2 (c' := (111, [some (.ref 31), some (.float z0), some (.int l2), some (.int (l3 + (1 : Int32))), some (.int 0), some (.int l5), none], [], Wd f fl g gl hh v tx)) rfl ?_
            refine WP.run hP_43 2 (c' := (24, [some (.ref 31), some (.float z0), some (.int l2), some (.int (l3 + (1 : Int32))), some (.int 0), some (.int (l5 + (1 : Int32))), none], [], Wd f fl g gl hh v tx)) rfl ?_
            exact h22
          · have h23 := h20.2 (Classical.not_not.mp c21)
            refine WP.run hP_43 3 (c' := (79, [some (.ref 31), some (.float z0), some (.int l2), some (.int l3), some (.int 1), some (.int l5), none], [], Wd f fl g gl hh v tx)) rfl ?_
            refine WP.run hP_43 2 (c' := (111, [some (.ref 31), some (.float z0), some (.int l2), some (.int (l3 + (1 : Int32))), some (.int 1), some (.int l5), none], [], Wd f fl g gl hh v tx)) rfl ?_
            refine WP.run hP_43 2 (c' := (24, [some (.ref 31), some (.float z0), some (.int l2), some (.int (l3 + (1 : Int32))), some (.int 1), some (.int (l5 + (1 : Int32))), none], [], Wd f fl g gl hh v tx)) rfl ?_
            exact h23

set_option maxRecDepth 20000 in
theorem b_m_isSmall_0 (X : mm_X) (d : Nat) (f : Nat → Int32) (fl : Nat → Int64) (g : Nat → Nat → Int32) (gl : Nat → Nat → Int64) (hh : Nat → Nat → Option Nat) (v : Nat → Value) (tx : mm_W) (p0 : Int32)  (P : Option Value → mm_W → Prop)
    (h : ((p0 < 97) → P (some (.int 0)) (Wd f fl g gl hh v tx)) ∧
    ((¬ (p0 < 97)) → (((122 < p0) → P (some (.int 0)) (Wd f fl g gl hh v tx)) ∧
      ((¬ (122 < p0)) → P (some (.int 1)) (Wd f fl g gl hh v tx))))) :
    WP X (d) 151 (0, [some (.int p0)], [], Wd f fl g gl hh v tx) P := by
  refine WP.run hP_151 2 (c' := (3, [some (.int p0)], [.int 97, .int p0], Wd f fl g gl hh v tx)) rfl ?_
  refine WP.br hP_151 (q := p0 < 97) (t := 16) (f := 6) (L := [some (.int p0)]) (st := []) (w := Wd f fl g gl hh v tx) rfl (fun c1 => ?_) (fun c1 => ?_)
  · have h2 := h.1 c1
    refine WP.run hP_151 1 (c' := (17, [none], [.int 0], Wd f fl g gl hh v tx)) rfl ?_
    exact WP.ret hP_151 (r := some (.int 0)) (w' := Wd f fl g gl hh v tx) rfl h2
  · have h3 := h.2 c1
    refine WP.run hP_151 2 (c' := (9, [some (.int p0)], [.int 122, .int p0], Wd f fl g gl hh v tx)) rfl ?_
    refine WP.br hP_151 (q := 122 < p0) (t := 16) (f := 12) (L := [some (.int p0)]) (st := []) (w := Wd f fl g gl hh v tx) rfl (fun c4 => ?_) (fun c4 => ?_)
    · have h5 := h3.1 c4
      refine WP.run hP_151 1 (c' := (17, [none], [.int 0], Wd f fl g gl hh v tx)) rfl ?_
      exact WP.ret hP_151 (r := some (.int 0)) (w' := Wd f fl g gl hh v tx) rfl h5
    · have h6 := h3.2 c4
      refine WP.run hP_151 2 (c' := (17, [some (.int p0)], [.int 1], Wd f fl g gl hh v tx)) rfl ?_
      exact WP.ret hP_151 (r := some (.int 1)) (w' := Wd f fl g gl hh v tx) rfl h6

set_option maxRecDepth 20000 in
theorem b_m_isDigit_0 (X : mm_X) (d : Nat) (f : Nat → Int32) (fl : Nat → Int64) (g : Nat → Nat → Int32) (gl : Nat → Nat → Int64) (hh : Nat → Nat → Option Nat) (v : Nat → Value) (tx : mm_W) (p0 : Int32)  (P : Option Value → mm_W → Prop)
    (h : ((p0 < 48) → P (some (.int 0)) (Wd f fl g gl hh v tx)) ∧
    ((¬ (p0 < 48)) → (((57 < p0) → P (some (.int 0)) (Wd f fl g gl hh v tx)) ∧
      ((¬ (57 < p0)) → P (some (.int 1)) (Wd f fl g gl hh v tx))))) :
    WP X (d) 152 (0, [some (.int p0)], [], Wd f fl g gl hh v tx) P := by
  refine WP.run hP_152 2 (c' := (3, [some (.int p0)], [.int 48, .int p0], Wd f fl g gl hh v tx)) rfl ?_
  refine WP.br hP_152 (q := p0 < 48) (t := 16) (f := 6) (L := [some (.int p0)]) (st := []) (w := Wd f fl g gl hh v tx) rfl (fun c1 => ?_) (fun c1 => ?_)
  · have h2 := h.1 c1
    refine WP.run hP_152 1 (c' := (17, [none], [.int 0], Wd f fl g gl hh v tx)) rfl ?_
    exact WP.ret hP_152 (r := some (.int 0)) (w' := Wd f fl g gl hh v tx) rfl h2
  · have h3 := h.2 c1
    refine WP.run hP_152 2 (c' := (9, [some (.int p0)], [.int 57, .int p0], Wd f fl g gl hh v tx)) rfl ?_
    refine WP.br hP_152 (q := 57 < p0) (t := 16) (f := 12) (L := [some (.int p0)]) (st := []) (w := Wd f fl g gl hh v tx) rfl (fun c4 => ?_) (fun c4 => ?_)
    · have h5 := h3.1 c4
      refine WP.run hP_152 1 (c' := (17, [none], [.int 0], Wd f fl g gl hh v tx)) rfl ?_
      exact WP.ret hP_152 (r := some (.int 0)) (w' := Wd f fl g gl hh v tx) rfl h5
    · have h6 := h3.2 c4
      refine WP.run hP_152 2 (c' := (17, [some (.int p0)], [.int 1], Wd f fl g gl hh v tx)) rfl ?_
      exact WP.ret hP_152 (r := some (.int 1)) (w' := Wd f fl g gl hh v tx) rfl h6

set_option maxRecDepth 20000 in
theorem b_m_wordOf_0 (X : mm_X) (d : Nat) (f : Nat → Int32) (fl : Nat → Int64) (g : Nat → Nat → Int32) (gl : Nat → Nat → Int64) (hh : Nat → Nat → Option Nat) (v : Nat → Value) (tx : mm_W) (p0 : Int32) (p1 : Int32)  (P : Option Value → mm_W → Prop)
    (h : WP X (d) 153 (5, [some (.ref 74), some (.int p0), some (.int p1), some (.int 1), some (.int 0), none, none, none], [], Wd f fl g gl hh v tx) P) :
    WP X (d) 153 (0, [some (.ref 74), some (.int p0), some (.int p1), none, none, none, none, none], [], Wd f fl g gl hh v tx) P := by
  refine WP.run hP_153 3 (c' := (3, [some (.ref 74), some (.int p0), some (.int p1), some (.int 1), none, none, none, none], [.int 0], Wd f fl g gl hh v tx)) rfl ?_
  refine WP.run hP_153 1 (c' := (5, [some (.ref 74), some (.int p0), some (.int p1), some (.int 1), some (.int 0), none, none, none], [], Wd f fl g gl hh v tx)) rfl ?_
  exact h

set_option maxRecDepth 20000 in
theorem b_m_wordOf_5 (X : mm_X) (d : Nat) (f : Nat → Int32) (fl : Nat → Int64) (g : Nat → Nat → Int32) (gl : Nat → Nat → Int64) (hh : Nat → Nat → Option Nat) (v : Nat → Value) (tx : mm_W) (l1 : Int32) (l2 : Int32) (l3 : Int32) (l4 : Int32)  (P : Option Value → mm_W → Prop)
    (h : ((121 ≤ l4) → P (some (.int 0)) (Wd f fl g gl hh v tx)) ∧
    ((¬ (121 ≤ l4)) → WP X (d) 153 (18, [some (.ref 74), some (.int l1), some (.int l2), some (.int l3), some (.int l4), some (.int 0), none, none], [], Wd f fl g gl hh v tx) P)) :
    WP X (d) 153 (5, [some (.ref 74), some (.int l1), some (.int l2), some (.int l3), some (.int l4), none, none, none], [], Wd f fl g gl hh v tx) P := by
  refine WP.run hP_153 4 (c' := (12, [some (.ref 74), some (.int l1), some (.int l2), some (.int l3), some (.int l4), none, none, none], [.int 121, .int l4], Wd f fl g gl hh v tx)) rfl ?_
  refine WP.br hP_153 (q := 121 ≤ l4) (t := 126) (f := 15) (L := [some (.ref 74), some (.int l1), some (.int l2), some (.int l3), some (.int l4), none, none, none]) (st := []) (w := Wd f fl g gl hh v tx) rfl (fun c1 => ?_) (fun c1 => ?_)
  · have h2 := h.1 c1
    refine WP.run hP_153 1 (c' := (127, [none, none, none, none, none, none, none, none], [.int 0], Wd f fl g gl hh v tx)) rfl ?_
    exact WP.retI hP_153 rfl rfl h2
  · have h3 := h.2 c1
    refine WP.run hP_153 2 (c' := (18, [some (.ref 74), some (.int l1), some (.int l2), some (.int l3), some (.int l4), some (.int 0), none, none], [], Wd f fl g gl hh v tx)) rfl ?_
    exact h3

set_option maxRecDepth 20000 in
theorem b_m_wordOf_18 (X : mm_X) (d : Nat) (f : Nat → Int32) (fl : Nat → Int64) (g : Nat → Nat → Int32) (gl : Nat → Nat → Int64) (hh : Nat → Nat → Option Nat) (v : Nat → Value) (tx : mm_W) (l1 : Int32) (l2 : Int32) (l3 : Int32) (l4 : Int32) (l5 : Int32)  (P : Option Value → mm_W → Prop)
    (h : (¬ ((l4 + l5) < 0 ∨ 121 ≤ (l4 + l5).toNatClampNeg)) ∧ (((((g 80) (l4 + l5).toNatClampNeg) = 32) → (((¬ l5 = (l2 - l1)) → WP X (d) 153 (57, [some (.ref 74), some (.int l1), some (.int l2), some (.int l3), some (.int l4), some (.int l5), some (.int 0), some (.int 0)], [], Wd f fl g gl hh v tx) P) ∧
      ((l5 = (l2 - l1)) → WP X (d) 153 (57, [some (.ref 74), some (.int l1), some (.int l2), some (.int l3), some (.int l4), some (.int l5), some (.int 1), some (.int 0)], [], Wd f fl g gl hh v tx) P))) ∧
    ((¬ ((g 80) (l4 + l5).toNatClampNeg) = 32) → WP X (d) 153 (18, [some (.ref 74), some (.int l1), some (.int l2), some (.int l3), some (.int l4), some (.int (l5 + (1 : Int32))), none, none], [], Wd f fl g gl hh v tx) P))) :
    WP X (d) 153 (18, [some (.ref 74), some (.int l1), some (.int l2), some (.int l3), some (.int l4), some (.int l5), none, none], [], Wd f fl g gl hh v tx) P := by
  refine WP.run hP_153 5 (c' := (27, [some (.ref 74), some (.int l1), some (.int l2), some (.int l3), some (.int l4), some (.int l5), none, none], [.int (l4 + l5), .ref 80], Wd f fl g gl hh v tx)) rfl ?_
  refine WP.of (fun _ _ => Ex.bald hP_153 rfl (Wa_80 _ _ _ _ _ _ _) h.1) ?_
  have h1 := h.2
  refine WP.run hP_153 1 (c' := (30, [some (.ref 74), some (.int l1), some (.int l2), some (.int l3), some (.int l4), some (.int l5), none, none], [.int 32, .int ((g 80) (l4 + l5).toNatClampNeg)], Wd f fl g gl hh v tx)) rfl ?_
  refine WP.br hP_153 (q := ((g 80) (l4 + l5).toNatClampNeg) = 32) (t := 39) (f := 33) (L := [some (.ref 74), some (.int l1), some (.int l2), some (.int l3), some (.int l4), some (.int l5), none, none]) (st := []) (w := Wd f fl g gl hh v tx) rfl (fun c2 => ?_) (fun c2 => ?_)
  · have h3 := h1.1 c2
    refine WP.run hP_153 4 (c' := (44, [some (.ref 74), some (.int l1), some (.int l2), some (.int l3), some (.int l4), some (.int l5), none, none], [.int (l2 - l1), .int l5], Wd f fl g gl hh v tx)) rfl ?_
    refine WP.br hP_153 (q := ¬ l5 = (l2 - l1)) (t := 51) (f := 47) (L := [some (.ref 74), some (.int l1), some (.int l2), some (.int l3), some (.int l4), some (.int l5), none, none]) (st := []) (w := Wd f fl g gl hh v tx) rfl (fun c4 => ?_) (fun c4 => ?_)
    · have h5 := h3.1 c4
      refine WP.run hP_153 1 (c' := (52, [some (.ref 74), some (.int l1), some (.int l2), some (.int l3), some (.int l4), some (.int l5), none, none], [.int 0], Wd f fl g gl hh v tx)) rfl ?_
      refine WP.run hP_153 2 (c' := (55, [some (.ref 74), some (.int l1), some (.int l2), some (.int l3), some (.int l4), some (.int l5), some (.int 0), none], [.int 0], Wd f fl g gl hh v tx)) rfl ?_
      refine WP.run hP_153 1 (c' := (57, [some (.ref 74), some (.int l1), some (.int l2), some (.int l3), some (.int l4), some (.int l5), some (.int 0), some (.int 0)], [], Wd f fl g gl hh v tx)) rfl ?_
      exact h5
    · have h6 := h3.2 (Classical.not_not.mp c4)
      refine WP.run hP_153 4 (c' := (55, [some (.ref 74), some (.int l1), some (.int l2), some (.int l3), some (.int l4), some (.int l5), some (.int 1), none], [.int 0], Wd f fl g gl hh v tx)) rfl ?_
      refine WP.run hP_153 1 (c' := (57, [some (.ref 74), some (.int l1), some (.int l2), some (.int l3), some (.int l4), some (.int l5), some (.int 1), some (.int 0)], [], Wd f fl g gl hh v tx)) rfl ?_
      exact h6
  · have h7 := h1.2 c2
    refine WP.run hP_153 2 (c' := (18, [some (.ref 74), some (.int l1), some (.int l2), some (.int l3), some (.int l4), some (.int (l5 + (1 : Int32))), none, none], [], Wd f fl g gl hh v tx)) rfl ?_
    exact h7

set_option maxRecDepth 20000 in
theorem b_m_wordOf_57 (X : mm_X) (d : Nat) (f : Nat → Int32) (fl : Nat → Int64) (g : Nat → Nat → Int32) (gl : Nat → Nat → Int64) (hh : Nat → Nat → Option Nat) (v : Nat → Value) (tx : mm_W) (l1 : Int32) (l2 : Int32) (l3 : Int32) (l4 : Int32) (l5 : Int32) (l6 : Int32) (l7 : Int32)  (P : Option Value → mm_W → Prop)
    (h : ((l5 ≤ l7) → (((l6 = 0) → WP X (d) 153 (5, [some (.ref 74), some (.int l1), some (.int l2), some (.int (l3 + (1 : Int32))), some (.int (l4 + (l5 + (1 : Int32)))), none, none, none], [], Wd f fl g gl hh v tx) P) ∧
      ((¬ l6 = 0) → P (some (.int l3)) (Wd f fl g gl hh v tx)))) ∧
    ((¬ (l5 ≤ l7)) → (((l6 = 0) → (((l6 = 0) → WP X (d) 153 (5, [some (.ref 74), some (.int l1), some (.int l2), some (.int (l3 + (1 : Int32))), some (.int (l4 + (l5 + (1 : Int32)))), none, none, none], [], Wd f fl g gl hh v tx) P) ∧
        ((¬ l6 = 0) → P (some (.int l3)) (Wd f fl g gl hh v tx)))) ∧
      ((¬ l6 = 0) → ((¬ ((l4 + l7) < 0 ∨ 121 ≤ (l4 + l7).toNatClampNeg)) ∧ ((¬ ((l1 + l7) < 0 ∨ 400 ≤ (l1 + l7).toNatClampNeg)) ∧ (((¬ ((g 80) (l4 + l7).toNatClampNeg) = ((g 81) (l1 + l7).toNatClampNeg)) → WP X (d) 153 (57, [some (.ref 74), some (.int l1), some (.int l2), some (.int l3), some (.int l4), some (.int l5), some (.int 0), some (.int (l7 + (1 : Int32)))], [], Wd f fl g gl hh v tx) P) ∧
        ((((g 80) (l4 + l7).toNatClampNeg) = ((g 81) (l1 + l7).toNatClampNeg)) → WP X (d) 153 (57, [some (.ref 74), some (.int l1), some (.int l2), some (.int l3), some (.int l4), some (.int l5), some (.int 1), some (.int (l7 + (1 : Int32)))], [], Wd f fl g gl hh v tx) P)))))))) :
    WP X (d) 153 (57, [some (.ref 74), some (.int l1), some (.int l2), some (.int l3), some (.int l4), some (.int l5), some (.int l6), some (.int l7)], [], Wd f fl g gl hh v tx) P := by
  refine WP.run hP_153 2 (c' := (61, [some (.ref 74), some (.int l1), some (.int l2), some (.int l3), some (.int l4), some (.int l5), some (.int l6), some (.int l7)], [.int l5, .int l7], Wd f fl g gl hh v tx)) rfl ?_
  refine WP.br hP_153 (q := l5 ≤ l7) (t := 104) (f := 64) (L := [some (.ref 74), some (.int l1), some (.int l2), some (.int l3), some (.int l4), some (.int l5), some (.int l6), some (.int l7)]) (st := []) (w := Wd f fl g gl hh v tx) rfl (fun c1 => ?_) (fun c1 => ?_)
  · have h2 := h.1 c1
    refine WP.run hP_153 1 (c' := (106, [some (.ref 74), some (.int l1), some (.int l2), some (.int l3), some (.int l4), some (.int l5), some (.int l6), none], [.int l6], Wd f fl g gl hh v tx)) rfl ?_
    refine WP.br hP_153 (q := l6 = 0) (t := 111) (f := 109) (L := [some (.ref 74), some (.int l1), some (.int l2), some (.int l3), some (.int l4), some (.int l5), some (.int l6), none]) (st := []) (w := Wd f fl g gl hh v tx) rfl (fun c3 => ?_) (fun c3 => ?_)
    · have h4 := h2.1 c3
      refine WP.run hP_153 5 (c' := (118, [some (.ref 74), some (.int l1), some (.int l2), some (.int l3), some (.int l4), some (.int l5), none, none], [.int (l4 + (l5 + (1 : Int32)))], Wd f fl g gl hh v tx)) rfl ?_
      refine WP.run hP_153 1 (c' := (120, [some (.ref 74), some (.int l1), some (.int l2), some (.int l3), some (.int (l4 + (l5 + (1 : Int32)))), some (.int l5), none, none], [], Wd f fl g gl hh v tx)) rfl ?_
      refine WP.run hP_153 2 (c' := (5, [some (.ref 74), some (.int l1), some (.int l2), some (.int (l3 + (1 : Int32))), some (.int (l4 + (l5 + (1 : Int32)))), some (.int l5), none, none], [], Wd f fl g gl hh v tx)) rfl ?_
      refine WP.clr hP_153 (pc := 5) rfl ?_
      exact h4
    · have h5 := h2.2 c3
      refine WP.run hP_153 1 (c' := (110, [some (.ref 74), some (.int l1), some (.int l2), some (.int l3), some (.int l4), some (.int l5), some (.int l6), none], [.int l3], Wd f fl g gl hh v tx)) rfl ?_
      exact WP.retI hP_153 rfl rfl h5
  · have h6 := h.2 c1
    refine WP.run hP_153 1 (c' := (66, [some (.ref 74), some (.int l1), some (.int l2), some (.int l3), some (.int l4), some (.int l5), some (.int l6), some (.int l7)], [.int l6], Wd f fl g gl hh v tx)) rfl ?_
    refine WP.br hP_153 (q := l6 = 0) (t := 104) (f := 69) (L := [some (.ref 74), some (.int l1), some (.int l2), some (.int l3), some (.int l4), some (.int l5), some (.int l6), some (.int l7)]) (st := []) (w := Wd f fl g gl hh v tx) rfl (fun c7 => ?_) (fun c7 => ?_)
    · have h8 := h6.1 c7
      refine WP.run hP_153 1 (c' := (106, [some (.ref 74), some (.int l1), some (.int l2), some (.int l3), some (.int l4), some (.int l5), some (.int l6), none], [.int l6], Wd f fl g gl hh v tx)) rfl ?_
      refine WP.br hP_153 (q := l6 = 0) (t := 111) (f := 109) (L := [some (.ref 74), some (.int l1), some (.int l2), some (.int l3), some (.int l4), some (.int l5), some (.int l6), none]) (st := []) (w := Wd f fl g gl hh v tx) rfl (fun c9 => ?_) (fun c9 => ?_)
      · have h10 := h8.1 c9
        refine WP.run hP_153 5 (c' := (118, [some (.ref 74), some (.int l1), some (.int l2), some (.int l3), some (.int l4), some (.int l5), none, none], [.int (l4 + (l5 + (1 : Int32)))], Wd f fl g gl hh v tx)) rfl ?_
        refine WP.run hP_153 1 (c' := (120, [some (.ref 74), some (.int l1), some (.int l2), some (.int l3), some (.int (l4 + (l5 + (1 : Int32)))), some (.int l5), none, none], [], Wd f fl g gl hh v tx)) rfl ?_
        refine WP.run hP_153 2 (c' := (5, [some (.ref 74), some (.int l1), some (.int l2), some (.int (l3 + (1 : Int32))), some (.int (l4 + (l5 + (1 : Int32)))), some (.int l5), none, none], [], Wd f fl g gl hh v tx)) rfl ?_
        refine WP.clr hP_153 (pc := 5) rfl ?_
        exact h10
      · have h11 := h8.2 c9
        refine WP.run hP_153 1 (c' := (110, [some (.ref 74), some (.int l1), some (.int l2), some (.int l3), some (.int l4), some (.int l5), some (.int l6), none], [.int l3], Wd f fl g gl hh v tx)) rfl ?_
        exact WP.retI hP_153 rfl rfl h11
    · have h12 := h6.2 c7
      refine WP.run hP_153 5 (c' := (78, [some (.ref 74), some (.int l1), some (.int l2), some (.int l3), some (.int l4), some (.int l5), some (.int l6), some (.int l7)], [.int (l4 + l7), .ref 80], Wd f fl g gl hh v tx)) rfl ?_
      refine WP.of (fun _ _ => Ex.bald hP_153 rfl (Wa_80 _ _ _ _ _ _ _) h12.1) ?_
      have h13 := h12.2
      refine WP.run hP_153 5 (c' := (87, [some (.ref 74), some (.int l1), some (.int l2), some (.int l3), some (.int l4), some (.int l5), some (.int l6), some (.int l7)], [.int (l1 + l7), .ref 81, .int ((g 80) (l4 + l7).toNatClampNeg)], Wd f fl g gl hh v tx)) rfl ?_
      refine WP.of (fun _ _ => Ex.bald hP_153 rfl (Wa_81 _ _ _ _ _ _ _) h13.1) ?_
      have h14 := h13.2
      refine WP.br hP_153 (q := ¬ ((g 80) (l4 + l7).toNatClampNeg) = ((g 81) (l1 + l7).toNatClampNeg)) (t := 95) (f := 91) (L := [some (.ref 74), some (.int l1), some (.int l2), some (.int l3), some (.int l4), some (.int l5), some (.int l6), some (.int l7)]) (st := []) (w := Wd f fl g gl hh v tx) rfl (fun c15 => ?_) (fun c15 => ?_)
      · have h16 := h14.1 c15
        refine WP.run hP_153 1 (c' := (96, [some (.ref 74), some (.int l1), some (.int l2), some (.int l3), some (.int l4), some (.int l5), none, some (.int l7)], [.int 0], Wd f fl g gl hh v tx)) rfl ?_
        refine WP.run hP_153 1 (c' := (98, [some (.ref 74), some (.int l1), some (.int l2), some (.int l3), some (.int l4), some (.int l5), some (.int 0), some (.int l7)], [], Wd f fl g gl hh v tx)) rfl ?_
        refine WP.run hP_153 2 (c' := (57, [some (.ref 74), some (.int l1), some (.int l2), some (.int l3), some (.int l4), some (.int l5), some (.int 0), some (.int (l7 + (1 : Int32)))], [], Wd f fl g gl hh v tx)) rfl ?_
        exact h16
      · have h17 := h14.2 (Classical.not_not.mp c15)
        refine WP.run hP_153 3 (c' := (98, [some (.ref 74), some (.int l1), some (.int l2), some (.int l3), some (.int l4), some (.int l5), some (.int 1), some (.int l7)], [], Wd f fl g gl hh v tx)) rfl ?_
        refine WP.run hP_153 2 (c' := (57, [some (.ref 74), some (.int l1), some (.int l2), some (.int l3), some (.int l4), some (.int l5), some (.int 1), some (.int (l7 + (1 : Int32)))], [], Wd f fl g gl hh v tx)) rfl ?_
        exact h17

set_option maxRecDepth 20000 in
theorem b_m_splits_0 (X : mm_X) (d : Nat) (f : Nat → Int32) (fl : Nat → Int64) (g : Nat → Nat → Int32) (gl : Nat → Nat → Int64) (hh : Nat → Nat → Option Nat) (v : Nat → Value) (tx : mm_W) (p0 : Int32)  (P : Option Value → mm_W → Prop)
    (h : WP X (d) 154 (7, [some (.ref 74), some (.int p0), some (.int 0), none, none, none], [], Wd (va_up f 4754 0) fl g gl hh v tx) P) :
    WP X (d) 154 (0, [some (.ref 74), some (.int p0), none, none, none, none], [], Wd f fl g gl hh v tx) P := by
  refine WP.run hP_154 5 (c' := (7, [some (.ref 74), some (.int p0), some (.int 0), none, none, none], [], Wd (va_up f 4754 0) fl g gl hh v tx)) rfl ?_
  exact h

set_option maxRecDepth 20000 in
theorem b_m_splits_7 (X : mm_X) (d : Nat) (f : Nat → Int32) (fl : Nat → Int64) (g : Nat → Nat → Int32) (gl : Nat → Nat → Int64) (hh : Nat → Nat → Option Nat) (v : Nat → Value) (tx : mm_W) (l1 : Int32) (l2 : Int32)  (P : Option Value → mm_W → Prop)
    (h : ((l1 ≤ l2) → ((¬ ((f 4754) < 0 ∨ 401 ≤ (f 4754).toNatClampNeg)) ∧ ((¬ ((f 4754) < 0 ∨ 401 ≤ (f 4754).toNatClampNeg)) ∧ ((¬ ((f 4754) < 0 ∨ 401 ≤ (f 4754).toNatClampNeg)) ∧ P none (Wd f fl (va_up (va_up (va_up g 85 (upd (g 85) ((f 4754).toNatClampNeg) l1)) 83 (upd (g 83) ((f 4754).toNatClampNeg) 0)) 84 (upd (g 84) ((f 4754).toNatClampNeg) 0)) gl hh v tx))))) ∧
    ((¬ (l1 ≤ l2)) → ((¬ (l2 < 0 ∨ 400 ≤ l2.toNatClampNeg)) ∧ (((¬ ((g 81) l2.toNatClampNeg) = 32) → (((((g 81) l2.toNatClampNeg) < 97) → WP X (d + 1) 154 (68, [some (.ref 74), some (.int l1), some (.int l2), some (.int ((g 81) l2.toNatClampNeg)), some (.int (l2 + (1 : Int32))), none], [], Wd f fl g gl hh v tx) P) ∧
        ((¬ (((g 81) l2.toNatClampNeg) < 97)) → (((122 < ((g 81) l2.toNatClampNeg)) → WP X (d + 1) 154 (68, [some (.ref 74), some (.int l1), some (.int l2), some (.int ((g 81) l2.toNatClampNeg)), some (.int (l2 + (1 : Int32))), none], [], Wd f fl g gl hh v tx) P) ∧
          ((¬ (122 < ((g 81) l2.toNatClampNeg))) → WP X (d + 1) 154 (43, [some (.ref 74), some (.int l1), some (.int l2), some (.int ((g 81) l2.toNatClampNeg)), some (.int (l2 + (1 : Int32))), none], [], Wd f fl g gl hh v tx) P))))) ∧
      ((((g 81) l2.toNatClampNeg) = 32) → WP X (d + 1) 154 (7, [some (.ref 74), some (.int l1), some (.int (l2 + (1 : Int32))), none, none, none], [], Wd f fl g gl hh v tx) P))))) :
    WP X (d + 1) 154 (7, [some (.ref 74), some (.int l1), some (.int l2), none, none, none], [], Wd f fl g gl hh v tx) P := by
  refine WP.run hP_154 2 (c' := (9, [some (.ref 74), some (.int l1), some (.int l2), none, none, none], [.int l1, .int l2], Wd f fl g gl hh v tx)) rfl ?_
  refine WP.br hP_154 (q := l1 ≤ l2) (t := 263) (f := 12) (L := [some (.ref 74), some (.int l1), some (.int l2), none, none, none]) (st := []) (w := Wd f fl g gl hh v tx) rfl (fun c1 => ?_) (fun c1 => ?_)
  · have h2 := h.1 c1
    refine WP.run hP_154 5 (c' := (272, [some (.ref 74), some (.int l1), none, none, none, none], [.int l1, .int (f 4754), .ref 85], Wd f fl g gl hh v tx)) rfl ?_
    refine WP.of (fun _ _ => Ex.iast hP_154 (w2 := Wd f fl (va_up g 85 (upd (g 85) ((f 4754).toNatClampNeg) l1)) gl hh v tx) rfl (Wa_85 _ _ _ _ _ _ _) h2.1 (Ws_85 _ _ _ _ _ _ _ _)) ?_
    have h3 := h2.2
    refine WP.run hP_154 5 (c' := (282, [some (.ref 74), some (.int l1), none, none, none, none], [.int 0, .int (f 4754), .ref 83], Wd f fl (va_up g 85 (upd (g 85) ((f 4754).toNatClampNeg) l1)) gl hh v tx)) rfl ?_
    refine WP.of (fun _ _ => Ex.iast hP_154 (w2 := Wd f fl (va_up (va_up g 85 (upd (g 85) ((f 4754).toNatClampNeg) l1)) 83 (upd (g 83) ((f 4754).toNatClampNeg) 0)) gl hh v tx) rfl (Wa_83 _ _ _ _ _ _ _) h3.1 (Ws_83 _ _ _ _ _ _ _ _)) ?_
    have h4 := h3.2
    refine WP.run hP_154 5 (c' := (292, [some (.ref 74), some (.int l1), none, none, none, none], [.int 0, .int (f 4754), .ref 84], Wd f fl (va_up (va_up g 85 (upd (g 85) ((f 4754).toNatClampNeg) l1)) 83 (upd (g 83) ((f 4754).toNatClampNeg) 0)) gl hh v tx)) rfl ?_
    refine WP.of (fun _ _ => Ex.iast hP_154 (w2 := Wd f fl (va_up (va_up (va_up g 85 (upd (g 85) ((f 4754).toNatClampNeg) l1)) 83 (upd (g 83) ((f 4754).toNatClampNeg) 0)) 84 (upd (g 84) ((f 4754).toNatClampNeg) 0)) gl hh v tx) rfl (Wa_84 _ _ _ _ _ _ _) h4.1 (Ws_84 _ _ _ _ _ _ _ _)) ?_
    have h5 := h4.2
    exact WP.ret hP_154 (r := none) (w' := Wd f fl (va_up (va_up (va_up g 85 (upd (g 85) ((f 4754).toNatClampNeg) l1)) 83 (upd (g 83) ((f 4754).toNatClampNeg) 0)) 84 (upd (g 84) ((f 4754).toNatClampNeg) 0)) gl hh v tx) rfl h5
  · have h6 := h.2 c1
    refine WP.run hP_154 3 (c' := (17, [some (.ref 74), some (.int l1), some (.int l2), none, none, none], [.int l2, .ref 81], Wd f fl g gl hh v tx)) rfl ?_
    refine WP.of (fun _ _ => Ex.bald hP_154 rfl (Wa_81 _ _ _ _ _ _ _) h6.1) ?_
    have h7 := h6.2
    refine WP.run hP_154 3 (c' := (22, [some (.ref 74), some (.int l1), some (.int l2), some (.int ((g 81) l2.toNatClampNeg)), none, none], [.int 32, .int ((g 81) l2.toNatClampNeg)], Wd f fl g gl hh v tx)) rfl ?_
    refine WP.br hP_154 (q := ¬ ((g 81) l2.toNatClampNeg) = 32) (t := 31) (f := 25) (L := [some (.ref 74), some (.int l1), some (.int l2), some (.int ((g 81) l2.toNatClampNeg)), none, none]) (st := []) (w := Wd f fl g gl hh v tx) rfl (fun c8 => ?_) (fun c8 => ?_)
    · have h9 := h7.1 c8
      refine WP.run hP_154 3 (c' := (34, [some (.ref 74), some (.int l1), some (.int l2), some (.int ((g 81) l2.toNatClampNeg)), none, none], [.int (l2 + (1 : Int32))], Wd f fl g gl hh v tx)) rfl ?_
      refine WP.run hP_154 2 (c' := (37, [some (.ref 74), some (.int l1), some (.int l2), some (.int ((g 81) l2.toNatClampNeg)), some (.int (l2 + (1 : Int32))), none], [.int ((g 81) l2.toNatClampNeg)], Wd f fl g gl hh v tx)) rfl ?_
      refine WP.call hP_154 hP_151 (as := [.int ((g 81) l2.toNatClampNeg)]) (pc' := 40) (L' := [some (.ref 74), some (.int l1), some (.int l2), some (.int ((g 81) l2.toNatClampNeg)), some (.int (l2 + (1 : Int32))), none]) (st' := []) (w1 := Wd f fl g gl hh v tx) rfl ⟨Nat.le_of_ble_eq_true rfl, Nat.le_of_ble_eq_true rfl⟩ rfl (b_m_isSmall_0 X (d) f fl g gl hh v tx ((g 81) l2.toNatClampNeg) _ ?_)
      refine ⟨fun c10 => ?_, fun c10 => ?_⟩
      · have h11 := h9.1 c10
        refine WP.run hP_154 1 (c' := (68, [some (.ref 74), some (.int l1), some (.int l2), some (.int ((g 81) l2.toNatClampNeg)), some (.int (l2 + (1 : Int32))), none], [], Wd f fl g gl hh v tx)) rfl ?_
        exact h11
      · have h12 := h9.2 c10
        refine ⟨fun c13 => ?_, fun c13 => ?_⟩
        · have h14 := h12.1 c13
          refine WP.run hP_154 1 (c' := (68, [some (.ref 74), some (.int l1), some (.int l2), some (.int ((g 81) l2.toNatClampNeg)), some (.int (l2 + (1 : Int32))), none], [], Wd f fl g gl hh v tx)) rfl ?_
          exact h14
        · have h15 := h12.2 c13
          refine WP.run hP_154 1 (c' := (43, [some (.ref 74), some (.int l1), some (.int l2), some (.int ((g 81) l2.toNatClampNeg)), some (.int (l2 + (1 : Int32))), none], [], Wd f fl g gl hh v tx)) rfl ?_
          exact h15
    · have h16 := h7.2 (Classical.not_not.mp c8)
      refine WP.run hP_154 2 (c' := (7, [some (.ref 74), some (.int l1), some (.int (l2 + (1 : Int32))), some (.int ((g 81) l2.toNatClampNeg)), none, none], [], Wd f fl g gl hh v tx)) rfl ?_
      refine WP.clr hP_154 (pc := 7) rfl ?_
      exact h16

set_option maxRecDepth 20000 in
theorem b_m_splits_68 (X : mm_X) (d : Nat) (f : Nat → Int32) (fl : Nat → Int64) (g : Nat → Nat → Int32) (gl : Nat → Nat → Int64) (hh : Nat → Nat → Option Nat) (v : Nat → Value) (tx : mm_W) (l1 : Int32) (l2 : Int32) (l3 : Int32) (l4 : Int32)  (P : Option Value → mm_W → Prop)
    (h : ((l3 < 48) → WP X (d + 1) 154 (100, [some (.ref 74), some (.int l1), some (.int l2), some (.int l3), some (.int l4), none], [], Wd f fl g gl hh v tx) P) ∧
    ((¬ (l3 < 48)) → (((57 < l3) → WP X (d + 1) 154 (100, [some (.ref 74), some (.int l1), some (.int l2), some (.int l3), some (.int l4), none], [], Wd f fl g gl hh v tx) P) ∧
      ((¬ (57 < l3)) → WP X (d + 1) 154 (75, [some (.ref 74), some (.int l1), some (.int l2), some (.int l3), some (.int l4), none], [], Wd f fl g gl hh v tx) P)))) :
    WP X (d + 1) 154 (68, [some (.ref 74), some (.int l1), some (.int l2), some (.int l3), some (.int l4), none], [], Wd f fl g gl hh v tx) P := by
  refine WP.run hP_154 1 (c' := (69, [some (.ref 74), some (.int l1), some (.int l2), some (.int l3), some (.int l4), none], [.int l3], Wd f fl g gl hh v tx)) rfl ?_
  refine WP.call hP_154 hP_152 (as := [.int l3]) (pc' := 72) (L' := [some (.ref 74), some (.int l1), some (.int l2), some (.int l3), some (.int l4), none]) (st' := []) (w1 := Wd f fl g gl hh v tx) rfl ⟨Nat.le_of_ble_eq_true rfl, Nat.le_of_ble_eq_true rfl⟩ rfl (b_m_isDigit_0 X (d) f fl g gl hh v tx l3 _ ?_)
  refine ⟨fun c1 => ?_, fun c1 => ?_⟩
  · have h2 := h.1 c1
    refine WP.run hP_154 1 (c' := (100, [some (.ref 74), some (.int l1), some (.int l2), some (.int l3), some (.int l4), none], [], Wd f fl g gl hh v tx)) rfl ?_
    exact h2
  · have h3 := h.2 c1
    refine ⟨fun c4 => ?_, fun c4 => ?_⟩
    · have h5 := h3.1 c4
      refine WP.run hP_154 1 (c' := (100, [some (.ref 74), some (.int l1), some (.int l2), some (.int l3), some (.int l4), none], [], Wd f fl g gl hh v tx)) rfl ?_
      exact h5
    · have h6 := h3.2 c4
      refine WP.run hP_154 1 (c' := (75, [some (.ref 74), some (.int l1), some (.int l2), some (.int l3), some (.int l4), none], [], Wd f fl g gl hh v tx)) rfl ?_
      exact h6

set_option maxRecDepth 20000 in
theorem b_m_splits_43 (X : mm_X) (d : Nat) (f : Nat → Int32) (fl : Nat → Int64) (g : Nat → Nat → Int32) (gl : Nat → Nat → Int64) (hh : Nat → Nat → Option Nat) (v : Nat → Value) (tx : mm_W) (l1 : Int32) (l2 : Int32) (l3 : Int32) (l4 : Int32)  (P : Option Value → mm_W → Prop)
    (h : ((l1 ≤ l4) → WP X (d + 1) 154 (68, [some (.ref 74), some (.int l1), some (.int l2), some (.int l3), some (.int l4), none], [], Wd f fl g gl hh v tx) P) ∧
    ((¬ (l1 ≤ l4)) → ((¬ (l4 < 0 ∨ 400 ≤ l4.toNatClampNeg)) ∧ (((((g 81) l4.toNatClampNeg) < 97) → WP X (d + 1) 154 (68, [some (.ref 74), some (.int l1), some (.int l2), some (.int l3), some (.int l4), none], [], Wd f fl g gl hh v tx) P) ∧
      ((¬ (((g 81) l4.toNatClampNeg) < 97)) → (((122 < ((g 81) l4.toNatClampNeg)) → WP X (d + 1) 154 (68, [some (.ref 74), some (.int l1), some (.int l2), some (.int l3), some (.int l4), none], [], Wd f fl g gl hh v tx) P) ∧
        ((¬ (122 < ((g 81) l4.toNatClampNeg))) → WP X (d + 1) 154 (43, [some (.ref 74), some (.int l1), some (.int l2), some (.int l3), some (.int (l4 + (1 : Int32))), none], [], Wd f fl g gl hh v tx) P))))))) :
    WP X (d + 1) 154 (43, [some (.ref 74), some (.int l1), some (.int l2), some (.int l3), some (.int l4), none], [], Wd f fl g gl hh v tx) P := by
  refine WP.run hP_154 2 (c' := (46, [some (.ref 74), some (.int l1), some (.int l2), some (.int l3), some (.int l4), none], [.int l1, .int l4], Wd f fl g gl hh v tx)) rfl ?_
  refine WP.br hP_154 (q := l1 ≤ l4) (t := 68) (f := 49) (L := [some (.ref 74), some (.int l1), some (.int l2), some (.int l3), some (.int l4), none]) (st := []) (w := Wd f fl g gl hh v tx) rfl (fun c1 => ?_) (fun c1 => ?_)
  · have h2 := h.1 c1
    exact h2
  · have h3 := h.2 c1
    refine WP.run hP_154 3 (c' := (55, [some (.ref 74), some (.int l1), some (.int l2), some (.int l3), some (.int l4), none], [.int l4, .ref 81], Wd f fl g gl hh v tx)) rfl ?_
    refine WP.of (fun _ _ => Ex.bald hP_154 rfl (Wa_81 _ _ _ _ _ _ _) h3.1) ?_
    have h4 := h3.2
    refine WP.call hP_154 hP_151 (as := [.int ((g 81) l4.toNatClampNeg)]) (pc' := 59) (L' := [some (.ref 74), some (.int l1), some (.int l2), some (.int l3), some (.int l4), none]) (st' := []) (w1 := Wd f fl g gl hh v tx) rfl ⟨Nat.le_of_ble_eq_true rfl, Nat.le_of_ble_eq_true rfl⟩ rfl (b_m_isSmall_0 X (d) f fl g gl hh v tx ((g 81) l4.toNatClampNeg) _ ?_)
    refine ⟨fun c5 => ?_, fun c5 => ?_⟩
    · have h6 := h4.1 c5
      refine WP.run hP_154 1 (c' := (68, [some (.ref 74), some (.int l1), some (.int l2), some (.int l3), some (.int l4), none], [], Wd f fl g gl hh v tx)) rfl ?_
      exact h6
    · have h7 := h4.2 c5
      refine ⟨fun c8 => ?_, fun c8 => ?_⟩
      · have h9 := h7.1 c8
        refine WP.run hP_154 1 (c' := (68, [some (.ref 74), some (.int l1), some (.int l2), some (.int l3), some (.int l4), none], [], Wd f fl g gl hh v tx)) rfl ?_
        exact h9
      · have h10 := h7.2 c8
        refine WP.run hP_154 3 (c' := (43, [some (.ref 74), some (.int l1), some (.int l2), some (.int l3), some (.int (l4 + (1 : Int32))), none], [], Wd f fl g gl hh v tx)) rfl ?_
        exact h10

set_option maxRecDepth 20000 in
theorem b_m_splits_100 (X : mm_X) (d : Nat) (f : Nat → Int32) (fl : Nat → Int64) (g : Nat → Nat → Int32) (gl : Nat → Nat → Int64) (hh : Nat → Nat → Option Nat) (v : Nat → Value) (tx : mm_W) (l1 : Int32) (l2 : Int32) (l3 : Int32) (l4 : Int32)  (P : Option Value → mm_W → Prop)
    (h : (¬ ((f 4754) < 0 ∨ 401 ≤ (f 4754).toNatClampNeg)) ∧ ((¬ ((f 4754) < 0 ∨ 401 ≤ (f 4754).toNatClampNeg)) ∧ (((l3 < 97) → (((l3 < 48) → ((¬ ((f 4754) < 0 ∨ 401 ≤ (f 4754).toNatClampNeg)) ∧ WP X (d + 1) 154 (169, [some (.ref 74), some (.int l1), none, some (.int l3), some (.int l4), some (.int l2)], [], Wd f fl (va_up (va_up (va_up g 85 (upd (g 85) ((f 4754).toNatClampNeg) l2)) 84 (upd (g 84) ((f 4754).toNatClampNeg) 0)) 83 (upd (g 83) ((f 4754).toNatClampNeg) ((100 : Int32) + (l3 &&& (255 : Int32))))) gl hh v tx) P)) ∧
      ((¬ (l3 < 48)) → (((57 < l3) → ((¬ ((f 4754) < 0 ∨ 401 ≤ (f 4754).toNatClampNeg)) ∧ WP X (d + 1) 154 (169, [some (.ref 74), some (.int l1), none, some (.int l3), some (.int l4), some (.int l2)], [], Wd f fl (va_up (va_up (va_up g 85 (upd (g 85) ((f 4754).toNatClampNeg) l2)) 84 (upd (g 84) ((f 4754).toNatClampNeg) 0)) 83 (upd (g 83) ((f 4754).toNatClampNeg) ((100 : Int32) + (l3 &&& (255 : Int32))))) gl hh v tx) P)) ∧
        ((¬ (57 < l3)) → ((¬ ((f 4754) < 0 ∨ 401 ≤ (f 4754).toNatClampNeg)) ∧ WP X (d + 1) 154 (169, [some (.ref 74), some (.int l1), none, some (.int l3), some (.int l4), some (.int l2)], [], Wd f fl (va_up (va_up (va_up g 85 (upd (g 85) ((f 4754).toNatClampNeg) l2)) 84 (upd (g 84) ((f 4754).toNatClampNeg) 0)) 83 (upd (g 83) ((f 4754).toNatClampNeg) 50)) gl hh v tx) P)))))) ∧
    ((¬ (l3 < 97)) → (((122 < l3) → (((l3 < 48) → ((¬ ((f 4754) < 0 ∨ 401 ≤ (f 4754).toNatClampNeg)) ∧ WP X (d + 1) 154 (169, [some (.ref 74), some (.int l1), none, some (.int l3), some (.int l4), some (.int l2)], [], Wd f fl (va_up (va_up (va_up g 85 (upd (g 85) ((f 4754).toNatClampNeg) l2)) 84 (upd (g 84) ((f 4754).toNatClampNeg) 0)) 83 (upd (g 83) ((f 4754).toNatClampNeg) ((100 : Int32) + (l3 &&& (255 : Int32))))) gl hh v tx) P)) ∧
        ((¬ (l3 < 48)) → (((57 < l3) → ((¬ ((f 4754) < 0 ∨ 401 ≤ (f 4754).toNatClampNeg)) ∧ WP X (d + 1) 154 (169, [some (.ref 74), some (.int l1), none, some (.int l3), some (.int l4), some (.int l2)], [], Wd f fl (va_up (va_up (va_up g 85 (upd (g 85) ((f 4754).toNatClampNeg) l2)) 84 (upd (g 84) ((f 4754).toNatClampNeg) 0)) 83 (upd (g 83) ((f 4754).toNatClampNeg) ((100 : Int32) + (l3 &&& (255 : Int32))))) gl hh v tx) P)) ∧
          ((¬ (57 < l3)) → ((¬ ((f 4754) < 0 ∨ 401 ≤ (f 4754).toNatClampNeg)) ∧ WP X (d + 1) 154 (169, [some (.ref 74), some (.int l1), none, some (.int l3), some (.int l4), some (.int l2)], [], Wd f fl (va_up (va_up (va_up g 85 (upd (g 85) ((f 4754).toNatClampNeg) l2)) 84 (upd (g 84) ((f 4754).toNatClampNeg) 0)) 83 (upd (g 83) ((f 4754).toNatClampNeg) 50)) gl hh v tx) P)))))) ∧
      ((¬ (122 < l3)) → WP X (d) 153 (0, [some (.ref 74), some (.int l2), some (.int l4), none, none, none, none, none], [], Wd f fl (va_up (va_up g 85 (upd (g 85) ((f 4754).toNatClampNeg) l2)) 84 (upd (g 84) ((f 4754).toNatClampNeg) 0)) gl hh v tx) (fun rv w2 => WP X (d + 1) 154 (142, [some (.ref 74), some (.int l1), some (.int l2), some (.int l3), some (.int l4), none], rv.toList ++ [.int (f 4754), .ref 83], w2) P))))))) :
    WP X (d + 1) 154 (100, [some (.ref 74), some (.int l1), some (.int l2), some (.int l3), some (.int l4), none], [], Wd f fl g gl hh v tx) P := by
  refine WP.run hP_154 5 (c' := (109, [some (.ref 74), some (.int l1), some (.int l2), some (.int l3), some (.int l4), none], [.int l2, .int (f 4754), .ref 85], Wd f fl g gl hh v tx)) rfl ?_
  refine WP.of (fun _ _ => Ex.iast hP_154 (w2 := Wd f fl (va_up g 85 (upd (g 85) ((f 4754).toNatClampNeg) l2)) gl hh v tx) rfl (Wa_85 _ _ _ _ _ _ _) h.1 (Ws_85 _ _ _ _ _ _ _ _)) ?_
  have h1 := h.2
  refine WP.run hP_154 5 (c' := (119, [some (.ref 74), some (.int l1), some (.int l2), some (.int l3), some (.int l4), none], [.int 0, .int (f 4754), .ref 84], Wd f fl (va_up g 85 (upd (g 85) ((f 4754).toNatClampNeg) l2)) gl hh v tx)) rfl ?_
  refine WP.of (fun _ _ => Ex.iast hP_154 (w2 := Wd f fl (va_up (va_up g 85 (upd (g 85) ((f 4754).toNatClampNeg) l2)) 84 (upd (g 84) ((f 4754).toNatClampNeg) 0)) gl hh v tx) rfl (Wa_84 _ _ _ _ _ _ _) h1.1 (Ws_84 _ _ _ _ _ _ _ _)) ?_
  have h2 := h1.2
  refine WP.run hP_154 5 (c' := (129, [some (.ref 74), some (.int l1), some (.int l2), some (.int l3), some (.int l4), none], [.int l3, .int (f 4754), .ref 83], Wd f fl (va_up (va_up g 85 (upd (g 85) ((f 4754).toNatClampNeg) l2)) 84 (upd (g 84) ((f 4754).toNatClampNeg) 0)) gl hh v tx)) rfl ?_
  refine WP.call hP_154 hP_151 (as := [.int l3]) (pc' := 132) (L' := [some (.ref 74), some (.int l1), some (.int l2), some (.int l3), some (.int l4), none]) (st' := [.int (f 4754), .ref 83]) (w1 := Wd f fl (va_up (va_up g 85 (upd (g 85) ((f 4754).toNatClampNeg) l2)) 84 (upd (g 84) ((f 4754).toNatClampNeg) 0)) gl hh v tx) rfl ⟨Nat.le_of_ble_eq_true rfl, Nat.le_of_ble_eq_true rfl⟩ rfl (b_m_isSmall_0 X (d) f fl (va_up (va_up g 85 (upd (g 85) ((f 4754).toNatClampNeg) l2)) 84 (upd (g 84) ((f 4754).toNatClampNeg) 0)) gl hh v tx l3 _ ?_)
  refine ⟨fun c3 => ?_, fun c3 => ?_⟩
  · have h4 := h2.1 c3
    refine WP.run hP_154 2 (c' := (146, [some (.ref 74), some (.int l1), some (.int l2), some (.int l3), some (.int l4), none], [.int l3, .int (f 4754), .ref 83], Wd f fl (va_up (va_up g 85 (upd (g 85) ((f 4754).toNatClampNeg) l2)) 84 (upd (g 84) ((f 4754).toNatClampNeg) 0)) gl hh v tx)) rfl ?_
    refine WP.call hP_154 hP_152 (as := [.int l3]) (pc' := 149) (L' := [some (.ref 74), some (.int l1), some (.int l2), some (.int l3), some (.int l4), none]) (st' := [.int (f 4754), .ref 83]) (w1 := Wd f fl (va_up (va_up g 85 (upd (g 85) ((f 4754).toNatClampNeg) l2)) 84 (upd (g 84) ((f 4754).toNatClampNeg) 0)) gl hh v tx) rfl ⟨Nat.le_of_ble_eq_true rfl, Nat.le_of_ble_eq_true rfl⟩ rfl (b_m_isDigit_0 X (d) f fl (va_up (va_up g 85 (upd (g 85) ((f 4754).toNatClampNeg) l2)) 84 (upd (g 84) ((f 4754).toNatClampNeg) 0)) gl hh v tx l3 _ ?_)
    refine ⟨fun c5 => ?_, fun c5 => ?_⟩
    · have h6 := h4.1 c5
      refine WP.run hP_154 6 (c' := (165, [some (.ref 74), some (.int l1), some (.int l2), some (.int l3), some (.int l4), none], [.int ((100 : Int32) + (l3 &&& (255 : Int32))), .int (f 4754), .ref 83], Wd f fl (va_up (va_up g 85 (upd (g 85) ((f 4754).toNatClampNeg) l2)) 84 (upd (g 84) ((f 4754).toNatClampNeg) 0)) gl hh v tx)) rfl ?_
      refine WP.of (fun _ _ => Ex.iast hP_154 (w2 := Wd f fl (va_up (va_up (va_up g 85 (upd (g 85) ((f 4754).toNatClampNeg) l2)) 84 (upd (g 84) ((f 4754).toNatClampNeg) 0)) 83 (upd (g 83) ((f 4754).toNatClampNeg) ((100 : Int32) + (l3 &&& (255 : Int32))))) gl hh v tx) rfl (Wa_83 _ _ _ _ _ _ _) h6.1 (Ws_83 _ _ _ _ _ _ _ _)) ?_
      have h7 := h6.2
      refine WP.run hP_154 2 (c' := (169, [some (.ref 74), some (.int l1), some (.int l2), some (.int l3), some (.int l4), some (.int l2)], [], Wd f fl (va_up (va_up (va_up g 85 (upd (g 85) ((f 4754).toNatClampNeg) l2)) 84 (upd (g 84) ((f 4754).toNatClampNeg) 0)) 83 (upd (g 83) ((f 4754).toNatClampNeg) ((100 : Int32) + (l3 &&& (255 : Int32))))) gl hh v tx)) rfl ?_
      refine WP.clr hP_154 (pc := 169) rfl ?_
      exact h7
    · have h8 := h4.2 c5
      refine ⟨fun c9 => ?_, fun c9 => ?_⟩
      · have h10 := h8.1 c9
        refine WP.run hP_154 6 (c' := (165, [some (.ref 74), some (.int l1), some (.int l2), some (.int l3), some (.int l4), none], [.int ((100 : Int32) + (l3 &&& (255 : Int32))), .int (f 4754), .ref 83], Wd f fl (va_up (va_up g 85 (upd (g 85) ((f 4754).toNatClampNeg) l2)) 84 (upd (g 84) ((f 4754).toNatClampNeg) 0)) gl hh v tx)) rfl ?_
        refine WP.of (fun _ _ => Ex.iast hP_154 (w2 := Wd f fl (va_up (va_up (va_up g 85 (upd (g 85) ((f 4754).toNatClampNeg) l2)) 84 (upd (g 84) ((f 4754).toNatClampNeg) 0)) 83 (upd (g 83) ((f 4754).toNatClampNeg) ((100 : Int32) + (l3 &&& (255 : Int32))))) gl hh v tx) rfl (Wa_83 _ _ _ _ _ _ _) h10.1 (Ws_83 _ _ _ _ _ _ _ _)) ?_
        have h11 := h10.2
        refine WP.run hP_154 2 (c' := (169, [some (.ref 74), some (.int l1), some (.int l2), some (.int l3), some (.int l4), some (.int l2)], [], Wd f fl (va_up (va_up (va_up g 85 (upd (g 85) ((f 4754).toNatClampNeg) l2)) 84 (upd (g 84) ((f 4754).toNatClampNeg) 0)) 83 (upd (g 83) ((f 4754).toNatClampNeg) ((100 : Int32) + (l3 &&& (255 : Int32))))) gl hh v tx)) rfl ?_
        refine WP.clr hP_154 (pc := 169) rfl ?_
        exact h11
      · have h12 := h8.2 c9
        refine WP.run hP_154 3 (c' := (165, [some (.ref 74), some (.int l1), some (.int l2), some (.int l3), some (.int l4), none], [.int 50, .int (f 4754), .ref 83], Wd f fl (va_up (va_up g 85 (upd (g 85) ((f 4754).toNatClampNeg) l2)) 84 (upd (g 84) ((f 4754).toNatClampNeg) 0)) gl hh v tx)) rfl ?_
        refine WP.of (fun _ _ => Ex.iast hP_154 (w2 := Wd f fl (va_up (va_up (va_up g 85 (upd (g 85) ((f 4754).toNatClampNeg) l2)) 84 (upd (g 84) ((f 4754).toNatClampNeg) 0)) 83 (upd (g 83) ((f 4754).toNatClampNeg) 50)) gl hh v tx) rfl (Wa_83 _ _ _ _ _ _ _) h12.1 (Ws_83 _ _ _ _ _ _ _ _)) ?_
        have h13 := h12.2
        refine WP.run hP_154 2 (c' := (169, [some (.ref 74), some (.int l1), some (.int l2), some (.int l3), some (.int l4), some (.int l2)], [], Wd f fl (va_up (va_up (va_up g 85 (upd (g 85) ((f 4754).toNatClampNeg) l2)) 84 (upd (g 84) ((f 4754).toNatClampNeg) 0)) 83 (upd (g 83) ((f 4754).toNatClampNeg) 50)) gl hh v tx)) rfl ?_
        refine WP.clr hP_154 (pc := 169) rfl ?_
        exact h13
  · have h14 := h2.2 c3
    refine ⟨fun c15 => ?_, fun c15 => ?_⟩
    · have h16 := h14.1 c15
      refine WP.run hP_154 2 (c' := (146, [some (.ref 74), some (.int l1), some (.int l2), some (.int l3), some (.int l4), none], [.int l3, .int (f 4754), .ref 83], Wd f fl (va_up (va_up g 85 (upd (g 85) ((f 4754).toNatClampNeg) l2)) 84 (upd (g 84) ((f 4754).toNatClampNeg) 0)) gl hh v tx)) rfl ?_
      refine WP.call hP_154 hP_152 (as := [.int l3]) (pc' := 149) (L' := [some (.ref 74), some (.int l1), some (.int l2), some (.int l3), some (.int l4), none]) (st' := [.int (f 4754), .ref 83]) (w1 := Wd f fl (va_up (va_up g 85 (upd (g 85) ((f 4754).toNatClampNeg) l2)) 84 (upd (g 84) ((f 4754).toNatClampNeg) 0)) gl hh v tx) rfl ⟨Nat.le_of_ble_eq_true rfl, Nat.le_of_ble_eq_true rfl⟩ rfl (b_m_isDigit_0 X (d) f fl (va_up (va_up g 85 (upd (g 85) ((f 4754).toNatClampNeg) l2)) 84 (upd (g 84) ((f 4754).toNatClampNeg) 0)) gl hh v tx l3 _ ?_)
      refine ⟨fun c17 => ?_, fun c17 => ?_⟩
      · have h18 := h16.1 c17
        refine WP.run hP_154 6 (c' := (165, [some (.ref 74), some (.int l1), some (.int l2), some (.int l3), some (.int l4), none], [.int ((100 : Int32) + (l3 &&& (255 : Int32))), .int (f 4754), .ref 83], Wd f fl (va_up (va_up g 85 (upd (g 85) ((f 4754).toNatClampNeg) l2)) 84 (upd (g 84) ((f 4754).toNatClampNeg) 0)) gl hh v tx)) rfl ?_
        refine WP.of (fun _ _ => Ex.iast hP_154 (w2 := Wd f fl (va_up (va_up (va_up g 85 (upd (g 85) ((f 4754).toNatClampNeg) l2)) 84 (upd (g 84) ((f 4754).toNatClampNeg) 0)) 83 (upd (g 83) ((f 4754).toNatClampNeg) ((100 : Int32) + (l3 &&& (255 : Int32))))) gl hh v tx) rfl (Wa_83 _ _ _ _ _ _ _) h18.1 (Ws_83 _ _ _ _ _ _ _ _)) ?_
        have h19 := h18.2
        refine WP.run hP_154 2 (c' := (169, [some (.ref 74), some (.int l1), some (.int l2), some (.int l3), some (.int l4), some (.int l2)], [], Wd f fl (va_up (va_up (va_up g 85 (upd (g 85) ((f 4754).toNatClampNeg) l2)) 84 (upd (g 84) ((f 4754).toNatClampNeg) 0)) 83 (upd (g 83) ((f 4754).toNatClampNeg) ((100 : Int32) + (l3 &&& (255 : Int32))))) gl hh v tx)) rfl ?_
        refine WP.clr hP_154 (pc := 169) rfl ?_
        exact h19
      · have h20 := h16.2 c17
        refine ⟨fun c21 => ?_, fun c21 => ?_⟩
        · have h22 := h20.1 c21
          refine WP.run hP_154 6 (c' := (165, [some (.ref 74), some (.int l1), some (.int l2), some (.int l3), some (.int l4), none], [.int ((100 : Int32) + (l3 &&& (255 : Int32))), .int (f 4754), .ref 83], Wd f fl (va_up (va_up g 85 (upd (g 85) ((f 4754).toNatClampNeg) l2)) 84 (upd (g 84) ((f 4754).toNatClampNeg) 0)) gl hh v tx)) rfl ?_
          refine WP.of (fun _ _ => Ex.iast hP_154 (w2 := Wd f fl (va_up (va_up (va_up g 85 (upd (g 85) ((f 4754).toNatClampNeg) l2)) 84 (upd (g 84) ((f 4754).toNatClampNeg) 0)) 83 (upd (g 83) ((f 4754).toNatClampNeg) ((100 : Int32) + (l3 &&& (255 : Int32))))) gl hh v tx) rfl (Wa_83 _ _ _ _ _ _ _) h22.1 (Ws_83 _ _ _ _ _ _ _ _)) ?_
          have h23 := h22.2
          refine WP.run hP_154 2 (c' := (169, [some (.ref 74), some (.int l1), some (.int l2), some (.int l3), some (.int l4), some (.int l2)], [], Wd f fl (va_up (va_up (va_up g 85 (upd (g 85) ((f 4754).toNatClampNeg) l2)) 84 (upd (g 84) ((f 4754).toNatClampNeg) 0)) 83 (upd (g 83) ((f 4754).toNatClampNeg) ((100 : Int32) + (l3 &&& (255 : Int32))))) gl hh v tx)) rfl ?_
          refine WP.clr hP_154 (pc := 169) rfl ?_
          exact h23
        · have h24 := h20.2 c21
          refine WP.run hP_154 3 (c' := (165, [some (.ref 74), some (.int l1), some (.int l2), some (.int l3), some (.int l4), none], [.int 50, .int (f 4754), .ref 83], Wd f fl (va_up (va_up g 85 (upd (g 85) ((f 4754).toNatClampNeg) l2)) 84 (upd (g 84) ((f 4754).toNatClampNeg) 0)) gl hh v tx)) rfl ?_
          refine WP.of (fun _ _ => Ex.iast hP_154 (w2 := Wd f fl (va_up (va_up (va_up g 85 (upd (g 85) ((f 4754).toNatClampNeg) l2)) 84 (upd (g 84) ((f 4754).toNatClampNeg) 0)) 83 (upd (g 83) ((f 4754).toNatClampNeg) 50)) gl hh v tx) rfl (Wa_83 _ _ _ _ _ _ _) h24.1 (Ws_83 _ _ _ _ _ _ _ _)) ?_
          have h25 := h24.2
          refine WP.run hP_154 2 (c' := (169, [some (.ref 74), some (.int l1), some (.int l2), some (.int l3), some (.int l4), some (.int l2)], [], Wd f fl (va_up (va_up (va_up g 85 (upd (g 85) ((f 4754).toNatClampNeg) l2)) 84 (upd (g 84) ((f 4754).toNatClampNeg) 0)) 83 (upd (g 83) ((f 4754).toNatClampNeg) 50)) gl hh v tx)) rfl ?_
          refine WP.clr hP_154 (pc := 169) rfl ?_
          exact h25
    · have h26 := h14.2 c15
      refine WP.run hP_154 4 (c' := (139, [some (.ref 74), some (.int l1), some (.int l2), some (.int l3), some (.int l4), none], [.int l4, .int l2, .ref 74, .int (f 4754), .ref 83], Wd f fl (va_up (va_up g 85 (upd (g 85) ((f 4754).toNatClampNeg) l2)) 84 (upd (g 84) ((f 4754).toNatClampNeg) 0)) gl hh v tx)) rfl ?_
      refine WP.call hP_154 hP_153 (as := [.ref 74, .int l2, .int l4]) (pc' := 142) (L' := [some (.ref 74), some (.int l1), some (.int l2), some (.int l3), some (.int l4), none]) (st' := [.int (f 4754), .ref 83]) (w1 := Wd f fl (va_up (va_up g 85 (upd (g 85) ((f 4754).toNatClampNeg) l2)) 84 (upd (g 84) ((f 4754).toNatClampNeg) 0)) gl hh v tx) rfl ⟨Nat.le_of_ble_eq_true rfl, Nat.le_of_ble_eq_true rfl⟩ rfl ?_
      exact h26

set_option maxRecDepth 20000 in
theorem b_m_splits_75 (X : mm_X) (d : Nat) (f : Nat → Int32) (fl : Nat → Int64) (g : Nat → Nat → Int32) (gl : Nat → Nat → Int64) (hh : Nat → Nat → Option Nat) (v : Nat → Value) (tx : mm_W) (l1 : Int32) (l2 : Int32) (l3 : Int32) (l4 : Int32)  (P : Option Value → mm_W → Prop)
    (h : ((l1 ≤ l4) → WP X (d + 1) 154 (100, [some (.ref 74), some (.int l1), some (.int l2), some (.int l3), some (.int l4), none], [], Wd f fl g gl hh v tx) P) ∧
    ((¬ (l1 ≤ l4)) → ((¬ (l4 < 0 ∨ 400 ≤ l4.toNatClampNeg)) ∧ (((((g 81) l4.toNatClampNeg) < 48) → WP X (d + 1) 154 (100, [some (.ref 74), some (.int l1), some (.int l2), some (.int l3), some (.int l4), none], [], Wd f fl g gl hh v tx) P) ∧
      ((¬ (((g 81) l4.toNatClampNeg) < 48)) → (((57 < ((g 81) l4.toNatClampNeg)) → WP X (d + 1) 154 (100, [some (.ref 74), some (.int l1), some (.int l2), some (.int l3), some (.int l4), none], [], Wd f fl g gl hh v tx) P) ∧
        ((¬ (57 < ((g 81) l4.toNatClampNeg))) → WP X (d + 1) 154 (75, [some (.ref 74), some (.int l1), some (.int l2), some (.int l3), some (.int (l4 + (1 : Int32))), none], [], Wd f fl g gl hh v tx) P))))))) :
    WP X (d + 1) 154 (75, [some (.ref 74), some (.int l1), some (.int l2), some (.int l3), some (.int l4), none], [], Wd f fl g gl hh v tx) P := by
  refine WP.run hP_154 2 (c' := (78, [some (.ref 74), some (.int l1), some (.int l2), some (.int l3), some (.int l4), none], [.int l1, .int l4], Wd f fl g gl hh v tx)) rfl ?_
  refine WP.br hP_154 (q := l1 ≤ l4) (t := 100) (f := 81) (L := [some (.ref 74), some (.int l1), some (.int l2), some (.int l3), some (.int l4), none]) (st := []) (w := Wd f fl g gl hh v tx) rfl (fun c1 => ?_) (fun c1 => ?_)
  · have h2 := h.1 c1
    exact h2
  · have h3 := h.2 c1
    refine WP.run hP_154 3 (c' := (87, [some (.ref 74), some (.int l1), some (.int l2), some (.int l3), some (.int l4), none], [.int l4, .ref 81], Wd f fl g gl hh v tx)) rfl ?_
    refine WP.of (fun _ _ => Ex.bald hP_154 rfl (Wa_81 _ _ _ _ _ _ _) h3.1) ?_
    have h4 := h3.2
    refine WP.call hP_154 hP_152 (as := [.int ((g 81) l4.toNatClampNeg)]) (pc' := 91) (L' := [some (.ref 74), some (.int l1), some (.int l2), some (.int l3), some (.int l4), none]) (st' := []) (w1 := Wd f fl g gl hh v tx) rfl ⟨Nat.le_of_ble_eq_true rfl, Nat.le_of_ble_eq_true rfl⟩ rfl (b_m_isDigit_0 X (d) f fl g gl hh v tx ((g 81) l4.toNatClampNeg) _ ?_)
    refine ⟨fun c5 => ?_, fun c5 => ?_⟩
    · have h6 := h4.1 c5
      refine WP.run hP_154 1 (c' := (100, [some (.ref 74), some (.int l1), some (.int l2), some (.int l3), some (.int l4), none], [], Wd f fl g gl hh v tx)) rfl ?_
      exact h6
    · have h7 := h4.2 c5
      refine ⟨fun c8 => ?_, fun c8 => ?_⟩
      · have h9 := h7.1 c8
        refine WP.run hP_154 1 (c' := (100, [some (.ref 74), some (.int l1), some (.int l2), some (.int l3), some (.int l4), none], [], Wd f fl g gl hh v tx)) rfl ?_
        exact h9
      · have h10 := h7.2 c8
        refine WP.run hP_154 3 (c' := (75, [some (.ref 74), some (.int l1), some (.int l2), some (.int l3), some (.int (l4 + (1 : Int32))), none], [], Wd f fl g gl hh v tx)) rfl ?_
        exact h10

set_option maxRecDepth 20000 in
theorem b_m_splits_169 (X : mm_X) (d : Nat) (f : Nat → Int32) (fl : Nat → Int64) (g : Nat → Nat → Int32) (gl : Nat → Nat → Int64) (hh : Nat → Nat → Option Nat) (v : Nat → Value) (tx : mm_W) (l1 : Int32) (l3 : Int32) (l4 : Int32) (l5 : Int32)  (P : Option Value → mm_W → Prop)
    (h : ((l4 ≤ l5) → WP X (d + 1) 154 (7, [some (.ref 74), some (.int l1), some (.int l4), none, none, none], [], Wd (va_up f 4754 ((f 4754) + (1 : Int32))) fl g gl hh v tx) P) ∧
    ((¬ (l4 ≤ l5)) → (((l3 < 48) → WP X (d + 1) 154 (7, [some (.ref 74), some (.int l1), some (.int l4), none, none, none], [], Wd (va_up f 4754 ((f 4754) + (1 : Int32))) fl g gl hh v tx) P) ∧
      ((¬ (l3 < 48)) → (((57 < l3) → WP X (d + 1) 154 (7, [some (.ref 74), some (.int l1), some (.int l4), none, none, none], [], Wd (va_up f 4754 ((f 4754) + (1 : Int32))) fl g gl hh v tx) P) ∧
        ((¬ (57 < l3)) → ((¬ ((f 4754) < 0 ∨ 401 ≤ (f 4754).toNatClampNeg)) ∧ (((((g 84) (f 4754).toNatClampNeg) ≤ 1000000) → ((¬ ((f 4754) < 0 ∨ 401 ≤ (f 4754).toNatClampNeg)) ∧ ((¬ (l5 < 0 ∨ 400 ≤ l5.toNatClampNeg)) ∧ ((¬ ((f 4754) < 0 ∨ 401 ≤ (f 4754).toNatClampNeg)) ∧ WP X (d + 1) 154 (169, [some (.ref 74), some (.int l1), none, some (.int l3), some (.int l4), some (.int (l5 + (1 : Int32)))], [], Wd f fl (va_up g 84 (upd (g 84) ((f 4754).toNatClampNeg) ((((10 : Int32) * ((g 84) (f 4754).toNatClampNeg)) + ((g 81) l5.toNatClampNeg)) - (48 : Int32)))) gl hh v tx) P)))) ∧
          ((¬ (((g 84) (f 4754).toNatClampNeg) ≤ 1000000)) → ((¬ ((f 4754) < 0 ∨ 401 ≤ (f 4754).toNatClampNeg)) ∧ ((¬ ((f 4754) < 0 ∨ 401 ≤ (f 4754).toNatClampNeg)) ∧ WP X (d + 1) 154 (169, [some (.ref 74), some (.int l1), none, some (.int l3), some (.int l4), some (.int (l5 + (1 : Int32)))], [], Wd f fl (va_up g 84 (upd (g 84) ((f 4754).toNatClampNeg) ((g 84) (f 4754).toNatClampNeg))) gl hh v tx) P))))))))))) :
    WP X (d + 1) 154 (169, [some (.ref 74), some (.int l1), none, some (.int l3), some (.int l4), some (.int l5)], [], Wd f fl g gl hh v tx) P := by
  refine WP.run hP_154 2 (c' := (173, [some (.ref 74), some (.int l1), none, some (.int l3), some (.int l4), some (.int l5)], [.int l4, .int l5], Wd f fl g gl hh v tx)) rfl ?_
  refine WP.br hP_154 (q := l4 ≤ l5) (t := 247) (f := 176) (L := [some (.ref 74), some (.int l1), none, some (.int l3), some (.int l4), some (.int l5)]) (st := []) (w := Wd f fl g gl hh v tx) rfl (fun c1 => ?_) (fun c1 => ?_)
  · have h2 := h.1 c1
    refine WP.run hP_154 7 (c' := (259, [some (.ref 74), some (.int l1), none, none, some (.int l4), none], [.int l4], Wd (va_up f 4754 ((f 4754) + (1 : Int32))) fl g gl hh v tx)) rfl ?_
    refine WP.run hP_154 2 (c' := (7, [some (.ref 74), some (.int l1), some (.int l4), none, some (.int l4), none], [], Wd (va_up f 4754 ((f 4754) + (1 : Int32))) fl g gl hh v tx)) rfl ?_
    refine WP.clr hP_154 (pc := 7) rfl ?_
    exact h2
  · have h3 := h.2 c1
    refine WP.run hP_154 1 (c' := (177, [some (.ref 74), some (.int l1), none, some (.int l3), some (.int l4), some (.int l5)], [.int l3], Wd f fl g gl hh v tx)) rfl ?_
    refine WP.call hP_154 hP_152 (as := [.int l3]) (pc' := 180) (L' := [some (.ref 74), some (.int l1), none, some (.int l3), some (.int l4), some (.int l5)]) (st' := []) (w1 := Wd f fl g gl hh v tx) rfl ⟨Nat.le_of_ble_eq_true rfl, Nat.le_of_ble_eq_true rfl⟩ rfl (b_m_isDigit_0 X (d) f fl g gl hh v tx l3 _ ?_)
    refine ⟨fun c4 => ?_, fun c4 => ?_⟩
    · have h5 := h3.1 c4
      refine WP.run hP_154 8 (c' := (259, [some (.ref 74), some (.int l1), none, none, some (.int l4), none], [.int l4], Wd (va_up f 4754 ((f 4754) + (1 : Int32))) fl g gl hh v tx)) rfl ?_
      refine WP.run hP_154 2 (c' := (7, [some (.ref 74), some (.int l1), some (.int l4), none, some (.int l4), none], [], Wd (va_up f 4754 ((f 4754) + (1 : Int32))) fl g gl hh v tx)) rfl ?_
      refine WP.clr hP_154 (pc := 7) rfl ?_
      exact h5
    · have h6 := h3.2 c4
      refine ⟨fun c7 => ?_, fun c7 => ?_⟩
      · have h8 := h6.1 c7
        refine WP.run hP_154 8 (c' := (259, [some (.ref 74), some (.int l1), none, none, some (.int l4), none], [.int l4], Wd (va_up f 4754 ((f 4754) + (1 : Int32))) fl g gl hh v tx)) rfl ?_
        refine WP.run hP_154 2 (c' := (7, [some (.ref 74), some (.int l1), some (.int l4), none, some (.int l4), none], [], Wd (va_up f 4754 ((f 4754) + (1 : Int32))) fl g gl hh v tx)) rfl ?_
        refine WP.clr hP_154 (pc := 7) rfl ?_
        exact h8
      · have h9 := h6.2 c7
        refine WP.run hP_154 9 (c' := (199, [some (.ref 74), some (.int l1), none, some (.int l3), some (.int l4), some (.int l5)], [.int (f 4754), .ref 84, .int (f 4754), .ref 84], Wd f fl g gl hh v tx)) rfl ?_
        refine WP.of (fun _ _ => Ex.iald hP_154 rfl (Wa_84 _ _ _ _ _ _ _) h9.1) ?_
        have h10 := h9.2
        refine WP.run hP_154 1 (c' := (202, [some (.ref 74), some (.int l1), none, some (.int l3), some (.int l4), some (.int l5)], [.int 1000000, .int ((g 84) (f 4754).toNatClampNeg), .int (f 4754), .ref 84], Wd f fl g gl hh v tx)) rfl ?_
        refine WP.br hP_154 (q := ((g 84) (f 4754).toNatClampNeg) ≤ 1000000) (t := 217) (f := 205) (L := [some (.ref 74), some (.int l1), none, some (.int l3), some (.int l4), some (.int l5)]) (st := [.int (f 4754), .ref 84]) (w := Wd f fl g gl hh v tx) rfl (fun c11 => ?_) (fun c11 => ?_)
        · have h12 := h10.1 c11
          refine WP.run hP_154 5 (c' := (227, [some (.ref 74), some (.int l1), none, some (.int l3), some (.int l4), some (.int l5)], [.int (f 4754), .ref 84, .int 10, .int (f 4754), .ref 84], Wd f fl g gl hh v tx)) rfl ?_
          refine WP.of (fun _ _ => Ex.iald hP_154 rfl (Wa_84 _ _ _ _ _ _ _) h12.1) ?_
          have h13 := h12.2
          refine WP.run hP_154 4 (c' := (235, [some (.ref 74), some (.int l1), none, some (.int l3), some (.int l4), some (.int l5)], [.int l5, .ref 81, .int ((10 : Int32) * ((g 84) (f 4754).toNatClampNeg)), .int (f 4754), .ref 84], Wd f fl g gl hh v tx)) rfl ?_
          refine WP.of (fun _ _ => Ex.bald hP_154 rfl (Wa_81 _ _ _ _ _ _ _) h13.1) ?_
          have h14 := h13.2
          refine WP.run hP_154 3 (c' := (240, [some (.ref 74), some (.int l1), none, some (.int l3), some (.int l4), some (.int l5)], [.int ((((10 : Int32) * ((g 84) (f 4754).toNatClampNeg)) + ((g 81) l5.toNatClampNeg)) - (48 : Int32)), .int (f 4754), .ref 84], Wd f fl g gl hh v tx)) rfl ?_
          refine WP.of (fun _ _ => Ex.iast hP_154 (w2 := Wd f fl (va_up g 84 (upd (g 84) ((f 4754).toNatClampNeg) ((((10 : Int32) * ((g 84) (f 4754).toNatClampNeg)) + ((g 81) l5.toNatClampNeg)) - (48 : Int32)))) gl hh v tx) rfl (Wa_84 _ _ _ _ _ _ _) h14.1 (Ws_84 _ _ _ _ _ _ _ _)) ?_
          have h15 := h14.2
          refine WP.run hP_154 2 (c' := (169, [some (.ref 74), some (.int l1), none, some (.int l3), some (.int l4), some (.int (l5 + (1 : Int32)))], [], Wd f fl (va_up g 84 (upd (g 84) ((f 4754).toNatClampNeg) ((((10 : Int32) * ((g 84) (f 4754).toNatClampNeg)) + ((g 81) l5.toNatClampNeg)) - (48 : Int32)))) gl hh v tx)) rfl ?_
          exact h15
        · have h16 := h10.2 c11
          refine WP.run hP_154 4 (c' := (213, [some (.ref 74), some (.int l1), none, some (.int l3), some (.int l4), some (.int l5)], [.int (f 4754), .ref 84, .int (f 4754), .ref 84], Wd f fl g gl hh v tx)) rfl ?_
          refine WP.of (fun _ _ => Ex.iald hP_154 rfl (Wa_84 _ _ _ _ _ _ _) h16.1) ?_
          have h17 := h16.2
          refine WP.run hP_154 1 (c' := (240, [some (.ref 74), some (.int l1), none, some (.int l3), some (.int l4), some (.int l5)], [.int ((g 84) (f 4754).toNatClampNeg), .int (f 4754), .ref 84], Wd f fl g gl hh v tx)) rfl ?_
          refine WP.of (fun _ _ => Ex.iast hP_154 (w2 := Wd f fl (va_up g 84 (upd (g 84) ((f 4754).toNatClampNeg) ((g 84) (f 4754).toNatClampNeg))) gl hh v tx) rfl (Wa_84 _ _ _ _ _ _ _) h17.1 (Ws_84 _ _ _ _ _ _ _ _)) ?_
          have h18 := h17.2
          refine WP.run hP_154 2 (c' := (169, [some (.ref 74), some (.int l1), none, some (.int l3), some (.int l4), some (.int (l5 + (1 : Int32)))], [], Wd f fl (va_up g 84 (upd (g 84) ((f 4754).toNatClampNeg) ((g 84) (f 4754).toNatClampNeg))) gl hh v tx)) rfl ?_
          exact h18

set_option maxRecDepth 20000 in
theorem b_m_splits_142 (X : mm_X) (d : Nat) (f : Nat → Int32) (fl : Nat → Int64) (g : Nat → Nat → Int32) (gl : Nat → Nat → Int64) (hh : Nat → Nat → Option Nat) (v : Nat → Value) (tx : mm_W) (l1 : Int32) (l2 : Int32) (l3 : Int32) (l4 : Int32) (s0 : Int32) (s1 : Int32)  (P : Option Value → mm_W → Prop)
    (h : (¬ (s1 < 0 ∨ 401 ≤ s1.toNatClampNeg)) ∧ WP X (d) 154 (169, [some (.ref 74), some (.int l1), none, some (.int l3), some (.int l4), some (.int l2)], [], Wd f fl (va_up g 83 (upd (g 83) (s1.toNatClampNeg) s0)) gl hh v tx) P) :
    WP X (d) 154 (142, [some (.ref 74), some (.int l1), some (.int l2), some (.int l3), some (.int l4), none], [.int s0, .int s1, .ref 83], Wd f fl g gl hh v tx) P := by
  refine WP.run hP_154 1 (c' := (165, [some (.ref 74), some (.int l1), some (.int l2), some (.int l3), some (.int l4), none], [.int s0, .int s1, .ref 83], Wd f fl g gl hh v tx)) rfl ?_
  refine WP.of (fun _ _ => Ex.iast hP_154 (w2 := Wd f fl (va_up g 83 (upd (g 83) (s1.toNatClampNeg) s0)) gl hh v tx) rfl (Wa_83 _ _ _ _ _ _ _) h.1 (Ws_83 _ _ _ _ _ _ _ _)) ?_
  have h1 := h.2
  refine WP.run hP_154 2 (c' := (169, [some (.ref 74), some (.int l1), some (.int l2), some (.int l3), some (.int l4), some (.int l2)], [], Wd f fl (va_up g 83 (upd (g 83) (s1.toNatClampNeg) s0)) gl hh v tx)) rfl ?_
  refine WP.clr hP_154 (pc := 169) rfl ?_
  exact h1

set_option maxRecDepth 20000 in
theorem b_m_fine_0 (X : mm_X) (d : Nat) (f : Nat → Int32) (fl : Nat → Int64) (g : Nat → Nat → Int32) (gl : Nat → Nat → Int64) (hh : Nat → Nat → Option Nat) (v : Nat → Value) (tx : mm_W)   (P : Option Value → mm_W → Prop)
    (h : ((¬ (f 4757) = (-1)) → P (some (.int 0)) (Wd f fl g gl hh v tx)) ∧
    (((f 4757) = (-1)) → P (some (.int 1)) (Wd f fl g gl hh v tx))) :
    WP X (d) 155 (0, [some (.ref 74)], [], Wd f fl g gl hh v tx) P := by
  refine WP.run hP_155 3 (c' := (5, [some (.ref 74)], [.int (-1), .int (f 4757)], Wd f fl g gl hh v tx)) rfl ?_
  refine WP.br hP_155 (q := ¬ (f 4757) = (-1)) (t := 12) (f := 8) (L := [some (.ref 74)]) (st := []) (w := Wd f fl g gl hh v tx) rfl (fun c1 => ?_) (fun c1 => ?_)
  · have h2 := h.1 c1
    refine WP.run hP_155 1 (c' := (13, [none], [.int 0], Wd f fl g gl hh v tx)) rfl ?_
    exact WP.ret hP_155 (r := some (.int 0)) (w' := Wd f fl g gl hh v tx) rfl h2
  · have h3 := h.2 (Classical.not_not.mp c1)
    refine WP.run hP_155 2 (c' := (13, [some (.ref 74)], [.int 1], Wd f fl g gl hh v tx)) rfl ?_
    exact WP.ret hP_155 (r := some (.int 1)) (w' := Wd f fl g gl hh v tx) rfl h3

set_option maxRecDepth 20000 in
theorem b_m_faults_0 (X : mm_X) (d : Nat) (f : Nat → Int32) (fl : Nat → Int64) (g : Nat → Nat → Int32) (gl : Nat → Nat → Int64) (hh : Nat → Nat → Option Nat) (v : Nat → Value) (tx : mm_W)   (P : Option Value → mm_W → Prop)
    (h : ((¬ (f 4757) = (-1)) → P none (Wd f fl g gl hh v tx)) ∧
    (((f 4757) = (-1)) → ((¬ ((f 4755) < 0 ∨ 401 ≤ (f 4755).toNatClampNeg)) ∧ P none (Wd (va_up f 4757 ((g 85) (f 4755).toNatClampNeg)) fl g gl hh v tx)))) :
    WP X (d + 1) 156 (0, [some (.ref 74)], [], Wd f fl g gl hh v tx) P := by
  refine WP.run hP_156 1 (c' := (1, [some (.ref 74)], [.ref 74], Wd f fl g gl hh v tx)) rfl ?_
  refine WP.call hP_156 hP_155 (as := [.ref 74]) (pc' := 4) (L' := [some (.ref 74)]) (st' := []) (w1 := Wd f fl g gl hh v tx) rfl ⟨Nat.le_of_ble_eq_true rfl, Nat.le_of_ble_eq_true rfl⟩ rfl (b_m_fine_0 X (d) f fl g gl hh v tx  _ ?_)
  refine ⟨fun c1 => ?_, fun c1 => ?_⟩
  · have h2 := h.1 c1
    refine WP.run hP_156 1 (c' := (20, [some (.ref 74)], [], Wd f fl g gl hh v tx)) rfl ?_
    exact WP.ret hP_156 (r := none) (w' := Wd f fl g gl hh v tx) rfl h2
  · have h3 := h.2 c1
    refine WP.run hP_156 6 (c' := (16, [some (.ref 74)], [.int (f 4755), .ref 85, .ref 74], Wd f fl g gl hh v tx)) rfl ?_
    refine WP.of (fun _ _ => Ex.iald hP_156 rfl (Wa_85 _ _ _ _ _ _ _) h3.1) ?_
    have h4 := h3.2
    refine WP.run hP_156 1 (c' := (20, [some (.ref 74)], [], Wd (va_up f 4757 ((g 85) (f 4755).toNatClampNeg)) fl g gl hh v tx)) rfl ?_
    exact WP.ret hP_156 (r := none) (w' := Wd (va_up f 4757 ((g 85) (f 4755).toNatClampNeg)) fl g gl hh v tx) rfl h4

set_option maxRecDepth 20000 in
theorem b_m_takes0_0 (X : mm_X) (d : Nat) (f : Nat → Int32) (fl : Nat → Int64) (g : Nat → Nat → Int32) (gl : Nat → Nat → Int64) (hh : Nat → Nat → Option Nat) (v : Nat → Value) (tx : mm_W) (p0 : Int32)  (P : Option Value → mm_W → Prop)
    (h : ((¬ (f 4757) = (-1)) → P (some (.int 0)) (Wd f fl g gl hh v tx)) ∧
    (((f 4757) = (-1)) → ((¬ ((f 4755) < 0 ∨ 401 ≤ (f 4755).toNatClampNeg)) ∧ (((¬ ((g 83) (f 4755).toNatClampNeg) = p0) → P (some (.int 0)) (Wd f fl g gl hh v tx)) ∧
      ((((g 83) (f 4755).toNatClampNeg) = p0) → P (some (.int 1)) (Wd (va_up f 4755 ((f 4755) + (1 : Int32))) fl g gl hh v tx)))))) :
    WP X (d + 1) 157 (0, [some (.ref 74), some (.int p0), none], [], Wd f fl g gl hh v tx) P := by
  refine WP.run hP_157 1 (c' := (1, [some (.ref 74), some (.int p0), none], [.ref 74], Wd f fl g gl hh v tx)) rfl ?_
  refine WP.call hP_157 hP_155 (as := [.ref 74]) (pc' := 4) (L' := [some (.ref 74), some (.int p0), none]) (st' := []) (w1 := Wd f fl g gl hh v tx) rfl ⟨Nat.le_of_ble_eq_true rfl, Nat.le_of_ble_eq_true rfl⟩ rfl (b_m_fine_0 X (d) f fl g gl hh v tx  _ ?_)
  refine ⟨fun c1 => ?_, fun c1 => ?_⟩
  · have h2 := h.1 c1
    refine WP.run hP_157 2 (c' := (25, [some (.ref 74), none, none], [.int 0], Wd f fl g gl hh v tx)) rfl ?_
    refine WP.run hP_157 3 (c' := (40, [some (.ref 74), none, some (.int 0)], [], Wd f fl g gl hh v tx)) rfl ?_
    refine WP.run hP_157 1 (c' := (41, [none, none, some (.int 0)], [.int 0], Wd f fl g gl hh v tx)) rfl ?_
    exact WP.ret hP_157 (r := some (.int 0)) (w' := Wd f fl g gl hh v tx) rfl h2
  · have h3 := h.2 c1
    refine WP.run hP_157 5 (c' := (15, [some (.ref 74), some (.int p0), none], [.int (f 4755), .ref 83], Wd f fl g gl hh v tx)) rfl ?_
    refine WP.of (fun _ _ => Ex.iald hP_157 rfl (Wa_83 _ _ _ _ _ _ _) h3.1) ?_
    have h4 := h3.2
    refine WP.run hP_157 1 (c' := (17, [some (.ref 74), some (.int p0), none], [.int p0, .int ((g 83) (f 4755).toNatClampNeg)], Wd f fl g gl hh v tx)) rfl ?_
    refine WP.br hP_157 (q := ¬ ((g 83) (f 4755).toNatClampNeg) = p0) (t := 24) (f := 20) (L := [some (.ref 74), some (.int p0), none]) (st := []) (w := Wd f fl g gl hh v tx) rfl (fun c5 => ?_) (fun c5 => ?_)
    · have h6 := h4.1 c5
      refine WP.run hP_157 1 (c' := (25, [some (.ref 74), none, none], [.int 0], Wd f fl g gl hh v tx)) rfl ?_
      refine WP.run hP_157 3 (c' := (40, [some (.ref 74), none, some (.int 0)], [], Wd f fl g gl hh v tx)) rfl ?_
      refine WP.run hP_157 1 (c' := (41, [none, none, some (.int 0)], [.int 0], Wd f fl g gl hh v tx)) rfl ?_
      exact WP.ret hP_157 (r := some (.int 0)) (w' := Wd f fl g gl hh v tx) rfl h6
    · have h7 := h4.2 (Classical.not_not.mp c5)
      refine WP.run hP_157 11 (c' := (40, [some (.ref 74), none, some (.int 1)], [], Wd (va_up f 4755 ((f 4755) + (1 : Int32))) fl g gl hh v tx)) rfl ?_
      refine WP.run hP_157 1 (c' := (41, [none, none, some (.int 1)], [.int 1], Wd (va_up f 4755 ((f 4755) + (1 : Int32))) fl g gl hh v tx)) rfl ?_
      exact WP.ret hP_157 (r := some (.int 1)) (w' := Wd (va_up f 4755 ((f 4755) + (1 : Int32))) fl g gl hh v tx) rfl h7

set_option maxRecDepth 20000 in
theorem b_m_must_0 (X : mm_X) (d : Nat) (f : Nat → Int32) (fl : Nat → Int64) (g : Nat → Nat → Int32) (gl : Nat → Nat → Int64) (hh : Nat → Nat → Option Nat) (v : Nat → Value) (tx : mm_W) (p0 : Int32)  (P : Option Value → mm_W → Prop)
    (h : WP X (d) 157 (0, [some (.ref 74), some (.int p0), none], [], Wd f fl g gl hh v tx) (fun rv w2 => WP X (d + 1) 158 (5, [some (.ref 74), some (.int p0)], rv.toList ++ [], w2) P)) :
    WP X (d + 1) 158 (0, [some (.ref 74), some (.int p0)], [], Wd f fl g gl hh v tx) P := by
  refine WP.run hP_158 2 (c' := (2, [some (.ref 74), some (.int p0)], [.int p0, .ref 74], Wd f fl g gl hh v tx)) rfl ?_
  refine WP.call hP_158 hP_157 (as := [.ref 74, .int p0]) (pc' := 5) (L' := [some (.ref 74), some (.int p0)]) (st' := []) (w1 := Wd f fl g gl hh v tx) rfl ⟨Nat.le_of_ble_eq_true rfl, Nat.le_of_ble_eq_true rfl⟩ rfl ?_
  exact h

set_option maxRecDepth 20000 in
theorem b_m_must_5 (X : mm_X) (d : Nat) (f : Nat → Int32) (fl : Nat → Int64) (g : Nat → Nat → Int32) (gl : Nat → Nat → Int64) (hh : Nat → Nat → Option Nat) (v : Nat → Value) (tx : mm_W) (l1 : Int32) (s0 : Int32)  (P : Option Value → mm_W → Prop)
    (h : ((¬ s0 = 0) → P none (Wd f fl g gl hh v tx)) ∧
    ((s0 = 0) → (((¬ (f 4757) = (-1)) → P none (Wd f fl g gl hh v tx)) ∧
      (((f 4757) = (-1)) → ((¬ ((f 4755) < 0 ∨ 401 ≤ (f 4755).toNatClampNeg)) ∧ P none (Wd (va_up f 4757 ((g 85) (f 4755).toNatClampNeg)) fl g gl hh v tx)))))) :
    WP X (d + 2) 158 (5, [some (.ref 74), some (.int l1)], [.int s0], Wd f fl g gl hh v tx) P := by
  refine WP.br hP_158 (q := ¬ s0 = 0) (t := 12) (f := 8) (L := [some (.ref 74), some (.int l1)]) (st := []) (w := Wd f fl g gl hh v tx) rfl (fun c1 => ?_) (fun c1 => ?_)
  · have h2 := h.1 c1
    exact WP.ret hP_158 (r := none) (w' := Wd f fl g gl hh v tx) rfl h2
  · have h3 := h.2 (Classical.not_not.mp c1)
    refine WP.run hP_158 1 (c' := (9, [some (.ref 74), some (.int l1)], [.ref 74], Wd f fl g gl hh v tx)) rfl ?_
    refine WP.call hP_158 hP_156 (as := [.ref 74]) (pc' := 12) (L' := [some (.ref 74), some (.int l1)]) (st' := []) (w1 := Wd f fl g gl hh v tx) rfl ⟨Nat.le_of_ble_eq_true rfl, Nat.le_of_ble_eq_true rfl⟩ rfl (b_m_faults_0 X (d) f fl g gl hh v tx  _ ?_)
    refine ⟨fun c4 => ?_, fun c4 => ?_⟩
    · have h5 := h3.1 c4
      exact WP.ret hP_158 (r := none) (w' := Wd f fl g gl hh v tx) rfl h5
    · have h6 := h3.2 c4
      refine ⟨h6.1, ?_⟩
      have h7 := h6.2
      exact WP.ret hP_158 (r := none) (w' := Wd (va_up f 4757 ((g 85) (f 4755).toNatClampNeg)) fl g gl hh v tx) rfl h7

set_option maxRecDepth 20000 in
theorem b_m_leaf_0 (X : mm_X) (d : Nat) (f : Nat → Int32) (fl : Nat → Int64) (g : Nat → Nat → Int32) (gl : Nat → Nat → Int64) (hh : Nat → Nat → Option Nat) (v : Nat → Value) (tx : mm_W)   (P : Option Value → mm_W → Prop)
    (h : ((¬ (f 4756) = 50) → (((¬ (f 4757) = (-1)) → P none (Wd (va_up f 4756 ((f 4756) + (1 : Int32))) fl g gl hh v tx)) ∧
      (((f 4757) = (-1)) → P none (Wd (va_up (va_up f 4756 ((f 4756) + (1 : Int32))) 4755 ((f 4755) + (1 : Int32))) fl g gl hh v tx)))) ∧
    (((f 4756) = 50) → (((¬ (f 4757) = (-1)) → (((¬ (f 4757) = (-1)) → P none (Wd (va_up f 4756 ((f 4756) + (1 : Int32))) fl g gl hh v tx)) ∧
        (((f 4757) = (-1)) → P none (Wd (va_up (va_up f 4756 ((f 4756) + (1 : Int32))) 4755 ((f 4755) + (1 : Int32))) fl g gl hh v tx)))) ∧
      (((f 4757) = (-1)) → ((¬ ((f 4755) < 0 ∨ 401 ≤ (f 4755).toNatClampNeg)) ∧ (((¬ ((g 85) (f 4755).toNatClampNeg) = (-1)) → P none (Wd (va_up (va_up f 4757 ((g 85) (f 4755).toNatClampNeg)) 4756 ((f 4756) + (1 : Int32))) fl g gl hh v tx)) ∧
        ((((g 85) (f 4755).toNatClampNeg) = (-1)) → P none (Wd (va_up (va_up (va_up f 4757 ((g 85) (f 4755).toNatClampNeg)) 4756 ((f 4756) + (1 : Int32))) 4755 ((f 4755) + (1 : Int32))) fl g gl hh v tx)))))))) :
    WP X (d + 2) 159 (0, [some (.ref 74)], [], Wd f fl g gl hh v tx) P := by
  refine WP.run hP_159 3 (c' := (6, [some (.ref 74)], [.int 50, .int (f 4756)], Wd f fl g gl hh v tx)) rfl ?_
  refine WP.br hP_159 (q := ¬ (f 4756) = 50) (t := 13) (f := 9) (L := [some (.ref 74)]) (st := []) (w := Wd f fl g gl hh v tx) rfl (fun c1 => ?_) (fun c1 => ?_)
  · have h2 := h.1 c1
    refine WP.run hP_159 7 (c' := (24, [some (.ref 74)], [.ref 74], Wd (va_up f 4756 ((f 4756) + (1 : Int32))) fl g gl hh v tx)) rfl ?_
    refine WP.call hP_159 hP_155 (as := [.ref 74]) (pc' := 27) (L' := [some (.ref 74)]) (st' := []) (w1 := Wd (va_up f 4756 ((f 4756) + (1 : Int32))) fl g gl hh v tx) rfl ⟨Nat.le_of_ble_eq_true rfl, Nat.le_of_ble_eq_true rfl⟩ rfl (b_m_fine_0 X (d + 1) (va_up f 4756 ((f 4756) + (1 : Int32))) fl g gl hh v tx  _ ?_)
    refine ⟨fun c3 => ?_, fun c3 => ?_⟩
    · have h4 := h2.1 c3
      refine WP.run hP_159 1 (c' := (40, [some (.ref 74)], [], Wd (va_up f 4756 ((f 4756) + (1 : Int32))) fl g gl hh v tx)) rfl ?_
      exact WP.ret hP_159 (r := none) (w' := Wd (va_up f 4756 ((f 4756) + (1 : Int32))) fl g gl hh v tx) rfl h4
    · have h5 := h2.2 c3
      refine WP.run hP_159 7 (c' := (40, [some (.ref 74)], [], Wd (va_up (va_up f 4756 ((f 4756) + (1 : Int32))) 4755 ((f 4755) + (1 : Int32))) fl g gl hh v tx)) rfl ?_
      exact WP.ret hP_159 (r := none) (w' := Wd (va_up (va_up f 4756 ((f 4756) + (1 : Int32))) 4755 ((f 4755) + (1 : Int32))) fl g gl hh v tx) rfl h5
  · have h6 := h.2 (Classical.not_not.mp c1)
    refine WP.run hP_159 1 (c' := (10, [some (.ref 74)], [.ref 74], Wd f fl g gl hh v tx)) rfl ?_
    refine WP.call hP_159 hP_156 (as := [.ref 74]) (pc' := 13) (L' := [some (.ref 74)]) (st' := []) (w1 := Wd f fl g gl hh v tx) rfl ⟨Nat.le_of_ble_eq_true rfl, Nat.le_of_ble_eq_true rfl⟩ rfl (b_m_faults_0 X (d) f fl g gl hh v tx  _ ?_)
    refine ⟨fun c7 => ?_, fun c7 => ?_⟩
    · have h8 := h6.1 c7
      refine WP.run hP_159 7 (c' := (24, [some (.ref 74)], [.ref 74], Wd (va_up f 4756 ((f 4756) + (1 : Int32))) fl g gl hh v tx)) rfl ?_
      refine WP.call hP_159 hP_155 (as := [.ref 74]) (pc' := 27) (L' := [some (.ref 74)]) (st' := []) (w1 := Wd (va_up f 4756 ((f 4756) + (1 : Int32))) fl g gl hh v tx) rfl ⟨Nat.le_of_ble_eq_true rfl, Nat.le_of_ble_eq_true rfl⟩ rfl (b_m_fine_0 X (d + 1) (va_up f 4756 ((f 4756) + (1 : Int32))) fl g gl hh v tx  _ ?_)
      refine ⟨fun c9 => ?_, fun c9 => ?_⟩
      · have h10 := h8.1 c9
        refine WP.run hP_159 1 (c' := (40, [some (.ref 74)], [], Wd (va_up f 4756 ((f 4756) + (1 : Int32))) fl g gl hh v tx)) rfl ?_
        exact WP.ret hP_159 (r := none) (w' := Wd (va_up f 4756 ((f 4756) + (1 : Int32))) fl g gl hh v tx) rfl h10
      · have h11 := h8.2 c9
        refine WP.run hP_159 7 (c' := (40, [some (.ref 74)], [], Wd (va_up (va_up f 4756 ((f 4756) + (1 : Int32))) 4755 ((f 4755) + (1 : Int32))) fl g gl hh v tx)) rfl ?_
        exact WP.ret hP_159 (r := none) (w' := Wd (va_up (va_up f 4756 ((f 4756) + (1 : Int32))) 4755 ((f 4755) + (1 : Int32))) fl g gl hh v tx) rfl h11
    · have h12 := h6.2 c7
      refine ⟨h12.1, ?_⟩
      have h13 := h12.2
      refine WP.run hP_159 7 (c' := (24, [some (.ref 74)], [.ref 74], Wd (va_up (va_up f 4757 ((g 85) (f 4755).toNatClampNeg)) 4756 ((f 4756) + (1 : Int32))) fl g gl hh v tx)) rfl ?_
      refine WP.call hP_159 hP_155 (as := [.ref 74]) (pc' := 27) (L' := [some (.ref 74)]) (st' := []) (w1 := Wd (va_up (va_up f 4757 ((g 85) (f 4755).toNatClampNeg)) 4756 ((f 4756) + (1 : Int32))) fl g gl hh v tx) rfl ⟨Nat.le_of_ble_eq_true rfl, Nat.le_of_ble_eq_true rfl⟩ rfl (b_m_fine_0 X (d + 1) (va_up (va_up f 4757 ((g 85) (f 4755).toNatClampNeg)) 4756 ((f 4756) + (1 : Int32))) fl g gl hh v tx  _ ?_)
      refine ⟨fun c14 => ?_, fun c14 => ?_⟩
      · have h15 := h13.1 c14
        refine WP.run hP_159 1 (c' := (40, [some (.ref 74)], [], Wd (va_up (va_up f 4757 ((g 85) (f 4755).toNatClampNeg)) 4756 ((f 4756) + (1 : Int32))) fl g gl hh v tx)) rfl ?_
        exact WP.ret hP_159 (r := none) (w' := Wd (va_up (va_up f 4757 ((g 85) (f 4755).toNatClampNeg)) 4756 ((f 4756) + (1 : Int32))) fl g gl hh v tx) rfl h15
      · have h16 := h13.2 c14
        refine WP.run hP_159 7 (c' := (40, [some (.ref 74)], [], Wd (va_up (va_up (va_up f 4757 ((g 85) (f 4755).toNatClampNeg)) 4756 ((f 4756) + (1 : Int32))) 4755 ((f 4755) + (1 : Int32))) fl g gl hh v tx)) rfl ?_
        exact WP.ret hP_159 (r := none) (w' := Wd (va_up (va_up (va_up f 4757 ((g 85) (f 4755).toNatClampNeg)) 4756 ((f 4756) + (1 : Int32))) 4755 ((f 4755) + (1 : Int32))) fl g gl hh v tx) rfl h16

set_option maxRecDepth 20000 in
theorem b_m_mustNumber_0 (X : mm_X) (d : Nat) (f : Nat → Int32) (fl : Nat → Int64) (g : Nat → Nat → Int32) (gl : Nat → Nat → Int64) (hh : Nat → Nat → Option Nat) (v : Nat → Value) (tx : mm_W) (p0 : Int32) (p1 : Int32)  (P : Option Value → mm_W → Prop)
    (h : ((¬ (f 4757) = (-1)) → WP X (d + 1) 161 (42, [some (.ref 74), none, none], [], Wd f fl g gl hh v tx) P) ∧
    (((f 4757) = (-1)) → ((¬ ((f 4755) < 0 ∨ 401 ≤ (f 4755).toNatClampNeg)) ∧ (((¬ ((g 83) (f 4755).toNatClampNeg) = 50) → WP X (d + 1) 161 (38, [some (.ref 74), none, none], [], Wd f fl g gl hh v tx) P) ∧
      ((((g 83) (f 4755).toNatClampNeg) = 50) → ((¬ ((f 4755) < 0 ∨ 401 ≤ (f 4755).toNatClampNeg)) ∧ (((p0 ≤ ((g 84) (f 4755).toNatClampNeg) ∧ ((g 84) (f 4755).toNatClampNeg) ≤ p1) → WP X (d + 1) 161 (42, [some (.ref 74), none, none], [], Wd f fl g gl hh v tx) P) ∧
        ((¬ (p0 ≤ ((g 84) (f 4755).toNatClampNeg) ∧ ((g 84) (f 4755).toNatClampNeg) ≤ p1)) → WP X (d + 1) 161 (38, [some (.ref 74), none, none], [], Wd f fl g gl hh v tx) P)))))))) :
    WP X (d + 1) 161 (0, [some (.ref 74), some (.int p0), some (.int p1)], [], Wd f fl g gl hh v tx) P := by
  refine WP.run hP_161 1 (c' := (1, [some (.ref 74), some (.int p0), some (.int p1)], [.ref 74], Wd f fl g gl hh v tx)) rfl ?_
  refine WP.call hP_161 hP_155 (as := [.ref 74]) (pc' := 4) (L' := [some (.ref 74), some (.int p0), some (.int p1)]) (st' := []) (w1 := Wd f fl g gl hh v tx) rfl ⟨Nat.le_of_ble_eq_true rfl, Nat.le_of_ble_eq_true rfl⟩ rfl (b_m_fine_0 X (d) f fl g gl hh v tx  _ ?_)
  refine ⟨fun c1 => ?_, fun c1 => ?_⟩
  · have h2 := h.1 c1
    refine WP.run hP_161 1 (c' := (42, [some (.ref 74), some (.int p0), some (.int p1)], [], Wd f fl g gl hh v tx)) rfl ?_
    refine WP.clr hP_161 (pc := 42) rfl ?_
    exact h2
  · have h3 := h.2 c1
    refine WP.run hP_161 5 (c' := (15, [some (.ref 74), some (.int p0), some (.int p1)], [.int (f 4755), .ref 83], Wd f fl g gl hh v tx)) rfl ?_
    refine WP.of (fun _ _ => Ex.iald hP_161 rfl (Wa_83 _ _ _ _ _ _ _) h3.1) ?_
    have h4 := h3.2
    refine WP.run hP_161 1 (c' := (18, [some (.ref 74), some (.int p0), some (.int p1)], [.int 50, .int ((g 83) (f 4755).toNatClampNeg)], Wd f fl g gl hh v tx)) rfl ?_
    refine WP.br hP_161 (q := ¬ ((g 83) (f 4755).toNatClampNeg) = 50) (t := 38) (f := 21) (L := [some (.ref 74), some (.int p0), some (.int p1)]) (st := []) (w := Wd f fl g gl hh v tx) rfl (fun c5 => ?_) (fun c5 => ?_)
    · have h6 := h4.1 c5
      refine WP.clr hP_161 (pc := 38) rfl ?_
      exact h6
    · have h7 := h4.2 (Classical.not_not.mp c5)
      refine WP.run hP_161 4 (c' := (29, [some (.ref 74), some (.int p0), some (.int p1)], [.int (f 4755), .ref 84], Wd f fl g gl hh v tx)) rfl ?_
      refine WP.of (fun _ _ => Ex.iald hP_161 rfl (Wa_84 _ _ _ _ _ _ _) h7.1) ?_
      have h8 := h7.2
      refine WP.run hP_161 2 (c' := (32, [some (.ref 74), some (.int p0), some (.int p1)], [.int p1, .int p0, .int ((g 84) (f 4755).toNatClampNeg)], Wd f fl g gl hh v tx)) rfl ?_
      refine WP.call hP_161 hP_116 (as := [.int ((g 84) (f 4755).toNatClampNeg), .int p0, .int p1]) (pc' := 35) (L' := [some (.ref 74), some (.int p0), some (.int p1)]) (st' := []) (w1 := Wd f fl g gl hh v tx) rfl ⟨Nat.le_of_ble_eq_true rfl, Nat.le_of_ble_eq_true rfl⟩ rfl (b_lies_m X (d) f fl g gl hh v tx ((g 84) (f 4755).toNatClampNeg) p0 p1 _ ?_)
      refine ⟨fun c9 => ?_, fun c9 => ?_⟩
      · have h10 := h8.1 c9
        refine WP.run hP_161 1 (c' := (42, [some (.ref 74), some (.int p0), some (.int p1)], [], Wd f fl g gl hh v tx)) rfl ?_
        refine WP.clr hP_161 (pc := 42) rfl ?_
        exact h10
      · have h11 := h8.2 c9
        refine WP.run hP_161 1 (c' := (38, [some (.ref 74), some (.int p0), some (.int p1)], [], Wd f fl g gl hh v tx)) rfl ?_
        refine WP.clr hP_161 (pc := 38) rfl ?_
        exact h11

set_option maxRecDepth 20000 in
theorem b_m_mustNumber_42 (X : mm_X) (d : Nat) (f : Nat → Int32) (fl : Nat → Int64) (g : Nat → Nat → Int32) (gl : Nat → Nat → Int64) (hh : Nat → Nat → Option Nat) (v : Nat → Value) (tx : mm_W)   (P : Option Value → mm_W → Prop)
    (h : ((¬ (f 4757) = (-1)) → P none (Wd f fl g gl hh v tx)) ∧
    (((f 4757) = (-1)) → P none (Wd (va_up f 4755 ((f 4755) + (1 : Int32))) fl g gl hh v tx))) :
    WP X (d + 1) 161 (42, [some (.ref 74), none, none], [], Wd f fl g gl hh v tx) P := by
  refine WP.run hP_161 1 (c' := (43, [some (.ref 74), none, none], [.ref 74], Wd f fl g gl hh v tx)) rfl ?_
  refine WP.call hP_161 hP_155 (as := [.ref 74]) (pc' := 46) (L' := [some (.ref 74), none, none]) (st' := []) (w1 := Wd f fl g gl hh v tx) rfl ⟨Nat.le_of_ble_eq_true rfl, Nat.le_of_ble_eq_true rfl⟩ rfl (b_m_fine_0 X (d) f fl g gl hh v tx  _ ?_)
  refine ⟨fun c1 => ?_, fun c1 => ?_⟩
  · have h2 := h.1 c1
    refine WP.run hP_161 1 (c' := (59, [some (.ref 74), none, none], [], Wd f fl g gl hh v tx)) rfl ?_
    exact WP.ret hP_161 (r := none) (w' := Wd f fl g gl hh v tx) rfl h2
  · have h3 := h.2 c1
    refine WP.run hP_161 7 (c' := (59, [some (.ref 74), none, none], [], Wd (va_up f 4755 ((f 4755) + (1 : Int32))) fl g gl hh v tx)) rfl ?_
    exact WP.ret hP_161 (r := none) (w' := Wd (va_up f 4755 ((f 4755) + (1 : Int32))) fl g gl hh v tx) rfl h3

set_option maxRecDepth 20000 in
theorem b_m_mustNumber_38 (X : mm_X) (d : Nat) (f : Nat → Int32) (fl : Nat → Int64) (g : Nat → Nat → Int32) (gl : Nat → Nat → Int64) (hh : Nat → Nat → Option Nat) (v : Nat → Value) (tx : mm_W)   (P : Option Value → mm_W → Prop)
    (h : ((¬ (f 4757) = (-1)) → WP X (d + 2) 161 (42, [some (.ref 74), none, none], [], Wd f fl g gl hh v tx) P) ∧
    (((f 4757) = (-1)) → ((¬ ((f 4755) < 0 ∨ 401 ≤ (f 4755).toNatClampNeg)) ∧ WP X (d + 2) 161 (42, [some (.ref 74), none, none], [], Wd (va_up f 4757 ((g 85) (f 4755).toNatClampNeg)) fl g gl hh v tx) P))) :
    WP X (d + 2) 161 (38, [some (.ref 74), none, none], [], Wd f fl g gl hh v tx) P := by
  refine WP.run hP_161 1 (c' := (39, [some (.ref 74), none, none], [.ref 74], Wd f fl g gl hh v tx)) rfl ?_
  refine WP.call hP_161 hP_156 (as := [.ref 74]) (pc' := 42) (L' := [some (.ref 74), none, none]) (st' := []) (w1 := Wd f fl g gl hh v tx) rfl ⟨Nat.le_of_ble_eq_true rfl, Nat.le_of_ble_eq_true rfl⟩ rfl (b_m_faults_0 X (d) f fl g gl hh v tx  _ ?_)
  refine ⟨fun c1 => ?_, fun c1 => ?_⟩
  · have h2 := h.1 c1
    exact h2
  · have h3 := h.2 c1
    refine ⟨h3.1, ?_⟩
    have h4 := h3.2
    exact h4
