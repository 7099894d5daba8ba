set_option maxRecDepth 20000 in
theorem b_yte_close_32_0 (X : mm_X) (d : Nat) (f : Nat → Int32) (fl : Nat → Int64) (g : Nat → Nat → Int32) (gl : Nat → Nat → Int64) (hh : Nat → Nat → Option Nat) (v : Nat → Value) (tx : mm_W) (p0 : Int32) (p1 : Int32) (p2 : Int32) (p3 : Int32)  (P : Option Value → mm_W → Prop)
    (h : ((((f 2048) * (5 : Int32)) < 0) → P none (Wd f fl g gl hh v tx)) ∧
    ((¬ (((f 2048) * (5 : Int32)) < 0)) → (((60 < (((f 2048) * (5 : Int32)) + (5 : Int32))) → P none (Wd f fl g gl hh v tx)) ∧
      ((¬ (60 < (((f 2048) * (5 : Int32)) + (5 : Int32)))) → ((¬ ((((f 2048) * (5 : Int32)) + (0 : Int32)) < 0 ∨ 60 ≤ (((f 2048) * (5 : Int32)) + (0 : Int32)).toNatClampNeg)) ∧ ((¬ ((((f 2048) * (5 : Int32)) + (1 : Int32)) < 0 ∨ 60 ≤ (((f 2048) * (5 : Int32)) + (1 : Int32)).toNatClampNeg)) ∧ ((¬ ((((f 2048) * (5 : Int32)) + (2 : Int32)) < 0 ∨ 60 ≤ (((f 2048) * (5 : Int32)) + (2 : Int32)).toNatClampNeg)) ∧ ((¬ ((((f 2048) * (5 : Int32)) + (3 : Int32)) < 0 ∨ 60 ≤ (((f 2048) * (5 : Int32)) + (3 : Int32)).toNatClampNeg)) ∧ ((¬ ((((f 2048) * (5 : Int32)) + (4 : Int32)) < 0 ∨ 60 ≤ (((f 2048) * (5 : Int32)) + (4 : Int32)).toNatClampNeg)) ∧ P none (Wd (va_up f 2048 ((f 2048) + (1 : Int32))) fl (va_up (va_up (va_up (va_up (va_up g 33 (upd (g 33) ((((f 2048) * (5 : Int32)) + (0 : Int32)).toNatClampNeg) p0)) 33 (upd (upd (g 33) ((((f 2048) * (5 : Int32)) + (0 : Int32)).toNatClampNeg) p0) ((((f 2048) * (5 : Int32)) + (1 : Int32)).toNatClampNeg) p1)) 33 (upd (upd (upd (g 33) ((((f 2048) * (5 : Int32)) + (0 : Int32)).toNatClampNeg) p0) ((((f 2048) * (5 : Int32)) + (1 : Int32)).toNatClampNeg) p1) ((((f 2048) * (5 : Int32)) + (2 : Int32)).toNatClampNeg) p2)) 33 (upd (upd (upd (upd (g 33) ((((f 2048) * (5 : Int32)) + (0 : Int32)).toNatClampNeg) p0) ((((f 2048) * (5 : Int32)) + (1 : Int32)).toNatClampNeg) p1) ((((f 2048) * (5 : Int32)) + (2 : Int32)).toNatClampNeg) p2) ((((f 2048) * (5 : Int32)) + (3 : Int32)).toNatClampNeg) p3)) 33 (upd (upd (upd (upd (upd (g 33) ((((f 2048) * (5 : Int32)) + (0 : Int32)).toNatClampNeg) p0) ((((f 2048) * (5 : Int32)) + (1 : Int32)).toNatClampNeg) p1) ((((f 2048) * (5 : Int32)) + (2 : Int32)).toNatClampNeg) p2) ((((f 2048) * (5 : Int32)) + (3 : Int32)).toNatClampNeg) p3) ((((f 2048) * (5 : Int32)) + (4 : Int32)).toNatClampNeg) (f 2049))) gl hh v tx)))))))))) :
    WP X (d) 55 (0, [some (.ref 32), some (.int p0), some (.int p1), some (.int p2), some (.int p3), none], [], Wd f fl g gl hh v tx) P := by
  refine WP.run hP_55 6 (c' := (10, [some (.ref 32), some (.int p0), some (.int p1), some (.int p2), some (.int p3), some (.int ((f 2048) * (5 : Int32)))], [.int ((f 2048) * (5 : Int32))], Wd f fl g gl hh v tx)) rfl ?_
  refine WP.br hP_55 (q := ((f 2048) * (5 : Int32)) < 0) (t := 89) (f := 13) (L := [some (.ref 32), some (.int p0), some (.int p1), some (.int p2), some (.int p3), some (.int ((f 2048) * (5 : Int32)))]) (st := []) (w := Wd f fl g gl hh v tx) rfl (fun c1 => ?_) (fun c1 => ?_)
  · have h2 := h.1 c1
    exact WP.ret hP_55 (r := none) (w' := Wd f fl g gl hh v tx) rfl h2
  · have h3 := h.2 c1
    refine WP.run hP_55 6 (c' := (22, [some (.ref 32), some (.int p0), some (.int p1), some (.int p2), some (.int p3), some (.int ((f 2048) * (5 : Int32)))], [.int 60, .int (((f 2048) * (5 : Int32)) + (5 : Int32))], Wd f fl g gl hh v tx)) rfl ?_
    refine WP.br hP_55 (q := 60 < (((f 2048) * (5 : Int32)) + (5 : Int32))) (t := 89) (f := 25) (L := [some (.ref 32), some (.int p0), some (.int p1), some (.int p2), some (.int p3), some (.int ((f 2048) * (5 : Int32)))]) (st := []) (w := Wd f fl g gl hh v tx) rfl (fun c4 => ?_) (fun c4 => ?_)
    · have h5 := h3.1 c4
      exact WP.ret hP_55 (r := none) (w' := Wd f fl g gl hh v tx) rfl h5
    · have h6 := h3.2 c4
      refine WP.run hP_55 6 (c' := (34, [some (.ref 32), some (.int p0), some (.int p1), some (.int p2), some (.int p3), some (.int ((f 2048) * (5 : Int32)))], [.int p0, .int (((f 2048) * (5 : Int32)) + (0 : Int32)), .ref 33], Wd f fl g gl hh v tx)) rfl ?_
      refine WP.of (fun _ _ => Ex.iast hP_55 (w2 := Wd f fl (va_up g 33 (upd (g 33) ((((f 2048) * (5 : Int32)) + (0 : Int32)).toNatClampNeg) p0)) gl hh v tx) rfl (Wa_33 _ _ _ _ _ _ _) h6.1 (Ws_33 _ _ _ _ _ _ _ _)) ?_
      have h7 := h6.2
      refine WP.run hP_55 6 (c' := (44, [some (.ref 32), some (.int p0), some (.int p1), some (.int p2), some (.int p3), some (.int ((f 2048) * (5 : Int32)))], [.int p1, .int (((f 2048) * (5 : Int32)) + (1 : Int32)), .ref 33], Wd f fl (va_up g 33 (upd (g 33) ((((f 2048) * (5 : Int32)) + (0 : Int32)).toNatClampNeg) p0)) gl hh v tx)) rfl ?_
      refine WP.of (fun _ _ => Ex.iast hP_55 (w2 := Wd f fl (va_up (va_up g 33 (upd (g 33) ((((f 2048) * (5 : Int32)) + (0 : Int32)).toNatClampNeg) p0)) 33 (upd (upd (g 33) ((((f 2048) * (5 : Int32)) + (0 : Int32)).toNatClampNeg) p0) ((((f 2048) * (5 : Int32)) + (1 : Int32)).toNatClampNeg) p1)) gl hh v tx) rfl (Wa_33 _ _ _ _ _ _ _) h7.1 (Ws_33 _ _ _ _ _ _ _ _)) ?_
      have h8 := h7.2
      refine WP.run hP_55 6 (c' := (54, [some (.ref 32), some (.int p0), some (.int p1), some (.int p2), some (.int p3), some (.int ((f 2048) * (5 : Int32)))], [.int p2, .int (((f 2048) * (5 : Int32)) + (2 : Int32)), .ref 33], Wd f fl (va_up (va_up g 33 (upd (g 33) ((((f 2048) * (5 : Int32)) + (0 : Int32)).toNatClampNeg) p0)) 33 (upd (upd (g 33) ((((f 2048) * (5 : Int32)) + (0 : Int32)).toNatClampNeg) p0) ((((f 2048) * (5 : Int32)) + (1 : Int32)).toNatClampNeg) p1)) gl hh v tx)) rfl ?_
      refine WP.of (fun _ _ => Ex.iast hP_55 (w2 := Wd f fl (va_up (va_up (va_up g 33 (upd (g 33) ((((f 2048) * (5 : Int32)) + (0 : Int32)).toNatClampNeg) p0)) 33 (upd (upd (g 33) ((((f 2048) * (5 : Int32)) + (0 : Int32)).toNatClampNeg) p0) ((((f 2048) * (5 : Int32)) + (1 : Int32)).toNatClampNeg) p1)) 33 (upd (upd (upd (g 33) ((((f 2048) * (5 : Int32)) + (0 : Int32)).toNatClampNeg) p0) ((((f 2048) * (5 : Int32)) + (1 : Int32)).toNatClampNeg) p1) ((((f 2048) * (5 : Int32)) + (2 : Int32)).toNatClampNeg) p2)) gl hh v tx) rfl (Wa_33 _ _ _ _ _ _ _) h8.1 (Ws_33 _ _ _ _ _ _ _ _)) ?_
      have h9 := h8.2
      refine WP.run hP_55 6 (c' := (65, [some (.ref 32), some (.int p0), some (.int p1), some (.int p2), some (.int p3), some (.int ((f 2048) * (5 : Int32)))], [.int p3, .int (((f 2048) * (5 : Int32)) + (3 : Int32)), .ref 33], Wd f fl (va_up (va_up (va_up g 33 (upd (g 33) ((((f 2048) * (5 : Int32)) + (0 : Int32)).toNatClampNeg) p0)) 33 (upd (upd (g 33) ((((f 2048) * (5 : Int32)) + (0 : Int32)).toNatClampNeg) p0) ((((f 2048) * (5 : Int32)) + (1 : Int32)).toNatClampNeg) p1)) 33 (upd (upd (upd (g 33) ((((f 2048) * (5 : Int32)) + (0 : Int32)).toNatClampNeg) p0) ((((f 2048) * (5 : Int32)) + (1 : Int32)).toNatClampNeg) p1) ((((f 2048) * (5 : Int32)) + (2 : Int32)).toNatClampNeg) p2)) gl hh v tx)) rfl ?_
      refine WP.of (fun _ _ => Ex.iast hP_55 (w2 := Wd f fl (va_up (va_up (va_up (va_up g 33 (upd (g 33) ((((f 2048) * (5 : Int32)) + (0 : Int32)).toNatClampNeg) p0)) 33 (upd (upd (g 33) ((((f 2048) * (5 : Int32)) + (0 : Int32)).toNatClampNeg) p0) ((((f 2048) * (5 : Int32)) + (1 : Int32)).toNatClampNeg) p1)) 33 (upd (upd (upd (g 33) ((((f 2048) * (5 : Int32)) + (0 : Int32)).toNatClampNeg) p0) ((((f 2048) * (5 : Int32)) + (1 : Int32)).toNatClampNeg) p1) ((((f 2048) * (5 : Int32)) + (2 : Int32)).toNatClampNeg) p2)) 33 (upd (upd (upd (upd (g 33) ((((f 2048) * (5 : Int32)) + (0 : Int32)).toNatClampNeg) p0) ((((f 2048) * (5 : Int32)) + (1 : Int32)).toNatClampNeg) p1) ((((f 2048) * (5 : Int32)) + (2 : Int32)).toNatClampNeg) p2) ((((f 2048) * (5 : Int32)) + (3 : Int32)).toNatClampNeg) p3)) gl hh v tx) rfl (Wa_33 _ _ _ _ _ _ _) h9.1 (Ws_33 _ _ _ _ _ _ _ _)) ?_
      have h10 := h9.2
      refine WP.run hP_55 7 (c' := (78, [some (.ref 32), some (.int p0), some (.int p1), some (.int p2), some (.int p3), some (.int ((f 2048) * (5 : Int32)))], [.int (f 2049), .int (((f 2048) * (5 : Int32)) + (4 : Int32)), .ref 33], Wd f fl (va_up (va_up (va_up (va_up g 33 (upd (g 33) ((((f 2048) * (5 : Int32)) + (0 : Int32)).toNatClampNeg) p0)) 33 (upd (upd (g 33) ((((f 2048) * (5 : Int32)) + (0 : Int32)).toNatClampNeg) p0) ((((f 2048) * (5 : Int32)) + (1 : Int32)).toNatClampNeg) p1)) 33 (upd (upd (upd (g 33) ((((f 2048) * (5 : Int32)) + (0 : Int32)).toNatClampNeg) p0) ((((f 2048) * (5 : Int32)) + (1 : Int32)).toNatClampNeg) p1) ((((f 2048) * (5 : Int32)) + (2 : Int32)).toNatClampNeg) p2)) 33 (upd (upd (upd (upd (g 33) ((((f 2048) * (5 : Int32)) + (0 : Int32)).toNatClampNeg) p0) ((((f 2048) * (5 : Int32)) + (1 : Int32)).toNatClampNeg) p1) ((((f 2048) * (5 : Int32)) + (2 : Int32)).toNatClampNeg) p2) ((((f 2048) * (5 : Int32)) + (3 : Int32)).toNatClampNeg) p3)) gl hh v tx)) rfl ?_
      refine WP.of (fun _ _ => Ex.iast hP_55 (w2 := Wd f fl (va_up (va_up (va_up (va_up (va_up g 33 (upd (g 33) ((((f 2048) * (5 : Int32)) + (0 : Int32)).toNatClampNeg) p0)) 33 (upd (upd (g 33) ((((f 2048) * (5 : Int32)) + (0 : Int32)).toNatClampNeg) p0) ((((f 2048) * (5 : Int32)) + (1 : Int32)).toNatClampNeg) p1)) 33 (upd (upd (upd (g 33) ((((f 2048) * (5 : Int32)) + (0 : Int32)).toNatClampNeg) p0) ((((f 2048) * (5 : Int32)) + (1 : Int32)).toNatClampNeg) p1) ((((f 2048) * (5 : Int32)) + (2 : Int32)).toNatClampNeg) p2)) 33 (upd (upd (upd (upd (g 33) ((((f 2048) * (5 : Int32)) + (0 : Int32)).toNatClampNeg) p0) ((((f 2048) * (5 : Int32)) + (1 : Int32)).toNatClampNeg) p1) ((((f 2048) * (5 : Int32)) + (2 : Int32)).toNatClampNeg) p2) ((((f 2048) * (5 : Int32)) + (3 : Int32)).toNatClampNeg) p3)) 33 (upd (upd (upd (upd (upd (g 33) ((((f 2048) * (5 : Int32)) + (0 : Int32)).toNatClampNeg) p0) ((((f 2048) * (5 : Int32)) + (1 : Int32)).toNatClampNeg) p1) ((((f 2048) * (5 : Int32)) + (2 : Int32)).toNatClampNeg) p2) ((((f 2048) * (5 : Int32)) + (3 : Int32)).toNatClampNeg) p3) ((((f 2048) * (5 : Int32)) + (4 : Int32)).toNatClampNeg) (f 2049))) gl hh v tx) rfl (Wa_33 _ _ _ _ _ _ _) h10.1 (Ws_33 _ _ _ _ _ _ _ _)) ?_
      have h11 := h10.2
      refine WP.run hP_55 6 (c' := (89, [some (.ref 32), some (.int p0), some (.int p1), some (.int p2), some (.int p3), some (.int ((f 2048) * (5 : Int32)))], [], Wd (va_up f 2048 ((f 2048) + (1 : Int32))) fl (va_up (va_up (va_up (va_up (va_up g 33 (upd (g 33) ((((f 2048) * (5 : Int32)) + (0 : Int32)).toNatClampNeg) p0)) 33 (upd (upd (g 33) ((((f 2048) * (5 : Int32)) + (0 : Int32)).toNatClampNeg) p0) ((((f 2048) * (5 : Int32)) + (1 : Int32)).toNatClampNeg) p1)) 33 (upd (upd (upd (g 33) ((((f 2048) * (5 : Int32)) + (0 : Int32)).toNatClampNeg) p0) ((((f 2048) * (5 : Int32)) + (1 : Int32)).toNatClampNeg) p1) ((((f 2048) * (5 : Int32)) + (2 : Int32)).toNatClampNeg) p2)) 33 (upd (upd (upd (upd (g 33) ((((f 2048) * (5 : Int32)) + (0 : Int32)).toNatClampNeg) p0) ((((f 2048) * (5 : Int32)) + (1 : Int32)).toNatClampNeg) p1) ((((f 2048) * (5 : Int32)) + (2 : Int32)).toNatClampNeg) p2) ((((f 2048) * (5 : Int32)) + (3 : Int32)).toNatClampNeg) p3)) 33 (upd (upd (upd (upd (upd (g 33) ((((f 2048) * (5 : Int32)) + (0 : Int32)).toNatClampNeg) p0) ((((f 2048) * (5 : Int32)) + (1 : Int32)).toNatClampNeg) p1) ((((f 2048) * (5 : Int32)) + (2 : Int32)).toNatClampNeg) p2) ((((f 2048) * (5 : Int32)) + (3 : Int32)).toNatClampNeg) p3) ((((f 2048) * (5 : Int32)) + (4 : Int32)).toNatClampNeg) (f 2049))) gl hh v tx)) rfl ?_
      exact WP.ret hP_55 (r := none) (w' := Wd (va_up f 2048 ((f 2048) + (1 : Int32))) fl (va_up (va_up (va_up (va_up (va_up g 33 (upd (g 33) ((((f 2048) * (5 : Int32)) + (0 : Int32)).toNatClampNeg) p0)) 33 (upd (upd (g 33) ((((f 2048) * (5 : Int32)) + (0 : Int32)).toNatClampNeg) p0) ((((f 2048) * (5 : Int32)) + (1 : Int32)).toNatClampNeg) p1)) 33 (upd (upd (upd (g 33) ((((f 2048) * (5 : Int32)) + (0 : Int32)).toNatClampNeg) p0) ((((f 2048) * (5 : Int32)) + (1 : Int32)).toNatClampNeg) p1) ((((f 2048) * (5 : Int32)) + (2 : Int32)).toNatClampNeg) p2)) 33 (upd (upd (upd (upd (g 33) ((((f 2048) * (5 : Int32)) + (0 : Int32)).toNatClampNeg) p0) ((((f 2048) * (5 : Int32)) + (1 : Int32)).toNatClampNeg) p1) ((((f 2048) * (5 : Int32)) + (2 : Int32)).toNatClampNeg) p2) ((((f 2048) * (5 : Int32)) + (3 : Int32)).toNatClampNeg) p3)) 33 (upd (upd (upd (upd (upd (g 33) ((((f 2048) * (5 : Int32)) + (0 : Int32)).toNatClampNeg) p0) ((((f 2048) * (5 : Int32)) + (1 : Int32)).toNatClampNeg) p1) ((((f 2048) * (5 : Int32)) + (2 : Int32)).toNatClampNeg) p2) ((((f 2048) * (5 : Int32)) + (3 : Int32)).toNatClampNeg) p3) ((((f 2048) * (5 : Int32)) + (4 : Int32)).toNatClampNeg) (f 2049))) gl hh v tx) rfl h11

set_option maxRecDepth 20000 in
theorem b_yre_part_31_0 (X : mm_X) (d : Nat) (f : Nat → Int32) (fl : Nat → Int64) (g : Nat → Nat → Int32) (gl : Nat → Nat → Int64) (hh : Nat → Nat → Option Nat) (v : Nat → Value) (tx : mm_W) (p0 : Int32)  (P : Option Value → mm_W → Prop)
    (h : ((¬ (f 1990) = 91) → (((¬ (f 1990) = 48) → ((((f 1988) = 0) → WP X (d) 43 (0, [some (.ref 31), some (.float 19), none, none, none, none, none], [], Wd f fl g gl hh v tx) (fun rv w2 => WP X (d + 1) 39 (98, [some (.ref 31), none, some (.int 0), none, none], rv.toList ++ [], w2) P)) ∧
        ((¬ (f 1988) = 0) → WP X (d) 43 (0, [some (.ref 31), some (.float 18), none, none, none, none, none], [], Wd f fl g gl hh v tx) (fun rv w2 => WP X (d + 1) 39 (98, [some (.ref 31), none, some (.int 0), none, none], rv.toList ++ [], w2) P)))) ∧
      (((f 1990) = 48) → (((50 ≤ (f 1989)) → WP X (d) 40 (0, [some (.ref 31)], [], Wd f fl g gl hh v tx) (fun rv w2 => WP X (d + 1) 39 (134, [some (.ref 31), none, none, none, none], rv.toList ++ [], w2) P)) ∧
        ((¬ (50 ≤ (f 1989))) → ((((f 1993) ≤ 1000) → WP X (d) 42 (0, [some (.ref 31), none], [], Wd (va_up f 1989 ((f 1989) + (1 : Int32))) fl g gl hh v tx) (fun rv w2 => WP X (d + 1) 39 (163, [some (.ref 31), none, some (.int 1), some (.int (-1)), some (.int (f 1993))], rv.toList ++ [], w2) P)) ∧
          ((¬ ((f 1993) ≤ 1000)) → WP X (d) 40 (0, [some (.ref 31)], [], Wd f fl g gl hh v tx) (fun rv w2 => WP X (d + 1) 39 (134, [some (.ref 31), none, none, none, none], rv.toList ++ [], w2) P)))))))) ∧
    (((f 1990) = 91) → (((p0 < 8) → WP X (d) 42 (0, [some (.ref 31), none], [], Wd f fl g gl hh v tx) (fun rv w2 => WP X (d + 1) 39 (24, [some (.ref 31), some (.int p0), none, none, none], rv.toList ++ [], w2) P)) ∧
      ((¬ (p0 < 8)) → WP X (d) 40 (0, [some (.ref 31)], [], Wd f fl g gl hh v tx) (fun rv w2 => WP X (d + 1) 39 (19, [some (.ref 31), some (.int p0), none, none, none], rv.toList ++ [], w2) P))))) :
    WP X (d + 1) 39 (0, [some (.ref 31), some (.int p0), none, none, none], [], Wd f fl g gl hh v tx) P := by
  refine WP.run hP_39 3 (c' := (6, [some (.ref 31), some (.int p0), none, none, none], [.int 91, .int (f 1990)], Wd f fl g gl hh v tx)) rfl ?_
  refine WP.br hP_39 (q := ¬ (f 1990) = 91) (t := 57) (f := 9) (L := [some (.ref 31), some (.int p0), none, none, none]) (st := []) (w := Wd f fl g gl hh v tx) rfl (fun c1 => ?_) (fun c1 => ?_)
  · have h2 := h.1 c1
    refine WP.run hP_39 3 (c' := (63, [some (.ref 31), none, none, none, none], [.int 48, .int (f 1990)], Wd f fl g gl hh v tx)) rfl ?_
    refine WP.br hP_39 (q := ¬ (f 1990) = 48) (t := 70) (f := 66) (L := [some (.ref 31), none, none, none, none]) (st := []) (w := Wd f fl g gl hh v tx) rfl (fun c3 => ?_) (fun c3 => ?_)
    · have h4 := h2.1 c3
      refine WP.run hP_39 1 (c' := (71, [some (.ref 31), none, none, none, none], [.int 0], Wd f fl g gl hh v tx)) rfl ?_
      refine WP.run hP_39 3 (c' := (80, [some (.ref 31), none, some (.int 0), none, none], [], Wd f fl g gl hh v tx)) rfl ?_
      refine WP.run hP_39 3 (c' := (85, [some (.ref 31), none, some (.int 0), none, none], [.int (f 1988), .ref 31], Wd f fl g gl hh v tx)) rfl ?_
      refine WP.br hP_39 (q := (f 1988) = 0) (t := 93) (f := 88) (L := [some (.ref 31), none, some (.int 0), none, none]) (st := [.ref 31]) (w := Wd f fl g gl hh v tx) rfl (fun c5 => ?_) (fun c5 => ?_)
      · have h6 := h4.1 c5
        refine WP.run hP_39 1 (c' := (95, [some (.ref 31), none, some (.int 0), none, none], [.float 19, .ref 31], Wd f fl g gl hh v tx)) rfl ?_
        refine WP.call hP_39 hP_43 (as := [.ref 31, .float 19]) (pc' := 98) (L' := [some (.ref 31), none, some (.int 0), none, none]) (st' := []) (w1 := Wd f fl g gl hh v tx) rfl ⟨Nat.le_of_ble_eq_true rfl, Nat.le_of_ble_eq_true rfl⟩ rfl ?_
        exact h6
      · have h7 := h4.2 c5
        refine WP.run hP_39 2 (c' := (95, [some (.ref 31), none, some (.int 0), none, none], [.float 18, .ref 31], Wd f fl g gl hh v tx)) rfl ?_
        refine WP.call hP_39 hP_43 (as := [.ref 31, .float 18]) (pc' := 98) (L' := [some (.ref 31), none, some (.int 0), none, none]) (st' := []) (w1 := Wd f fl g gl hh v tx) rfl ⟨Nat.le_of_ble_eq_true rfl, Nat.le_of_ble_eq_true rfl⟩ rfl ?_
        exact h7
    · have h8 := h2.2 (Classical.not_not.mp c3)
      refine WP.run hP_39 7 (c' := (98, [some (.ref 31), none, some (.int 1), none, none], [.int (-1)], Wd f fl g gl hh v tx)) rfl ?_
      refine WP.run hP_39 4 (c' := (105, [some (.ref 31), none, some (.int 1), some (.int (-1)), none], [.int 50, .int (f 1989)], Wd f fl g gl hh v tx)) rfl ?_
      refine WP.br hP_39 (q := 50 ≤ (f 1989)) (t := 130) (f := 108) (L := [some (.ref 31), none, some (.int 1), some (.int (-1)), none]) (st := []) (w := Wd f fl g gl hh v tx) rfl (fun c9 => ?_) (fun c9 => ?_)
      · have h10 := h8.1 c9
        refine WP.run hP_39 1 (c' := (131, [some (.ref 31), none, none, none, none], [.ref 31], Wd f fl g gl hh v tx)) rfl ?_
        refine WP.call hP_39 hP_40 (as := [.ref 31]) (pc' := 134) (L' := [some (.ref 31), none, none, none, none]) (st' := []) (w1 := Wd f fl g gl hh v tx) rfl ⟨Nat.le_of_ble_eq_true rfl, Nat.le_of_ble_eq_true rfl⟩ rfl ?_
        exact h10
      · have h11 := h8.2 c9
        refine WP.run hP_39 5 (c' := (119, [some (.ref 31), none, some (.int 1), some (.int (-1)), none], [.int 1000, .int (f 1993)], Wd f fl g gl hh v tx)) rfl ?_
        refine WP.br hP_39 (q := (f 1993) ≤ 1000) (t := 135) (f := 122) (L := [some (.ref 31), none, some (.int 1), some (.int (-1)), none]) (st := []) (w := Wd f fl g gl hh v tx) rfl (fun c12 => ?_) (fun c12 => ?_)
        · have h13 := h11.1 c12
          refine WP.run hP_39 11 (c' := (157, [some (.ref 31), none, some (.int 1), some (.int (-1)), none], [.int (f 1993)], Wd (va_up f 1989 ((f 1989) + (1 : Int32))) fl g gl hh v tx)) rfl ?_
          refine WP.run hP_39 2 (c' := (160, [some (.ref 31), none, some (.int 1), some (.int (-1)), some (.int (f 1993))], [.ref 31], Wd (va_up f 1989 ((f 1989) + (1 : Int32))) fl g gl hh v tx)) rfl ?_
          refine WP.call hP_39 hP_42 (as := [.ref 31]) (pc' := 163) (L' := [some (.ref 31), none, some (.int 1), some (.int (-1)), some (.int (f 1993))]) (st' := []) (w1 := Wd (va_up f 1989 ((f 1989) + (1 : Int32))) fl g gl hh v tx) rfl ⟨Nat.le_of_ble_eq_true rfl, Nat.le_of_ble_eq_true rfl⟩ rfl ?_
          exact h13
        · have h14 := h11.2 c12
          refine WP.run hP_39 2 (c' := (131, [some (.ref 31), none, none, none, none], [.ref 31], Wd f fl g gl hh v tx)) rfl ?_
          refine WP.call hP_39 hP_40 (as := [.ref 31]) (pc' := 134) (L' := [some (.ref 31), none, none, none, none]) (st' := []) (w1 := Wd f fl g gl hh v tx) rfl ⟨Nat.le_of_ble_eq_true rfl, Nat.le_of_ble_eq_true rfl⟩ rfl ?_
          exact h14
  · have h15 := h.2 (Classical.not_not.mp c1)
    refine WP.run hP_39 2 (c' := (12, [some (.ref 31), some (.int p0), none, none, none], [.int 8, .int p0], Wd f fl g gl hh v tx)) rfl ?_
    refine WP.br hP_39 (q := p0 < 8) (t := 20) (f := 15) (L := [some (.ref 31), some (.int p0), none, none, none]) (st := []) (w := Wd f fl g gl hh v tx) rfl (fun c16 => ?_) (fun c16 => ?_)
    · have h17 := h15.1 c16
      refine WP.run hP_39 1 (c' := (21, [some (.ref 31), some (.int p0), none, none, none], [.ref 31], Wd f fl g gl hh v tx)) rfl ?_
      refine WP.call hP_39 hP_42 (as := [.ref 31]) (pc' := 24) (L' := [some (.ref 31), some (.int p0), none, none, none]) (st' := []) (w1 := Wd f fl g gl hh v tx) rfl ⟨Nat.le_of_ble_eq_true rfl, Nat.le_of_ble_eq_true rfl⟩ rfl ?_
      exact h17
    · have h18 := h15.2 c16
      refine WP.run hP_39 1 (c' := (16, [some (.ref 31), some (.int p0), none, none, none], [.ref 31], Wd f fl g gl hh v tx)) rfl ?_
      refine WP.call hP_39 hP_40 (as := [.ref 31]) (pc' := 19) (L' := [some (.ref 31), some (.int p0), none, none, none]) (st' := []) (w1 := Wd f fl g gl hh v tx) rfl ⟨Nat.le_of_ble_eq_true rfl, Nat.le_of_ble_eq_true rfl⟩ rfl ?_
      exact h18

set_option maxRecDepth 20000 in
theorem b_yre_part_31_98 (X : mm_X) (d : Nat) (f : Nat → Int32) (fl : Nat → Int64) (g : Nat → Nat → Int32) (gl : Nat → Nat → Int64) (hh : Nat → Nat → Option Nat) (v : Nat → Value) (tx : mm_W) (l2 : Int32) (s0 : Int32)  (P : Option Value → mm_W → Prop)
    (h : ((50 ≤ (f 1989)) → WP X (d) 40 (0, [some (.ref 31)], [], Wd f fl g gl hh v tx) (fun rv w2 => WP X (d + 1) 39 (134, [some (.ref 31), none, none, none, none], rv.toList ++ [], w2) P)) ∧
    ((¬ (50 ≤ (f 1989))) → (((l2 = 0) → (((¬ s0 = (-1)) → (((l2 = 0) → WP X (d) 42 (0, [some (.ref 31), none], [], Wd (va_up f 1989 ((f 1989) + (1 : Int32))) fl g gl hh v tx) (fun rv w2 => WP X (d + 1) 39 (163, [some (.ref 31), none, some (.int l2), some (.int s0), some (.int s0)], rv.toList ++ [], w2) P)) ∧
          ((¬ l2 = 0) → WP X (d) 42 (0, [some (.ref 31), none], [], Wd (va_up f 1989 ((f 1989) + (1 : Int32))) fl g gl hh v tx) (fun rv w2 => WP X (d + 1) 39 (163, [some (.ref 31), none, some (.int l2), some (.int s0), some (.int (f 1993))], rv.toList ++ [], w2) P)))) ∧
        ((s0 = (-1)) → WP X (d) 40 (0, [some (.ref 31)], [], Wd f fl g gl hh v tx) (fun rv w2 => WP X (d + 1) 39 (134, [some (.ref 31), none, none, none, none], rv.toList ++ [], w2) P)))) ∧
      ((¬ l2 = 0) → ((((f 1993) ≤ 1000) → (((l2 = 0) → WP X (d) 42 (0, [some (.ref 31), none], [], Wd (va_up f 1989 ((f 1989) + (1 : Int32))) fl g gl hh v tx) (fun rv w2 => WP X (d + 1) 39 (163, [some (.ref 31), none, some (.int l2), some (.int s0), some (.int s0)], rv.toList ++ [], w2) P)) ∧
          ((¬ l2 = 0) → WP X (d) 42 (0, [some (.ref 31), none], [], Wd (va_up f 1989 ((f 1989) + (1 : Int32))) fl g gl hh v tx) (fun rv w2 => WP X (d + 1) 39 (163, [some (.ref 31), none, some (.int l2), some (.int s0), some (.int (f 1993))], rv.toList ++ [], w2) P)))) ∧
        ((¬ ((f 1993) ≤ 1000)) → WP X (d) 40 (0, [some (.ref 31)], [], Wd f fl g gl hh v tx) (fun rv w2 => WP X (d + 1) 39 (134, [some (.ref 31), none, none, none, none], rv.toList ++ [], w2) P))))))) :
    WP X (d + 1) 39 (98, [some (.ref 31), none, some (.int l2), none, none], [.int s0], Wd f fl g gl hh v tx) P := by
  refine WP.run hP_39 4 (c' := (105, [some (.ref 31), none, some (.int l2), some (.int s0), none], [.int 50, .int (f 1989)], Wd f fl g gl hh v tx)) rfl ?_
  refine WP.br hP_39 (q := 50 ≤ (f 1989)) (t := 130) (f := 108) (L := [some (.ref 31), none, some (.int l2), some (.int s0), none]) (st := []) (w := Wd f fl g gl hh v tx) rfl (fun c1 => ?_) (fun c1 => ?_)
  · have h2 := h.1 c1
    refine WP.run hP_39 1 (c' := (131, [some (.ref 31), none, none, none, none], [.ref 31], Wd f fl g gl hh v tx)) rfl ?_
    refine WP.call hP_39 hP_40 (as := [.ref 31]) (pc' := 134) (L' := [some (.ref 31), none, none, none, none]) (st' := []) (w1 := Wd f fl g gl hh v tx) rfl ⟨Nat.le_of_ble_eq_true rfl, Nat.le_of_ble_eq_true rfl⟩ rfl ?_
    exact h2
  · have h3 := h.2 c1
    refine WP.run hP_39 1 (c' := (109, [some (.ref 31), none, some (.int l2), some (.int s0), none], [.int l2], Wd f fl g gl hh v tx)) rfl ?_
    refine WP.br hP_39 (q := l2 = 0) (t := 125) (f := 112) (L := [some (.ref 31), none, some (.int l2), some (.int s0), none]) (st := []) (w := Wd f fl g gl hh v tx) rfl (fun c4 => ?_) (fun c4 => ?_)
    · have h5 := h3.1 c4
      refine WP.run hP_39 2 (c' := (127, [some (.ref 31), none, some (.int l2), some (.int s0), none], [.int (-1), .int s0], Wd f fl g gl hh v tx)) rfl ?_
      refine WP.br hP_39 (q := ¬ s0 = (-1)) (t := 135) (f := 130) (L := [some (.ref 31), none, some (.int l2), some (.int s0), none]) (st := []) (w := Wd f fl g gl hh v tx) rfl (fun c6 => ?_) (fun c6 => ?_)
      · have h7 := h5.1 c6
        refine WP.run hP_39 7 (c' := (146, [some (.ref 31), none, some (.int l2), some (.int s0), none], [.int l2], Wd (va_up f 1989 ((f 1989) + (1 : Int32))) fl g gl hh v tx)) rfl ?_
        refine WP.br hP_39 (q := l2 = 0) (t := 156) (f := 149) (L := [some (.ref 31), none, some (.int l2), some (.int s0), none]) (st := []) (w := Wd (va_up f 1989 ((f 1989) + (1 : Int32))) fl g gl hh v tx) rfl (fun c8 => ?_) (fun c8 => ?_)
        · have h9 := h7.1 c8
          refine WP.run hP_39 1 (c' := (157, [some (.ref 31), none, some (.int l2), some (.int s0), none], [.int s0], Wd (va_up f 1989 ((f 1989) + (1 : Int32))) fl g gl hh v tx)) rfl ?_
          refine WP.run hP_39 2 (c' := (160, [some (.ref 31), none, some (.int l2), some (.int s0), some (.int s0)], [.ref 31], Wd (va_up f 1989 ((f 1989) + (1 : Int32))) fl g gl hh v tx)) rfl ?_
          refine WP.call hP_39 hP_42 (as := [.ref 31]) (pc' := 163) (L' := [some (.ref 31), none, some (.int l2), some (.int s0), some (.int s0)]) (st' := []) (w1 := Wd (va_up f 1989 ((f 1989) + (1 : Int32))) fl g gl hh v tx) rfl ⟨Nat.le_of_ble_eq_true rfl, Nat.le_of_ble_eq_true rfl⟩ rfl ?_
          exact h9
        · have h10 := h7.2 c8
          refine WP.run hP_39 5 (c' := (160, [some (.ref 31), none, some (.int l2), some (.int s0), some (.int (f 1993))], [.ref 31], Wd (va_up f 1989 ((f 1989) + (1 : Int32))) fl g gl hh v tx)) rfl ?_
          refine WP.call hP_39 hP_42 (as := [.ref 31]) (pc' := 163) (L' := [some (.ref 31), none, some (.int l2), some (.int s0), some (.int (f 1993))]) (st' := []) (w1 := Wd (va_up f 1989 ((f 1989) + (1 : Int32))) fl g gl hh v tx) rfl ⟨Nat.le_of_ble_eq_true rfl, Nat.le_of_ble_eq_true rfl⟩ rfl ?_
          exact h10
      · have h11 := h5.2 (Classical.not_not.mp c6)
        refine WP.run hP_39 1 (c' := (131, [some (.ref 31), none, none, none, none], [.ref 31], Wd f fl g gl hh v tx)) rfl ?_
        refine WP.call hP_39 hP_40 (as := [.ref 31]) (pc' := 134) (L' := [some (.ref 31), none, none, none, none]) (st' := []) (w1 := Wd f fl g gl hh v tx) rfl ⟨Nat.le_of_ble_eq_true rfl, Nat.le_of_ble_eq_true rfl⟩ rfl ?_
        exact h11
    · have h12 := h3.2 c4
      refine WP.run hP_39 3 (c' := (119, [some (.ref 31), none, some (.int l2), some (.int s0), none], [.int 1000, .int (f 1993)], Wd f fl g gl hh v tx)) rfl ?_
      refine WP.br hP_39 (q := (f 1993) ≤ 1000) (t := 135) (f := 122) (L := [some (.ref 31), none, some (.int l2), some (.int s0), none]) (st := []) (w := Wd f fl g gl hh v tx) rfl (fun c13 => ?_) (fun c13 => ?_)
      · have h14 := h12.1 c13
        refine WP.run hP_39 7 (c' := (146, [some (.ref 31), none, some (.int l2), some (.int s0), none], [.int l2], Wd (va_up f 1989 ((f 1989) + (1 : Int32))) fl g gl hh v tx)) rfl ?_
        refine WP.br hP_39 (q := l2 = 0) (t := 156) (f := 149) (L := [some (.ref 31), none, some (.int l2), some (.int s0), none]) (st := []) (w := Wd (va_up f 1989 ((f 1989) + (1 : Int32))) fl g gl hh v tx) rfl (fun c15 => ?_) (fun c15 => ?_)
        · have h16 := h14.1 c15
          refine WP.run hP_39 1 (c' := (157, [some (.ref 31), none, some (.int l2), some (.int s0), none], [.int s0], Wd (va_up f 1989 ((f 1989) + (1 : Int32))) fl g gl hh v tx)) rfl ?_
          refine WP.run hP_39 2 (c' := (160, [some (.ref 31), none, some (.int l2), some (.int s0), some (.int s0)], [.ref 31], Wd (va_up f 1989 ((f 1989) + (1 : Int32))) fl g gl hh v tx)) rfl ?_
          refine WP.call hP_39 hP_42 (as := [.ref 31]) (pc' := 163) (L' := [some (.ref 31), none, some (.int l2), some (.int s0), some (.int s0)]) (st' := []) (w1 := Wd (va_up f 1989 ((f 1989) + (1 : Int32))) fl g gl hh v tx) rfl ⟨Nat.le_of_ble_eq_true rfl, Nat.le_of_ble_eq_true rfl⟩ rfl ?_
          exact h16
        · have h17 := h14.2 c15
          refine WP.run hP_39 5 (c' := (160, [some (.ref 31), none, some (.int l2), some (.int s0), some (.int (f 1993))], [.ref 31], Wd (va_up f 1989 ((f 1989) + (1 : Int32))) fl g gl hh v tx)) rfl ?_
          refine WP.call hP_39 hP_42 (as := [.ref 31]) (pc' := 163) (L' := [some (.ref 31), none, some (.int l2), some (.int s0), some (.int (f 1993))]) (st' := []) (w1 := Wd (va_up f 1989 ((f 1989) + (1 : Int32))) fl g gl hh v tx) rfl ⟨Nat.le_of_ble_eq_true rfl, Nat.le_of_ble_eq_true rfl⟩ rfl ?_
          exact h17
      · have h18 := h12.2 c13
        refine WP.run hP_39 2 (c' := (131, [some (.ref 31), none, none, none, none], [.ref 31], Wd f fl g gl hh v tx)) rfl ?_
        refine WP.call hP_39 hP_40 (as := [.ref 31]) (pc' := 134) (L' := [some (.ref 31), none, none, none, none]) (st' := []) (w1 := Wd f fl g gl hh v tx) rfl ⟨Nat.le_of_ble_eq_true rfl, Nat.le_of_ble_eq_true rfl⟩ rfl ?_
        exact h18

set_option maxRecDepth 20000 in
theorem b_yre_part_31_134 (X : mm_X) (d : Nat) (f : Nat → Int32) (fl : Nat → Int64) (g : Nat → Nat → Int32) (gl : Nat → Nat → Int64) (hh : Nat → Nat → Option Nat) (v : Nat → Value) (tx : mm_W) (s0 : Int32)  (P : Option Value → mm_W → Prop)
    (h : (s0 = 0 ∨ s0 = 1) ∧ P (some (.int s0)) (Wd f fl g gl hh v tx)) :
    WP X (d) 39 (134, [some (.ref 31), none, none, none, none], [.int s0], Wd f fl g gl hh v tx) P := by
  exact WP.retZ hP_39 rfl rfl h.1 h.2

set_option maxRecDepth 20000 in
theorem b_yre_part_31_163 (X : mm_X) (d : Nat) (f : Nat → Int32) (fl : Nat → Int64) (g : Nat → Nat → Int32) (gl : Nat → Nat → Int64) (hh : Nat → Nat → Option Nat) (v : Nat → Value) (tx : mm_W) (l2 : Int32) (l3 : Int32) (l4 : Int32)  (P : Option Value → mm_W → Prop)
    (h : (((f 1988) = 0) → (((l2 = 0) → WP X (d) 41 (0, [some (.ref 31), some (.int 1), some (.int l4)], [], Wd f fl g gl hh v tx) (fun rv w2 => WP X (d + 1) 39 (230, [none, none, none, none, some (.int l4)], rv.toList ++ [], w2) P)) ∧
      ((¬ l2 = 0) → WP X (d) 41 (0, [some (.ref 31), some (.int 0), some (.int l4)], [], Wd f fl g gl hh v tx) (fun rv w2 => WP X (d + 1) 39 (230, [none, none, none, none, some (.int l4)], rv.toList ++ [], w2) P)))) ∧
    ((¬ (f 1988) = 0) → (((l3 < 5) → (((l2 = 0) → WP X (d) 41 (0, [some (.ref 31), some (.int 1), some (.int l4)], [], Wd f fl g gl hh v tx) (fun rv w2 => WP X (d + 1) 39 (230, [none, none, none, none, some (.int l4)], rv.toList ++ [], w2) P)) ∧
        ((¬ l2 = 0) → WP X (d) 41 (0, [some (.ref 31), some (.int 0), some (.int l4)], [], Wd f fl g gl hh v tx) (fun rv w2 => WP X (d + 1) 39 (230, [none, none, none, none, some (.int l4)], rv.toList ++ [], w2) P)))) ∧
      ((¬ (l3 < 5)) → (((¬ (f 1990) = 48) → WP X (d) 40 (0, [some (.ref 31)], [], Wd f fl g gl hh v tx) (fun rv w2 => WP X (d + 1) 39 (196, [some (.ref 31), none, none, none, none], rv.toList ++ [], w2) P)) ∧
        (((f 1990) = 48) → ((((f 1993) < 3) → WP X (d) 42 (0, [some (.ref 31), none], [], Wd f fl g gl hh v tx) (fun rv w2 => WP X (d + 1) 39 (215, [some (.ref 31), none, some (.int l2), none, some (.int (((5 : Int32) + ((l3 - (5 : Int32)) * (3 : Int32))) + (f 1993)))], rv.toList ++ [], w2) P)) ∧
          ((¬ ((f 1993) < 3)) → WP X (d) 40 (0, [some (.ref 31)], [], Wd f fl g gl hh v tx) (fun rv w2 => WP X (d + 1) 39 (196, [some (.ref 31), none, none, none, none], rv.toList ++ [], w2) P))))))))) :
    WP X (d + 1) 39 (163, [some (.ref 31), none, some (.int l2), some (.int l3), some (.int l4)], [], Wd f fl g gl hh v tx) P := by
  refine WP.run hP_39 2 (c' := (167, [some (.ref 31), none, some (.int l2), some (.int l3), some (.int l4)], [.int (f 1988)], Wd f fl g gl hh v tx)) rfl ?_
  refine WP.br hP_39 (q := (f 1988) = 0) (t := 215) (f := 170) (L := [some (.ref 31), none, some (.int l2), some (.int l3), some (.int l4)]) (st := []) (w := Wd f fl g gl hh v tx) rfl (fun c1 => ?_) (fun c1 => ?_)
  · have h2 := h.1 c1
    refine WP.run hP_39 2 (c' := (217, [some (.ref 31), none, some (.int l2), none, some (.int l4)], [.int l2, .ref 31], Wd f fl g gl hh v tx)) rfl ?_
    refine WP.br hP_39 (q := l2 = 0) (t := 224) (f := 220) (L := [some (.ref 31), none, some (.int l2), none, some (.int l4)]) (st := [.ref 31]) (w := Wd f fl g gl hh v tx) rfl (fun c3 => ?_) (fun c3 => ?_)
    · have h4 := h2.1 c3
      refine WP.run hP_39 1 (c' := (225, [none, none, none, none, some (.int l4)], [.int 1, .ref 31], Wd f fl g gl hh v tx)) rfl ?_
      refine WP.run hP_39 1 (c' := (227, [none, none, none, none, some (.int l4)], [.int l4, .int 1, .ref 31], Wd f fl g gl hh v tx)) rfl ?_
      refine WP.call hP_39 hP_41 (as := [.ref 31, .int 1, .int l4]) (pc' := 230) (L' := [none, none, none, none, some (.int l4)]) (st' := []) (w1 := Wd f fl g gl hh v tx) rfl ⟨Nat.le_of_ble_eq_true rfl, Nat.le_of_ble_eq_true rfl⟩ rfl ?_
      exact h4
    · have h5 := h2.2 c3
      refine WP.run hP_39 3 (c' := (227, [none, none, none, none, some (.int l4)], [.int l4, .int 0, .ref 31], Wd f fl g gl hh v tx)) rfl ?_
      refine WP.call hP_39 hP_41 (as := [.ref 31, .int 0, .int l4]) (pc' := 230) (L' := [none, none, none, none, some (.int l4)]) (st' := []) (w1 := Wd f fl g gl hh v tx) rfl ⟨Nat.le_of_ble_eq_true rfl, Nat.le_of_ble_eq_true rfl⟩ rfl ?_
      exact h5
  · have h6 := h.2 c1
    refine WP.run hP_39 2 (c' := (172, [some (.ref 31), none, some (.int l2), some (.int l3), some (.int l4)], [.int 5, .int l3], Wd f fl g gl hh v tx)) rfl ?_
    refine WP.br hP_39 (q := l3 < 5) (t := 215) (f := 175) (L := [some (.ref 31), none, some (.int l2), some (.int l3), some (.int l4)]) (st := []) (w := Wd f fl g gl hh v tx) rfl (fun c7 => ?_) (fun c7 => ?_)
    · have h8 := h6.1 c7
      refine WP.run hP_39 2 (c' := (217, [some (.ref 31), none, some (.int l2), none, some (.int l4)], [.int l2, .ref 31], Wd f fl g gl hh v tx)) rfl ?_
      refine WP.br hP_39 (q := l2 = 0) (t := 224) (f := 220) (L := [some (.ref 31), none, some (.int l2), none, some (.int l4)]) (st := [.ref 31]) (w := Wd f fl g gl hh v tx) rfl (fun c9 => ?_) (fun c9 => ?_)
      · have h10 := h8.1 c9
        refine WP.run hP_39 1 (c' := (225, [none, none, none, none, some (.int l4)], [.int 1, .ref 31], Wd f fl g gl hh v tx)) rfl ?_
        refine WP.run hP_39 1 (c' := (227, [none, none, none, none, some (.int l4)], [.int l4, .int 1, .ref 31], Wd f fl g gl hh v tx)) rfl ?_
        refine WP.call hP_39 hP_41 (as := [.ref 31, .int 1, .int l4]) (pc' := 230) (L' := [none, none, none, none, some (.int l4)]) (st' := []) (w1 := Wd f fl g gl hh v tx) rfl ⟨Nat.le_of_ble_eq_true rfl, Nat.le_of_ble_eq_true rfl⟩ rfl ?_
        exact h10
      · have h11 := h8.2 c9
        refine WP.run hP_39 3 (c' := (227, [none, none, none, none, some (.int l4)], [.int l4, .int 0, .ref 31], Wd f fl g gl hh v tx)) rfl ?_
        refine WP.call hP_39 hP_41 (as := [.ref 31, .int 0, .int l4]) (pc' := 230) (L' := [none, none, none, none, some (.int l4)]) (st' := []) (w1 := Wd f fl g gl hh v tx) rfl ⟨Nat.le_of_ble_eq_true rfl, Nat.le_of_ble_eq_true rfl⟩ rfl ?_
        exact h11
    · have h12 := h6.2 c7
      refine WP.run hP_39 3 (c' := (181, [some (.ref 31), none, some (.int l2), some (.int l3), some (.int l4)], [.int 48, .int (f 1990)], Wd f fl g gl hh v tx)) rfl ?_
      refine WP.br hP_39 (q := ¬ (f 1990) = 48) (t := 192) (f := 184) (L := [some (.ref 31), none, some (.int l2), some (.int l3), some (.int l4)]) (st := []) (w := Wd f fl g gl hh v tx) rfl (fun c13 => ?_) (fun c13 => ?_)
      · have h14 := h12.1 c13
        refine WP.run hP_39 1 (c' := (193, [some (.ref 31), none, none, none, none], [.ref 31], Wd f fl g gl hh v tx)) rfl ?_
        refine WP.call hP_39 hP_40 (as := [.ref 31]) (pc' := 196) (L' := [some (.ref 31), none, none, none, none]) (st' := []) (w1 := Wd f fl g gl hh v tx) rfl ⟨Nat.le_of_ble_eq_true rfl, Nat.le_of_ble_eq_true rfl⟩ rfl ?_
        exact h14
      · have h15 := h12.2 (Classical.not_not.mp c13)
        refine WP.run hP_39 3 (c' := (189, [some (.ref 31), none, some (.int l2), some (.int l3), some (.int l4)], [.int 3, .int (f 1993)], Wd f fl g gl hh v tx)) rfl ?_
        refine WP.br hP_39 (q := (f 1993) < 3) (t := 197) (f := 192) (L := [some (.ref 31), none, some (.int l2), some (.int l3), some (.int l4)]) (st := []) (w := Wd f fl g gl hh v tx) rfl (fun c16 => ?_) (fun c16 => ?_)
        · have h17 := h15.1 c16
          refine WP.run hP_39 10 (c' := (209, [some (.ref 31), none, some (.int l2), some (.int l3), none], [.int (((5 : Int32) + ((l3 - (5 : Int32)) * (3 : Int32))) + (f 1993))], Wd f fl g gl hh v tx)) rfl ?_
          refine WP.run hP_39 2 (c' := (212, [some (.ref 31), none, some (.int l2), some (.int l3), some (.int (((5 : Int32) + ((l3 - (5 : Int32)) * (3 : Int32))) + (f 1993)))], [.ref 31], Wd f fl g gl hh v tx)) rfl ?_
          refine WP.call hP_39 hP_42 (as := [.ref 31]) (pc' := 215) (L' := [some (.ref 31), none, some (.int l2), some (.int l3), some (.int (((5 : Int32) + ((l3 - (5 : Int32)) * (3 : Int32))) + (f 1993)))]) (st' := []) (w1 := Wd f fl g gl hh v tx) rfl ⟨Nat.le_of_ble_eq_true rfl, Nat.le_of_ble_eq_true rfl⟩ rfl ?_
          refine WP.mono h17 (fun _ _ hq => ?_)
          exact WP.clr hP_39 (pc := 215) rfl hq
        · have h18 := h15.2 c16
          refine WP.run hP_39 1 (c' := (193, [some (.ref 31), none, none, none, none], [.ref 31], Wd f fl g gl hh v tx)) rfl ?_
          refine WP.call hP_39 hP_40 (as := [.ref 31]) (pc' := 196) (L' := [some (.ref 31), none, none, none, none]) (st' := []) (w1 := Wd f fl g gl hh v tx) rfl ⟨Nat.le_of_ble_eq_true rfl, Nat.le_of_ble_eq_true rfl⟩ rfl ?_
          exact h18

set_option maxRecDepth 20000 in
theorem b_yre_part_31_24 (X : mm_X) (d : Nat) (f : Nat → Int32) (fl : Nat → Int64) (g : Nat → Nat → Int32) (gl : Nat → Nat → Int64) (hh : Nat → Nat → Option Nat) (v : Nat → Value) (tx : mm_W) (l1 : Int32)  (P : Option Value → mm_W → Prop)
    (h : WP X (d) 38 (0, [some (.ref 31), some (.int 0), some (.int (l1 + (1 : Int32))), none, none], [], Wd f fl g gl hh v tx) (fun rv w2 => WP X (d + 1) 39 (32, [some (.ref 31), some (.int l1), none, none, none], rv.toList ++ [], w2) P)) :
    WP X (d + 1) 39 (24, [some (.ref 31), some (.int l1), none, none, none], [], Wd f fl g gl hh v tx) P := by
  refine WP.run hP_39 5 (c' := (29, [some (.ref 31), some (.int l1), none, none, none], [.int (l1 + (1 : Int32)), .int 0, .ref 31], Wd f fl g gl hh v tx)) rfl ?_
  refine WP.call hP_39 hP_38 (as := [.ref 31, .int 0, .int (l1 + (1 : Int32))]) (pc' := 32) (L' := [some (.ref 31), some (.int l1), none, none, none]) (st' := []) (w1 := Wd f fl g gl hh v tx) rfl ⟨Nat.le_of_ble_eq_true rfl, Nat.le_of_ble_eq_true rfl⟩ rfl ?_
  exact h

set_option maxRecDepth 20000 in
theorem b_yre_part_31_19 (X : mm_X) (d : Nat) (f : Nat → Int32) (fl : Nat → Int64) (g : Nat → Nat → Int32) (gl : Nat → Nat → Int64) (hh : Nat → Nat → Option Nat) (v : Nat → Value) (tx : mm_W) (l1 : Int32) (s0 : Int32)  (P : Option Value → mm_W → Prop)
    (h : (s0 = 0 ∨ s0 = 1) ∧ P (some (.int s0)) (Wd f fl g gl hh v tx)) :
    WP X (d) 39 (19, [some (.ref 31), some (.int l1), none, none, none], [.int s0], Wd f fl g gl hh v tx) P := by
  exact WP.retZ hP_39 rfl rfl h.1 h.2

set_option maxRecDepth 20000 in
theorem b_yre_part_31_230 (X : mm_X) (d : Nat) (f : Nat → Int32) (fl : Nat → Int64) (g : Nat → Nat → Int32) (gl : Nat → Nat → Int64) (hh : Nat → Nat → Option Nat) (v : Nat → Value) (tx : mm_W) (l4 : Int32)  (P : Option Value → mm_W → Prop)
    (h : P (some (.int 1)) (Wd f fl g gl hh v tx)) :
    WP X (d) 39 (230, [none, none, none, none, some (.int l4)], [], Wd f fl g gl hh v tx) P := by
  refine WP.run hP_39 1 (c' := (231, [none, none, none, none, some (.int l4)], [.int 1], Wd f fl g gl hh v tx)) rfl ?_
  exact WP.ret hP_39 (r := some (.int 1)) (w' := Wd f fl g gl hh v tx) rfl h

set_option maxRecDepth 20000 in
theorem b_yre_part_31_196 (X : mm_X) (d : Nat) (f : Nat → Int32) (fl : Nat → Int64) (g : Nat → Nat → Int32) (gl : Nat → Nat → Int64) (hh : Nat → Nat → Option Nat) (v : Nat → Value) (tx : mm_W) (s0 : Int32)  (P : Option Value → mm_W → Prop)
    (h : (s0 = 0 ∨ s0 = 1) ∧ P (some (.int s0)) (Wd f fl g gl hh v tx)) :
    WP X (d) 39 (196, [some (.ref 31), none, none, none, none], [.int s0], Wd f fl g gl hh v tx) P := by
  exact WP.retZ hP_39 rfl rfl h.1 h.2

set_option maxRecDepth 20000 in
theorem b_yre_part_31_215 (X : mm_X) (d : Nat) (f : Nat → Int32) (fl : Nat → Int64) (g : Nat → Nat → Int32) (gl : Nat → Nat → Int64) (hh : Nat → Nat → Option Nat) (v : Nat → Value) (tx : mm_W) (l2 : Int32) (l4 : Int32)  (P : Option Value → mm_W → Prop)
    (h : ((l2 = 0) → WP X (d) 41 (0, [some (.ref 31), some (.int 1), some (.int l4)], [], Wd f fl g gl hh v tx) (fun rv w2 => WP X (d + 1) 39 (230, [none, none, none, none, some (.int l4)], rv.toList ++ [], w2) P)) ∧
    ((¬ l2 = 0) → WP X (d) 41 (0, [some (.ref 31), some (.int 0), some (.int l4)], [], Wd f fl g gl hh v tx) (fun rv w2 => WP X (d + 1) 39 (230, [none, none, none, none, some (.int l4)], rv.toList ++ [], w2) P))) :
    WP X (d + 1) 39 (215, [some (.ref 31), none, some (.int l2), none, some (.int l4)], [], Wd f fl g gl hh v tx) P := by
  refine WP.run hP_39 2 (c' := (217, [some (.ref 31), none, some (.int l2), none, some (.int l4)], [.int l2, .ref 31], Wd f fl g gl hh v tx)) rfl ?_
  refine WP.br hP_39 (q := l2 = 0) (t := 224) (f := 220) (L := [some (.ref 31), none, some (.int l2), none, some (.int l4)]) (st := [.ref 31]) (w := Wd f fl g gl hh v tx) rfl (fun c1 => ?_) (fun c1 => ?_)
  · have h2 := h.1 c1
    refine WP.run hP_39 1 (c' := (225, [none, none, none, none, some (.int l4)], [.int 1, .ref 31], Wd f fl g gl hh v tx)) rfl ?_
    refine WP.run hP_39 1 (c' := (227, [none, none, none, none, some (.int l4)], [.int l4, .int 1, .ref 31], Wd f fl g gl hh v tx)) rfl ?_
    refine WP.call hP_39 hP_41 (as := [.ref 31, .int 1, .int l4]) (pc' := 230) (L' := [none, none, none, none, some (.int l4)]) (st' := []) (w1 := Wd f fl g gl hh v tx) rfl ⟨Nat.le_of_ble_eq_true rfl, Nat.le_of_ble_eq_true rfl⟩ rfl ?_
    exact h2
  · have h3 := h.2 c1
    refine WP.run hP_39 3 (c' := (227, [none, none, none, none, some (.int l4)], [.int l4, .int 0, .ref 31], Wd f fl g gl hh v tx)) rfl ?_
    refine WP.call hP_39 hP_41 (as := [.ref 31, .int 0, .int l4]) (pc' := 230) (L' := [none, none, none, none, some (.int l4)]) (st' := []) (w1 := Wd f fl g gl hh v tx) rfl ⟨Nat.le_of_ble_eq_true rfl, Nat.le_of_ble_eq_true rfl⟩ rfl ?_
    exact h3

set_option maxRecDepth 20000 in
theorem b_yre_part_31_32 (X : mm_X) (d : Nat) (f : Nat → Int32) (fl : Nat → Int64) (g : Nat → Nat → Int32) (gl : Nat → Nat → Int64) (hh : Nat → Nat → Option Nat) (v : Nat → Value) (tx : mm_W) (l1 : Int32) (s0 : Int32)  (P : Option Value → mm_W → Prop)
    (h : ((¬ s0 = 0) → ((((f 1990) = 93) → WP X (d) 42 (0, [some (.ref 31), none], [], Wd f fl g gl hh v tx) (fun rv w2 => WP X (d + 1) 39 (55, [some (.ref 31), none, none, none, none], rv.toList ++ [], w2) P)) ∧
      ((¬ (f 1990) = 93) → WP X (d) 40 (0, [some (.ref 31)], [], Wd f fl g gl hh v tx) (fun rv w2 => WP X (d + 1) 39 (50, [some (.ref 31), none, none, none, none], rv.toList ++ [], w2) P)))) ∧
    ((s0 = 0) → P (some (.int 0)) (Wd f fl g gl hh v tx))) :
    WP X (d + 1) 39 (32, [some (.ref 31), some (.int l1), none, none, none], [.int s0], Wd f fl g gl hh v tx) P := by
  refine WP.br hP_39 (q := ¬ s0 = 0) (t := 37) (f := 35) (L := [some (.ref 31), some (.int l1), none, none, none]) (st := []) (w := Wd f fl g gl hh v tx) rfl (fun c1 => ?_) (fun c1 => ?_)
  · have h2 := h.1 c1
    refine WP.run hP_39 3 (c' := (43, [some (.ref 31), none, none, none, none], [.int 93, .int (f 1990)], Wd f fl g gl hh v tx)) rfl ?_
    refine WP.br hP_39 (q := (f 1990) = 93) (t := 51) (f := 46) (L := [some (.ref 31), none, none, none, none]) (st := []) (w := Wd f fl g gl hh v tx) rfl (fun c3 => ?_) (fun c3 => ?_)
    · have h4 := h2.1 c3
      refine WP.run hP_39 1 (c' := (52, [some (.ref 31), none, none, none, none], [.ref 31], Wd f fl g gl hh v tx)) rfl ?_
      refine WP.call hP_39 hP_42 (as := [.ref 31]) (pc' := 55) (L' := [some (.ref 31), none, none, none, none]) (st' := []) (w1 := Wd f fl g gl hh v tx) rfl ⟨Nat.le_of_ble_eq_true rfl, Nat.le_of_ble_eq_true rfl⟩ rfl ?_
      exact h4
    · have h5 := h2.2 c3
      refine WP.run hP_39 1 (c' := (47, [some (.ref 31), none, none, none, none], [.ref 31], Wd f fl g gl hh v tx)) rfl ?_
      refine WP.call hP_39 hP_40 (as := [.ref 31]) (pc' := 50) (L' := [some (.ref 31), none, none, none, none]) (st' := []) (w1 := Wd f fl g gl hh v tx) rfl ⟨Nat.le_of_ble_eq_true rfl, Nat.le_of_ble_eq_true rfl⟩ rfl ?_
      exact h5
  · have h6 := h.2 (Classical.not_not.mp c1)
    refine WP.run hP_39 1 (c' := (36, [some (.ref 31), some (.int l1), none, none, none], [.int 0], Wd f fl g gl hh v tx)) rfl ?_
    exact WP.ret hP_39 (r := some (.int 0)) (w' := Wd f fl g gl hh v tx) rfl h6

set_option maxRecDepth 20000 in
theorem b_yre_part_31_55 (X : mm_X) (d : Nat) (f : Nat → Int32) (fl : Nat → Int64) (g : Nat → Nat → Int32) (gl : Nat → Nat → Int64) (hh : Nat → Nat → Option Nat) (v : Nat → Value) (tx : mm_W)   (P : Option Value → mm_W → Prop)
    (h : P (some (.int 1)) (Wd f fl g gl hh v tx)) :
    WP X (d) 39 (55, [some (.ref 31), none, none, none, none], [], Wd f fl g gl hh v tx) P := by
  refine WP.run hP_39 1 (c' := (56, [some (.ref 31), none, none, none, none], [.int 1], Wd f fl g gl hh v tx)) rfl ?_
  exact WP.ret hP_39 (r := some (.int 1)) (w' := Wd f fl g gl hh v tx) rfl h

set_option maxRecDepth 20000 in
theorem b_yre_part_31_50 (X : mm_X) (d : Nat) (f : Nat → Int32) (fl : Nat → Int64) (g : Nat → Nat → Int32) (gl : Nat → Nat → Int64) (hh : Nat → Nat → Option Nat) (v : Nat → Value) (tx : mm_W) (s0 : Int32)  (P : Option Value → mm_W → Prop)
    (h : (s0 = 0 ∨ s0 = 1) ∧ P (some (.int s0)) (Wd f fl g gl hh v tx)) :
    WP X (d) 39 (50, [some (.ref 31), none, none, none, none], [.int s0], Wd f fl g gl hh v tx) P := by
  exact WP.retZ hP_39 rfl rfl h.1 h.2

set_option maxRecDepth 20000 in
theorem b_yre_sum_31_0 (X : mm_X) (d : Nat) (f : Nat → Int32) (fl : Nat → Int64) (g : Nat → Nat → Int32) (gl : Nat → Nat → Int64) (hh : Nat → Nat → Option Nat) (v : Nat → Value) (tx : mm_W) (p0 : Int32) (p1 : Int32)  (P : Option Value → mm_W → Prop)
    (h : ((p0 = 0) → WP X (d) 38 (0, [some (.ref 31), some (.int 1), some (.int p1), none, none], [], Wd f fl g gl hh v tx) (fun rv w2 => WP X (d + 1) 38 (21, [some (.ref 31), some (.int p0), some (.int p1), none, none], rv.toList ++ [], w2) P)) ∧
    ((¬ p0 = 0) → WP X (d) 39 (0, [some (.ref 31), some (.int p1), none, none, none], [], Wd f fl g gl hh v tx) (fun rv w2 => WP X (d + 1) 38 (9, [some (.ref 31), some (.int p0), some (.int p1), none, none], rv.toList ++ [], w2) P))) :
    WP X (d + 1) 38 (0, [some (.ref 31), some (.int p0), some (.int p1), none, none], [], Wd f fl g gl hh v tx) P := by
  refine WP.run hP_38 1 (c' := (1, [some (.ref 31), some (.int p0), some (.int p1), none, none], [.int p0], Wd f fl g gl hh v tx)) rfl ?_
  refine WP.br hP_38 (q := p0 = 0) (t := 15) (f := 4) (L := [some (.ref 31), some (.int p0), some (.int p1), none, none]) (st := []) (w := Wd f fl g gl hh v tx) rfl (fun c1 => ?_) (fun c1 => ?_)
  · have h2 := h.1 c1
    refine WP.run hP_38 3 (c' := (18, [some (.ref 31), some (.int p0), some (.int p1), none, none], [.int p1, .int 1, .ref 31], Wd f fl g gl hh v tx)) rfl ?_
    refine WP.call hP_38 hP_38 (as := [.ref 31, .int 1, .int p1]) (pc' := 21) (L' := [some (.ref 31), some (.int p0), some (.int p1), none, none]) (st' := []) (w1 := Wd f fl g gl hh v tx) rfl ⟨Nat.le_of_ble_eq_true rfl, Nat.le_of_ble_eq_true rfl⟩ rfl ?_
    exact h2
  · have h3 := h.2 c1
    refine WP.run hP_38 2 (c' := (6, [some (.ref 31), some (.int p0), some (.int p1), none, none], [.int p1, .ref 31], Wd f fl g gl hh v tx)) rfl ?_
    refine WP.call hP_38 hP_39 (as := [.ref 31, .int p1]) (pc' := 9) (L' := [some (.ref 31), some (.int p0), some (.int p1), none, none]) (st' := []) (w1 := Wd f fl g gl hh v tx) rfl ⟨Nat.le_of_ble_eq_true rfl, Nat.le_of_ble_eq_true rfl⟩ rfl ?_
    exact h3

set_option maxRecDepth 20000 in
theorem b_yre_sum_31_21 (X : mm_X) (d : Nat) (f : Nat → Int32) (fl : Nat → Int64) (g : Nat → Nat → Int32) (gl : Nat → Nat → Int64) (hh : Nat → Nat → Option Nat) (v : Nat → Value) (tx : mm_W) (l1 : Int32) (l2 : Int32) (s0 : Int32)  (P : Option Value → mm_W → Prop)
    (h : ((¬ s0 = 0) → WP X (d) 38 (28, [some (.ref 31), some (.int l1), some (.int l2), some (.int 0), none], [], Wd f fl g gl hh v tx) P) ∧
    ((s0 = 0) → P (some (.int 0)) (Wd f fl g gl hh v tx))) :
    WP X (d) 38 (21, [some (.ref 31), some (.int l1), some (.int l2), none, none], [.int s0], Wd f fl g gl hh v tx) P := by
  refine WP.br hP_38 (q := ¬ s0 = 0) (t := 26) (f := 24) (L := [some (.ref 31), some (.int l1), some (.int l2), none, none]) (st := []) (w := Wd f fl g gl hh v tx) rfl (fun c1 => ?_) (fun c1 => ?_)
  · have h2 := h.1 c1
    refine WP.run hP_38 1 (c' := (27, [some (.ref 31), some (.int l1), some (.int l2), none, none], [.int 0], Wd f fl g gl hh v tx)) rfl ?_
    refine WP.run hP_38 1 (c' := (28, [some (.ref 31), some (.int l1), some (.int l2), some (.int 0), none], [], Wd f fl g gl hh v tx)) rfl ?_
    exact h2
  · have h3 := h.2 (Classical.not_not.mp c1)
    refine WP.run hP_38 1 (c' := (25, [none, none, none, none, none], [.int 0], Wd f fl g gl hh v tx)) rfl ?_
    exact WP.ret hP_38 (r := some (.int 0)) (w' := Wd f fl g gl hh v tx) rfl h3

set_option maxRecDepth 20000 in
theorem b_yre_sum_31_9 (X : mm_X) (d : Nat) (f : Nat → Int32) (fl : Nat → Int64) (g : Nat → Nat → Int32) (gl : Nat → Nat → Int64) (hh : Nat → Nat → Option Nat) (v : Nat → Value) (tx : mm_W) (l1 : Int32) (l2 : Int32) (s0 : Int32)  (P : Option Value → mm_W → Prop)
    (h : ((s0 = 0) → P (some (.int 0)) (Wd f fl g gl hh v tx)) ∧
    ((¬ s0 = 0) → WP X (d) 38 (28, [some (.ref 31), some (.int l1), some (.int l2), some (.int 0), none], [], Wd f fl g gl hh v tx) P)) :
    WP X (d) 38 (9, [some (.ref 31), some (.int l1), some (.int l2), none, none], [.int s0], Wd f fl g gl hh v tx) P := by
  refine WP.br hP_38 (q := s0 = 0) (t := 24) (f := 12) (L := [some (.ref 31), some (.int l1), some (.int l2), none, none]) (st := []) (w := Wd f fl g gl hh v tx) rfl (fun c1 => ?_) (fun c1 => ?_)
  · have h2 := h.1 c1
    refine WP.run hP_38 1 (c' := (25, [none, none, none, none, none], [.int 0], Wd f fl g gl hh v tx)) rfl ?_
    exact WP.ret hP_38 (r := some (.int 0)) (w' := Wd f fl g gl hh v tx) rfl h2
  · have h3 := h.2 c1
    refine WP.run hP_38 2 (c' := (27, [some (.ref 31), some (.int l1), some (.int l2), none, none], [.int 0], Wd f fl g gl hh v tx)) rfl ?_
    refine WP.run hP_38 1 (c' := (28, [some (.ref 31), some (.int l1), some (.int l2), some (.int 0), none], [], Wd f fl g gl hh v tx)) rfl ?_
    exact h3

set_option maxRecDepth 20000 in
theorem b_yre_sum_31_28 (X : mm_X) (d : Nat) (f : Nat → Int32) (fl : Nat → Int64) (g : Nat → Nat → Int32) (gl : Nat → Nat → Int64) (hh : Nat → Nat → Option Nat) (v : Nat → Value) (tx : mm_W) (l1 : Int32) (l2 : Int32) (l3 : Int32)  (P : Option Value → mm_W → Prop)
    (h : ((400 ≤ l3) → P (some (.int 1)) (Wd f fl g gl hh v tx)) ∧
    ((¬ (400 ≤ l3)) → (((l1 = 0) → (((¬ (f 1990) = 43) → (((¬ (f 1990) = 45) → WP X (d) 38 (110, [some (.ref 31), some (.int l1), some (.int l2), some (.int l3), none], [.int (-1)], Wd f fl g gl hh v tx) P) ∧
          (((f 1990) = 45) → WP X (d) 38 (110, [some (.ref 31), some (.int l1), some (.int l2), some (.int l3), none], [.int 3], Wd f fl g gl hh v tx) P))) ∧
        (((f 1990) = 43) → WP X (d) 38 (110, [some (.ref 31), some (.int l1), some (.int l2), some (.int l3), none], [.int 2], Wd f fl g gl hh v tx) P))) ∧
      ((¬ l1 = 0) → (((¬ (f 1990) = 42) → (((¬ (f 1990) = 47) → (((¬ (f 1990) = 37) → WP X (d) 38 (110, [some (.ref 31), some (.int l1), some (.int l2), some (.int l3), none], [.int (-1)], Wd f fl g gl hh v tx) P) ∧
            (((f 1990) = 37) → WP X (d) 38 (110, [some (.ref 31), some (.int l1), some (.int l2), some (.int l3), none], [.int 6], Wd f fl g gl hh v tx) P))) ∧
          (((f 1990) = 47) → WP X (d) 38 (110, [some (.ref 31), some (.int l1), some (.int l2), some (.int l3), none], [.int 5], Wd f fl g gl hh v tx) P))) ∧
        (((f 1990) = 42) → WP X (d) 38 (110, [some (.ref 31), some (.int l1), some (.int l2), some (.int l3), none], [.int 4], Wd f fl g gl hh v tx) P)))))) :
    WP X (d) 38 (28, [some (.ref 31), some (.int l1), some (.int l2), some (.int l3), none], [], Wd f fl g gl hh v tx) P := by
  refine WP.run hP_38 2 (c' := (32, [some (.ref 31), some (.int l1), some (.int l2), some (.int l3), none], [.int 400, .int l3], Wd f fl g gl hh v tx)) rfl ?_
  refine WP.br hP_38 (q := 400 ≤ l3) (t := 163) (f := 35) (L := [some (.ref 31), some (.int l1), some (.int l2), some (.int l3), none]) (st := []) (w := Wd f fl g gl hh v tx) rfl (fun c1 => ?_) (fun c1 => ?_)
  · have h2 := h.1 c1
    refine WP.run hP_38 1 (c' := (164, [none, none, none, none, none], [.int 1], Wd f fl g gl hh v tx)) rfl ?_
    exact WP.ret hP_38 (r := some (.int 1)) (w' := Wd f fl g gl hh v tx) rfl h2
  · have h3 := h.2 c1
    refine WP.run hP_38 1 (c' := (36, [some (.ref 31), some (.int l1), some (.int l2), some (.int l3), none], [.int l1], Wd f fl g gl hh v tx)) rfl ?_
    refine WP.br hP_38 (q := l1 = 0) (t := 83) (f := 39) (L := [some (.ref 31), some (.int l1), some (.int l2), some (.int l3), none]) (st := []) (w := Wd f fl g gl hh v tx) rfl (fun c4 => ?_) (fun c4 => ?_)
    · have h5 := h3.1 c4
      refine WP.run hP_38 3 (c' := (89, [some (.ref 31), some (.int l1), some (.int l2), some (.int l3), none], [.int 43, .int (f 1990)], Wd f fl g gl hh v tx)) rfl ?_
      refine WP.br hP_38 (q := ¬ (f 1990) = 43) (t := 96) (f := 92) (L := [some (.ref 31), some (.int l1), some (.int l2), some (.int l3), none]) (st := []) (w := Wd f fl g gl hh v tx) rfl (fun c6 => ?_) (fun c6 => ?_)
      · have h7 := h5.1 c6
        refine WP.run hP_38 3 (c' := (102, [some (.ref 31), some (.int l1), some (.int l2), some (.int l3), none], [.int 45, .int (f 1990)], Wd f fl g gl hh v tx)) rfl ?_
        refine WP.br hP_38 (q := ¬ (f 1990) = 45) (t := 109) (f := 105) (L := [some (.ref 31), some (.int l1), some (.int l2), some (.int l3), none]) (st := []) (w := Wd f fl g gl hh v tx) rfl (fun c8 => ?_) (fun c8 => ?_)
        · have h9 := h7.1 c8
          refine WP.run hP_38 1 (c' := (110, [some (.ref 31), some (.int l1), some (.int l2), some (.int l3), none], [.int (-1)], Wd f fl g gl hh v tx)) rfl ?_
          exact h9
        · have h10 := h7.2 (Classical.not_not.mp c8)
          refine WP.run hP_38 2 (c' := (110, [some (.ref 31), some (.int l1), some (.int l2), some (.int l3), none], [.int 3], Wd f fl g gl hh v tx)) rfl ?_
          exact h10
      · have h11 := h5.2 (Classical.not_not.mp c6)
        refine WP.run hP_38 2 (c' := (110, [some (.ref 31), some (.int l1), some (.int l2), some (.int l3), none], [.int 2], Wd f fl g gl hh v tx)) rfl ?_
        exact h11
    · have h12 := h3.2 c4
      refine WP.run hP_38 3 (c' := (45, [some (.ref 31), some (.int l1), some (.int l2), some (.int l3), none], [.int 42, .int (f 1990)], Wd f fl g gl hh v tx)) rfl ?_
      refine WP.br hP_38 (q := ¬ (f 1990) = 42) (t := 52) (f := 48) (L := [some (.ref 31), some (.int l1), some (.int l2), some (.int l3), none]) (st := []) (w := Wd f fl g gl hh v tx) rfl (fun c13 => ?_) (fun c13 => ?_)
      · have h14 := h12.1 c13
        refine WP.run hP_38 3 (c' := (58, [some (.ref 31), some (.int l1), some (.int l2), some (.int l3), none], [.int 47, .int (f 1990)], Wd f fl g gl hh v tx)) rfl ?_
        refine WP.br hP_38 (q := ¬ (f 1990) = 47) (t := 65) (f := 61) (L := [some (.ref 31), some (.int l1), some (.int l2), some (.int l3), none]) (st := []) (w := Wd f fl g gl hh v tx) rfl (fun c15 => ?_) (fun c15 => ?_)
        · have h16 := h14.1 c15
          refine WP.run hP_38 3 (c' := (71, [some (.ref 31), some (.int l1), some (.int l2), some (.int l3), none], [.int 37, .int (f 1990)], Wd f fl g gl hh v tx)) rfl ?_
          refine WP.br hP_38 (q := ¬ (f 1990) = 37) (t := 79) (f := 74) (L := [some (.ref 31), some (.int l1), some (.int l2), some (.int l3), none]) (st := []) (w := Wd f fl g gl hh v tx) rfl (fun c17 => ?_) (fun c17 => ?_)
          · have h18 := h16.1 c17
            refine WP.run hP_38 2 (c' := (110, [some (.ref 31), some (.int l1), some (.int l2), some (.int l3), none], [.int (-1)], Wd f fl g gl hh v tx)) rfl ?_
            exact h18
          · have h19 := h16.2 (Classical.not_not.mp c17)
            refine WP.run hP_38 2 (c' := (110, [some (.ref 31), some (.int l1), some (.int l2), some (.int l3), none], [.int 6], Wd f fl g gl hh v tx)) rfl ?_
            exact h19
        · have h20 := h14.2 (Classical.not_not.mp c15)
          refine WP.run hP_38 2 (c' := (110, [some (.ref 31), some (.int l1), some (.int l2), some (.int l3), none], [.int 5], Wd f fl g gl hh v tx)) rfl ?_
          exact h20
      · have h21 := h12.2 (Classical.not_not.mp c13)
        refine WP.run hP_38 2 (c' := (110, [some (.ref 31), some (.int l1), some (.int l2), some (.int l3), none], [.int 4], Wd f fl g gl hh v tx)) rfl ?_
        exact h21

set_option maxRecDepth 20000 in
theorem b_yre_sum_31_110 (X : mm_X) (d : Nat) (f : Nat → Int32) (fl : Nat → Int64) (g : Nat → Nat → Int32) (gl : Nat → Nat → Int64) (hh : Nat → Nat → Option Nat) (v : Nat → Value) (tx : mm_W) (l1 : Int32) (l2 : Int32) (l3 : Int32) (s0 : Int32)  (P : Option Value → mm_W → Prop)
    (h : ((¬ s0 = (-1)) → WP X (d) 42 (0, [some (.ref 31), none], [], Wd f fl g gl hh v tx) (fun rv w2 => WP X (d + 1) 38 (124, [some (.ref 31), some (.int l1), some (.int l2), some (.int l3), some (.int s0)], rv.toList ++ [], w2) P)) ∧
    ((s0 = (-1)) → P (some (.int 1)) (Wd f fl g gl hh v tx))) :
    WP X (d + 1) 38 (110, [some (.ref 31), some (.int l1), some (.int l2), some (.int l3), none], [.int s0], Wd f fl g gl hh v tx) P := by
  refine WP.run hP_38 3 (c' := (115, [some (.ref 31), some (.int l1), some (.int l2), some (.int l3), some (.int s0)], [.int (-1), .int s0], Wd f fl g gl hh v tx)) rfl ?_
  refine WP.br hP_38 (q := ¬ s0 = (-1)) (t := 120) (f := 118) (L := [some (.ref 31), some (.int l1), some (.int l2), some (.int l3), some (.int s0)]) (st := []) (w := Wd f fl g gl hh v tx) rfl (fun c1 => ?_) (fun c1 => ?_)
  · have h2 := h.1 c1
    refine WP.run hP_38 1 (c' := (121, [some (.ref 31), some (.int l1), some (.int l2), some (.int l3), some (.int s0)], [.ref 31], Wd f fl g gl hh v tx)) rfl ?_
    refine WP.call hP_38 hP_42 (as := [.ref 31]) (pc' := 124) (L' := [some (.ref 31), some (.int l1), some (.int l2), some (.int l3), some (.int s0)]) (st' := []) (w1 := Wd f fl g gl hh v tx) rfl ⟨Nat.le_of_ble_eq_true rfl, Nat.le_of_ble_eq_true rfl⟩ rfl ?_
    exact h2
  · have h3 := h.2 (Classical.not_not.mp c1)
    refine WP.run hP_38 1 (c' := (119, [some (.ref 31), some (.int l1), some (.int l2), some (.int l3), some (.int s0)], [.int 1], Wd f fl g gl hh v tx)) rfl ?_
    exact WP.ret hP_38 (r := some (.int 1)) (w' := Wd f fl g gl hh v tx) rfl h3

set_option maxRecDepth 20000 in
theorem b_yre_sum_31_124 (X : mm_X) (d : Nat) (f : Nat → Int32) (fl : Nat → Int64) (g : Nat → Nat → Int32) (gl : Nat → Nat → Int64) (hh : Nat → Nat → Option Nat) (v : Nat → Value) (tx : mm_W) (l1 : Int32) (l2 : Int32) (l3 : Int32) (l4 : Int32)  (P : Option Value → mm_W → Prop)
    (h : ((l1 = 0) → WP X (d) 38 (0, [some (.ref 31), some (.int 1), some (.int l2), none, none], [], Wd f fl g gl hh v tx) (fun rv w2 => WP X (d + 1) 38 (145, [some (.ref 31), some (.int l1), some (.int l2), some (.int l3), some (.int l4)], rv.toList ++ [], w2) P)) ∧
    ((¬ l1 = 0) → WP X (d) 39 (0, [some (.ref 31), some (.int l2), none, none, none], [], Wd f fl g gl hh v tx) (fun rv w2 => WP X (d + 1) 38 (133, [some (.ref 31), some (.int l1), some (.int l2), some (.int l3), some (.int l4)], rv.toList ++ [], w2) P))) :
    WP X (d + 1) 38 (124, [some (.ref 31), some (.int l1), some (.int l2), some (.int l3), some (.int l4)], [], Wd f fl g gl hh v tx) P := by
  refine WP.run hP_38 1 (c' := (125, [some (.ref 31), some (.int l1), some (.int l2), some (.int l3), some (.int l4)], [.int l1], Wd f fl g gl hh v tx)) rfl ?_
  refine WP.br hP_38 (q := l1 = 0) (t := 139) (f := 128) (L := [some (.ref 31), some (.int l1), some (.int l2), some (.int l3), some (.int l4)]) (st := []) (w := Wd f fl g gl hh v tx) rfl (fun c1 => ?_) (fun c1 => ?_)
  · have h2 := h.1 c1
    refine WP.run hP_38 3 (c' := (142, [some (.ref 31), some (.int l1), some (.int l2), some (.int l3), some (.int l4)], [.int l2, .int 1, .ref 31], Wd f fl g gl hh v tx)) rfl ?_
    refine WP.call hP_38 hP_38 (as := [.ref 31, .int 1, .int l2]) (pc' := 145) (L' := [some (.ref 31), some (.int l1), some (.int l2), some (.int l3), some (.int l4)]) (st' := []) (w1 := Wd f fl g gl hh v tx) rfl ⟨Nat.le_of_ble_eq_true rfl, Nat.le_of_ble_eq_true rfl⟩ rfl ?_
    exact h2
  · have h3 := h.2 c1
    refine WP.run hP_38 2 (c' := (130, [some (.ref 31), some (.int l1), some (.int l2), some (.int l3), some (.int l4)], [.int l2, .ref 31], Wd f fl g gl hh v tx)) rfl ?_
    refine WP.call hP_38 hP_39 (as := [.ref 31, .int l2]) (pc' := 133) (L' := [some (.ref 31), some (.int l1), some (.int l2), some (.int l3), some (.int l4)]) (st' := []) (w1 := Wd f fl g gl hh v tx) rfl ⟨Nat.le_of_ble_eq_true rfl, Nat.le_of_ble_eq_true rfl⟩ rfl ?_
    exact h3

set_option maxRecDepth 20000 in
theorem b_yre_sum_31_145 (X : mm_X) (d : Nat) (f : Nat → Int32) (fl : Nat → Int64) (g : Nat → Nat → Int32) (gl : Nat → Nat → Int64) (hh : Nat → Nat → Option Nat) (v : Nat → Value) (tx : mm_W) (l1 : Int32) (l2 : Int32) (l3 : Int32) (l4 : Int32) (s0 : Int32)  (P : Option Value → mm_W → Prop)
    (h : ((¬ s0 = 0) → WP X (d) 41 (0, [some (.ref 31), some (.int l4), some (.int 0)], [], Wd f fl g gl hh v tx) (fun rv w2 => WP X (d + 1) 38 (157, [some (.ref 31), some (.int l1), some (.int l2), some (.int l3), some (.int l4)], rv.toList ++ [], w2) P)) ∧
    ((s0 = 0) → P (some (.int 0)) (Wd f fl g gl hh v tx))) :
    WP X (d + 1) 38 (145, [some (.ref 31), some (.int l1), some (.int l2), some (.int l3), some (.int l4)], [.int s0], Wd f fl g gl hh v tx) P := by
  refine WP.br hP_38 (q := ¬ s0 = 0) (t := 150) (f := 148) (L := [some (.ref 31), some (.int l1), some (.int l2), some (.int l3), some (.int l4)]) (st := []) (w := Wd f fl g gl hh v tx) rfl (fun c1 => ?_) (fun c1 => ?_)
  · have h2 := h.1 c1
    refine WP.run hP_38 3 (c' := (154, [some (.ref 31), some (.int l1), some (.int l2), some (.int l3), some (.int l4)], [.int 0, .int l4, .ref 31], Wd f fl g gl hh v tx)) rfl ?_
    refine WP.call hP_38 hP_41 (as := [.ref 31, .int l4, .int 0]) (pc' := 157) (L' := [some (.ref 31), some (.int l1), some (.int l2), some (.int l3), some (.int l4)]) (st' := []) (w1 := Wd f fl g gl hh v tx) rfl ⟨Nat.le_of_ble_eq_true rfl, Nat.le_of_ble_eq_true rfl⟩ rfl ?_
    exact h2
  · have h3 := h.2 (Classical.not_not.mp c1)
    refine WP.run hP_38 1 (c' := (149, [none, none, none, none, none], [.int 0], Wd f fl g gl hh v tx)) rfl ?_
    exact WP.ret hP_38 (r := some (.int 0)) (w' := Wd f fl g gl hh v tx) rfl h3

set_option maxRecDepth 20000 in
theorem b_yre_sum_31_133 (X : mm_X) (d : Nat) (f : Nat → Int32) (fl : Nat → Int64) (g : Nat → Nat → Int32) (gl : Nat → Nat → Int64) (hh : Nat → Nat → Option Nat) (v : Nat → Value) (tx : mm_W) (l1 : Int32) (l2 : Int32) (l3 : Int32) (l4 : Int32) (s0 : Int32)  (P : Option Value → mm_W → Prop)
    (h : ((s0 = 0) → P (some (.int 0)) (Wd f fl g gl hh v tx)) ∧
    ((¬ s0 = 0) → WP X (d) 41 (0, [some (.ref 31), some (.int l4), some (.int 0)], [], Wd f fl g gl hh v tx) (fun rv w2 => WP X (d + 1) 38 (157, [some (.ref 31), some (.int l1), some (.int l2), some (.int l3), some (.int l4)], rv.toList ++ [], w2) P))) :
    WP X (d + 1) 38 (133, [some (.ref 31), some (.int l1), some (.int l2), some (.int l3), some (.int l4)], [.int s0], Wd f fl g gl hh v tx) P := by
  refine WP.br hP_38 (q := s0 = 0) (t := 148) (f := 136) (L := [some (.ref 31), some (.int l1), some (.int l2), some (.int l3), some (.int l4)]) (st := []) (w := Wd f fl g gl hh v tx) rfl (fun c1 => ?_) (fun c1 => ?_)
  · have h2 := h.1 c1
    refine WP.run hP_38 1 (c' := (149, [none, none, none, none, none], [.int 0], Wd f fl g gl hh v tx)) rfl ?_
    exact WP.ret hP_38 (r := some (.int 0)) (w' := Wd f fl g gl hh v tx) rfl h2
  · have h3 := h.2 c1
    refine WP.run hP_38 4 (c' := (154, [some (.ref 31), some (.int l1), some (.int l2), some (.int l3), some (.int l4)], [.int 0, .int l4, .ref 31], Wd f fl g gl hh v tx)) rfl ?_
    refine WP.call hP_38 hP_41 (as := [.ref 31, .int l4, .int 0]) (pc' := 157) (L' := [some (.ref 31), some (.int l1), some (.int l2), some (.int l3), some (.int l4)]) (st' := []) (w1 := Wd f fl g gl hh v tx) rfl ⟨Nat.le_of_ble_eq_true rfl, Nat.le_of_ble_eq_true rfl⟩ rfl ?_
    exact h3

set_option maxRecDepth 20000 in
theorem b_yre_sum_31_157 (X : mm_X) (d : Nat) (f : Nat → Int32) (fl : Nat → Int64) (g : Nat → Nat → Int32) (gl : Nat → Nat → Int64) (hh : Nat → Nat → Option Nat) (v : Nat → Value) (tx : mm_W) (l1 : Int32) (l2 : Int32) (l3 : Int32) (l4 : Int32)  (P : Option Value → mm_W → Prop)
    (h : WP X (d) 38 (28, [some (.ref 31), some (.int l1), some (.int l2), some (.int (l3 + (1 : Int32))), none], [], Wd f fl g gl hh v tx) P) :
    WP X (d) 38 (157, [some (.ref 31), some (.int l1), some (.int l2), some (.int l3), some (.int l4)], [], Wd f fl g gl hh v tx) P := by
  refine WP.run hP_38 2 (c' := (28, [some (.ref 31), some (.int l1), some (.int l2), some (.int (l3 + (1 : Int32))), some (.int l4)], [], Wd f fl g gl hh v tx)) rfl ?_
  refine WP.clr hP_38 (pc := 28) rfl ?_
  exact h

set_option maxRecDepth 20000 in
theorem b_yre_plain_31_0 (X : mm_X) (d : Nat) (f : Nat → Int32) (fl : Nat → Int64) (g : Nat → Nat → Int32) (gl : Nat → Nat → Int64) (hh : Nat → Nat → Option Nat) (v : Nat → Value) (tx : mm_W) (p0 : Int32)  (P : Option Value → mm_W → Prop)
    (h : WP X (d) 37 (4, [some (.ref 31), some (.int p0), some (.int 0), some (.int 0)], [], Wd f fl g gl hh v tx) P) :
    WP X (d) 37 (0, [some (.ref 31), some (.int p0), none, none], [], Wd f fl g gl hh v tx) P := by
  refine WP.run hP_37 3 (c' := (3, [some (.ref 31), some (.int p0), some (.int 0), none], [.int 0], Wd f fl g gl hh v tx)) rfl ?_
  refine WP.run hP_37 1 (c' := (4, [some (.ref 31), some (.int p0), some (.int 0), some (.int 0)], [], Wd f fl g gl hh v tx)) rfl ?_
  exact h

set_option maxRecDepth 20000 in
theorem b_yre_plain_31_4 (X : mm_X) (d : Nat) (f : Nat → Int32) (fl : Nat → Int64) (g : Nat → Nat → Int32) (gl : Nat → Nat → Int64) (hh : Nat → Nat → Option Nat) (v : Nat → Value) (tx : mm_W) (l1 : Int32) (l2 : Int32) (l3 : Int32)  (P : Option Value → mm_W → Prop)
    (h : ((400 ≤ l3) → (((¬ (f 1990) = 40) → WP X (d) 38 (0, [some (.ref 31), some (.int 0), some (.int l1), none, none], [], Wd f fl g gl hh v tx) (fun rv w2 => WP X (d + 1) 37 (104, [some (.ref 31), some (.int l1), some (.int l2), none], rv.toList ++ [], w2) P)) ∧
      (((f 1990) = 40) → (((l1 < 8) → WP X (d) 42 (0, [some (.ref 31), none], [], Wd f fl g gl hh v tx) (fun rv w2 => WP X (d + 1) 37 (64, [some (.ref 31), some (.int l1), some (.int l2), none], rv.toList ++ [], w2) P)) ∧
        ((¬ (l1 < 8)) → WP X (d) 40 (0, [some (.ref 31)], [], Wd f fl g gl hh v tx) (fun rv w2 => WP X (d + 1) 37 (59, [some (.ref 31), some (.int l1), some (.int l2), none], rv.toList ++ [], w2) P)))))) ∧
    ((¬ (400 ≤ l3)) → WP X (d) 43 (0, [some (.ref 31), some (.float 22), none, none, none, none, none], [], Wd f fl g gl hh v tx) (fun rv w2 => WP X (d + 1) 37 (17, [some (.ref 31), some (.int l1), some (.int l2), some (.int l3)], rv.toList ++ [], w2) P))) :
    WP X (d + 1) 37 (4, [some (.ref 31), some (.int l1), some (.int l2), some (.int l3)], [], Wd f fl g gl hh v tx) P := by
  refine WP.run hP_37 2 (c' := (8, [some (.ref 31), some (.int l1), some (.int l2), some (.int l3)], [.int 400, .int l3], Wd f fl g gl hh v tx)) rfl ?_
  refine WP.br hP_37 (q := 400 ≤ l3) (t := 40) (f := 11) (L := [some (.ref 31), some (.int l1), some (.int l2), some (.int l3)]) (st := []) (w := Wd f fl g gl hh v tx) rfl (fun c1 => ?_) (fun c1 => ?_)
  · have h2 := h.1 c1
    refine WP.run hP_37 3 (c' := (46, [some (.ref 31), some (.int l1), some (.int l2), none], [.int 40, .int (f 1990)], Wd f fl g gl hh v tx)) rfl ?_
    refine WP.br hP_37 (q := ¬ (f 1990) = 40) (t := 98) (f := 49) (L := [some (.ref 31), some (.int l1), some (.int l2), none]) (st := []) (w := Wd f fl g gl hh v tx) rfl (fun c3 => ?_) (fun c3 => ?_)
    · have h4 := h2.1 c3
      refine WP.run hP_37 3 (c' := (101, [some (.ref 31), some (.int l1), some (.int l2), none], [.int l1, .int 0, .ref 31], Wd f fl g gl hh v tx)) rfl ?_
      refine WP.call hP_37 hP_38 (as := [.ref 31, .int 0, .int l1]) (pc' := 104) (L' := [some (.ref 31), some (.int l1), some (.int l2), none]) (st' := []) (w1 := Wd f fl g gl hh v tx) rfl ⟨Nat.le_of_ble_eq_true rfl, Nat.le_of_ble_eq_true rfl⟩ rfl ?_
      exact h4
    · have h5 := h2.2 (Classical.not_not.mp c3)
      refine WP.run hP_37 2 (c' := (52, [some (.ref 31), some (.int l1), some (.int l2), none], [.int 8, .int l1], Wd f fl g gl hh v tx)) rfl ?_
      refine WP.br hP_37 (q := l1 < 8) (t := 60) (f := 55) (L := [some (.ref 31), some (.int l1), some (.int l2), none]) (st := []) (w := Wd f fl g gl hh v tx) rfl (fun c6 => ?_) (fun c6 => ?_)
      · have h7 := h5.1 c6
        refine WP.run hP_37 1 (c' := (61, [some (.ref 31), some (.int l1), some (.int l2), none], [.ref 31], Wd f fl g gl hh v tx)) rfl ?_
        refine WP.call hP_37 hP_42 (as := [.ref 31]) (pc' := 64) (L' := [some (.ref 31), some (.int l1), some (.int l2), none]) (st' := []) (w1 := Wd f fl g gl hh v tx) rfl ⟨Nat.le_of_ble_eq_true rfl, Nat.le_of_ble_eq_true rfl⟩ rfl ?_
        exact h7
      · have h8 := h5.2 c6
        refine WP.run hP_37 1 (c' := (56, [some (.ref 31), some (.int l1), some (.int l2), none], [.ref 31], Wd f fl g gl hh v tx)) rfl ?_
        refine WP.call hP_37 hP_40 (as := [.ref 31]) (pc' := 59) (L' := [some (.ref 31), some (.int l1), some (.int l2), none]) (st' := []) (w1 := Wd f fl g gl hh v tx) rfl ⟨Nat.le_of_ble_eq_true rfl, Nat.le_of_ble_eq_true rfl⟩ rfl ?_
        exact h8
  · have h9 := h.2 c1
    refine WP.run hP_37 2 (c' := (14, [some (.ref 31), some (.int l1), some (.int l2), some (.int l3)], [.float 22, .ref 31], Wd f fl g gl hh v tx)) rfl ?_
    refine WP.call hP_37 hP_43 (as := [.ref 31, .float 22]) (pc' := 17) (L' := [some (.ref 31), some (.int l1), some (.int l2), some (.int l3)]) (st' := []) (w1 := Wd f fl g gl hh v tx) rfl ⟨Nat.le_of_ble_eq_true rfl, Nat.le_of_ble_eq_true rfl⟩ rfl ?_
    exact h9

set_option maxRecDepth 20000 in
theorem b_yre_plain_31_104 (X : mm_X) (d : Nat) (f : Nat → Int32) (fl : Nat → Int64) (g : Nat → Nat → Int32) (gl : Nat → Nat → Int64) (hh : Nat → Nat → Option Nat) (v : Nat → Value) (tx : mm_W) (l1 : Int32) (l2 : Int32) (s0 : Int32)  (P : Option Value → mm_W → Prop)
    (h : ((¬ s0 = 0) → ((((f 1990) = 60) → WP X (d) 42 (0, [some (.ref 31), none], [], Wd f fl g gl hh v tx) (fun rv w2 => WP X (d + 1) 37 (141, [some (.ref 31), some (.int l1), some (.int l2), some (.int (f 1990))], rv.toList ++ [], w2) P)) ∧
      ((¬ (f 1990) = 60) → ((((f 1990) = 62) → WP X (d) 42 (0, [some (.ref 31), none], [], Wd f fl g gl hh v tx) (fun rv w2 => WP X (d + 1) 37 (141, [some (.ref 31), some (.int l1), some (.int l2), some (.int (f 1990))], rv.toList ++ [], w2) P)) ∧
        ((¬ (f 1990) = 62) → ((((f 1990) = 61) → WP X (d) 42 (0, [some (.ref 31), none], [], Wd f fl g gl hh v tx) (fun rv w2 => WP X (d + 1) 37 (141, [some (.ref 31), some (.int l1), some (.int l2), some (.int (f 1990))], rv.toList ++ [], w2) P)) ∧
          ((¬ (f 1990) = 61) → WP X (d) 40 (0, [some (.ref 31)], [], Wd f fl g gl hh v tx) (fun rv w2 => WP X (d + 1) 37 (136, [some (.ref 31), some (.int l1), some (.int l2), some (.int (f 1990))], rv.toList ++ [], w2) P)))))))) ∧
    ((s0 = 0) → P (some (.int 0)) (Wd f fl g gl hh v tx))) :
    WP X (d + 1) 37 (104, [some (.ref 31), some (.int l1), some (.int l2), none], [.int s0], Wd f fl g gl hh v tx) P := by
  refine WP.br hP_37 (q := ¬ s0 = 0) (t := 109) (f := 107) (L := [some (.ref 31), some (.int l1), some (.int l2), none]) (st := []) (w := Wd f fl g gl hh v tx) rfl (fun c1 => ?_) (fun c1 => ?_)
  · have h2 := h.1 c1
    refine WP.run hP_37 2 (c' := (113, [some (.ref 31), some (.int l1), some (.int l2), none], [.int (f 1990)], Wd f fl g gl hh v tx)) rfl ?_
    refine WP.run hP_37 3 (c' := (117, [some (.ref 31), some (.int l1), some (.int l2), some (.int (f 1990))], [.int 60, .int (f 1990)], Wd f fl g gl hh v tx)) rfl ?_
    refine WP.br hP_37 (q := (f 1990) = 60) (t := 137) (f := 120) (L := [some (.ref 31), some (.int l1), some (.int l2), some (.int (f 1990))]) (st := []) (w := Wd f fl g gl hh v tx) rfl (fun c3 => ?_) (fun c3 => ?_)
    · have h4 := h2.1 c3
      refine WP.run hP_37 1 (c' := (138, [some (.ref 31), some (.int l1), some (.int l2), some (.int (f 1990))], [.ref 31], Wd f fl g gl hh v tx)) rfl ?_
      refine WP.call hP_37 hP_42 (as := [.ref 31]) (pc' := 141) (L' := [some (.ref 31), some (.int l1), some (.int l2), some (.int (f 1990))]) (st' := []) (w1 := Wd f fl g gl hh v tx) rfl ⟨Nat.le_of_ble_eq_true rfl, Nat.le_of_ble_eq_true rfl⟩ rfl ?_
      exact h4
    · have h5 := h2.2 c3
      refine WP.run hP_37 2 (c' := (123, [some (.ref 31), some (.int l1), some (.int l2), some (.int (f 1990))], [.int 62, .int (f 1990)], Wd f fl g gl hh v tx)) rfl ?_
      refine WP.br hP_37 (q := (f 1990) = 62) (t := 137) (f := 126) (L := [some (.ref 31), some (.int l1), some (.int l2), some (.int (f 1990))]) (st := []) (w := Wd f fl g gl hh v tx) rfl (fun c6 => ?_) (fun c6 => ?_)
      · have h7 := h5.1 c6
        refine WP.run hP_37 1 (c' := (138, [some (.ref 31), some (.int l1), some (.int l2), some (.int (f 1990))], [.ref 31], Wd f fl g gl hh v tx)) rfl ?_
        refine WP.call hP_37 hP_42 (as := [.ref 31]) (pc' := 141) (L' := [some (.ref 31), some (.int l1), some (.int l2), some (.int (f 1990))]) (st' := []) (w1 := Wd f fl g gl hh v tx) rfl ⟨Nat.le_of_ble_eq_true rfl, Nat.le_of_ble_eq_true rfl⟩ rfl ?_
        exact h7
      · have h8 := h5.2 c6
        refine WP.run hP_37 2 (c' := (129, [some (.ref 31), some (.int l1), some (.int l2), some (.int (f 1990))], [.int 61, .int (f 1990)], Wd f fl g gl hh v tx)) rfl ?_
        refine WP.br hP_37 (q := (f 1990) = 61) (t := 137) (f := 132) (L := [some (.ref 31), some (.int l1), some (.int l2), some (.int (f 1990))]) (st := []) (w := Wd f fl g gl hh v tx) rfl (fun c9 => ?_) (fun c9 => ?_)
        · have h10 := h8.1 c9
          refine WP.run hP_37 1 (c' := (138, [some (.ref 31), some (.int l1), some (.int l2), some (.int (f 1990))], [.ref 31], Wd f fl g gl hh v tx)) rfl ?_
          refine WP.call hP_37 hP_42 (as := [.ref 31]) (pc' := 141) (L' := [some (.ref 31), some (.int l1), some (.int l2), some (.int (f 1990))]) (st' := []) (w1 := Wd f fl g gl hh v tx) rfl ⟨Nat.le_of_ble_eq_true rfl, Nat.le_of_ble_eq_true rfl⟩ rfl ?_
          exact h10
        · have h11 := h8.2 c9
          refine WP.run hP_37 1 (c' := (133, [some (.ref 31), some (.int l1), some (.int l2), some (.int (f 1990))], [.ref 31], Wd f fl g gl hh v tx)) rfl ?_
          refine WP.call hP_37 hP_40 (as := [.ref 31]) (pc' := 136) (L' := [some (.ref 31), some (.int l1), some (.int l2), some (.int (f 1990))]) (st' := []) (w1 := Wd f fl g gl hh v tx) rfl ⟨Nat.le_of_ble_eq_true rfl, Nat.le_of_ble_eq_true rfl⟩ rfl ?_
          exact h11
  · have h12 := h.2 (Classical.not_not.mp c1)
    refine WP.run hP_37 1 (c' := (108, [some (.ref 31), some (.int l1), some (.int l2), none], [.int 0], Wd f fl g gl hh v tx)) rfl ?_
    exact WP.ret hP_37 (r := some (.int 0)) (w' := Wd f fl g gl hh v tx) rfl h12

set_option maxRecDepth 20000 in
theorem b_yre_plain_31_64 (X : mm_X) (d : Nat) (f : Nat → Int32) (fl : Nat → Int64) (g : Nat → Nat → Int32) (gl : Nat → Nat → Int64) (hh : Nat → Nat → Option Nat) (v : Nat → Value) (tx : mm_W) (l1 : Int32) (l2 : Int32)  (P : Option Value → mm_W → Prop)
    (h : WP X (d) 36 (0, [some (.ref 31), some (.int 0), some (.int (l1 + (1 : Int32))), none, none], [], Wd f fl g gl hh v tx) (fun rv w2 => WP X (d + 1) 37 (72, [some (.ref 31), some (.int l1), some (.int l2), none], rv.toList ++ [], w2) P)) :
    WP X (d + 1) 37 (64, [some (.ref 31), some (.int l1), some (.int l2), none], [], Wd f fl g gl hh v tx) P := by
  refine WP.run hP_37 5 (c' := (69, [some (.ref 31), some (.int l1), some (.int l2), none], [.int (l1 + (1 : Int32)), .int 0, .ref 31], Wd f fl g gl hh v tx)) rfl ?_
  refine WP.call hP_37 hP_36 (as := [.ref 31, .int 0, .int (l1 + (1 : Int32))]) (pc' := 72) (L' := [some (.ref 31), some (.int l1), some (.int l2), none]) (st' := []) (w1 := Wd f fl g gl hh v tx) rfl ⟨Nat.le_of_ble_eq_true rfl, Nat.le_of_ble_eq_true rfl⟩ rfl ?_
  exact h

set_option maxRecDepth 20000 in
theorem b_yre_plain_31_59 (X : mm_X) (d : Nat) (f : Nat → Int32) (fl : Nat → Int64) (g : Nat → Nat → Int32) (gl : Nat → Nat → Int64) (hh : Nat → Nat → Option Nat) (v : Nat → Value) (tx : mm_W) (l1 : Int32) (l2 : Int32) (s0 : Int32)  (P : Option Value → mm_W → Prop)
    (h : (s0 = 0 ∨ s0 = 1) ∧ P (some (.int s0)) (Wd f fl g gl hh v tx)) :
    WP X (d) 37 (59, [some (.ref 31), some (.int l1), some (.int l2), none], [.int s0], Wd f fl g gl hh v tx) P := by
  exact WP.retZ hP_37 rfl rfl h.1 h.2

set_option maxRecDepth 20000 in
theorem b_yre_plain_31_17 (X : mm_X) (d : Nat) (f : Nat → Int32) (fl : Nat → Int64) (g : Nat → Nat → Int32) (gl : Nat → Nat → Int64) (hh : Nat → Nat → Option Nat) (v : Nat → Value) (tx : mm_W) (l1 : Int32) (l2 : Int32) (l3 : Int32) (s0 : Int32)  (P : Option Value → mm_W → Prop)
    (h : ((¬ s0 = 0) → (((¬ (f 1990) = 40) → WP X (d) 38 (0, [some (.ref 31), some (.int 0), some (.int l1), none, none], [], Wd f fl g gl hh v tx) (fun rv w2 => WP X (d + 1) 37 (104, [some (.ref 31), some (.int l1), some (.int l2), none], rv.toList ++ [], w2) P)) ∧
      (((f 1990) = 40) → (((l1 < 8) → WP X (d) 42 (0, [some (.ref 31), none], [], Wd f fl g gl hh v tx) (fun rv w2 => WP X (d + 1) 37 (64, [some (.ref 31), some (.int l1), some (.int l2), none], rv.toList ++ [], w2) P)) ∧
        ((¬ (l1 < 8)) → WP X (d) 40 (0, [some (.ref 31)], [], Wd f fl g gl hh v tx) (fun rv w2 => WP X (d + 1) 37 (59, [some (.ref 31), some (.int l1), some (.int l2), none], rv.toList ++ [], w2) P)))))) ∧
    ((s0 = 0) → (((¬ l2 = 0) → WP X (d) 42 (0, [some (.ref 31), none], [], Wd f fl g gl hh v tx) (fun rv w2 => WP X (d + 1) 37 (34, [some (.ref 31), some (.int l1), some (.int 0), some (.int l3)], rv.toList ++ [], w2) P)) ∧
      ((l2 = 0) → WP X (d) 42 (0, [some (.ref 31), none], [], Wd f fl g gl hh v tx) (fun rv w2 => WP X (d + 1) 37 (34, [some (.ref 31), some (.int l1), some (.int 1), some (.int l3)], rv.toList ++ [], w2) P))))) :
    WP X (d + 1) 37 (17, [some (.ref 31), some (.int l1), some (.int l2), some (.int l3)], [.int s0], Wd f fl g gl hh v tx) P := by
  refine WP.br hP_37 (q := ¬ s0 = 0) (t := 40) (f := 20) (L := [some (.ref 31), some (.int l1), some (.int l2), some (.int l3)]) (st := []) (w := Wd f fl g gl hh v tx) rfl (fun c1 => ?_) (fun c1 => ?_)
  · have h2 := h.1 c1
    refine WP.run hP_37 3 (c' := (46, [some (.ref 31), some (.int l1), some (.int l2), none], [.int 40, .int (f 1990)], Wd f fl g gl hh v tx)) rfl ?_
    refine WP.br hP_37 (q := ¬ (f 1990) = 40) (t := 98) (f := 49) (L := [some (.ref 31), some (.int l1), some (.int l2), none]) (st := []) (w := Wd f fl g gl hh v tx) rfl (fun c3 => ?_) (fun c3 => ?_)
    · have h4 := h2.1 c3
      refine WP.run hP_37 3 (c' := (101, [some (.ref 31), some (.int l1), some (.int l2), none], [.int l1, .int 0, .ref 31], Wd f fl g gl hh v tx)) rfl ?_
      refine WP.call hP_37 hP_38 (as := [.ref 31, .int 0, .int l1]) (pc' := 104) (L' := [some (.ref 31), some (.int l1), some (.int l2), none]) (st' := []) (w1 := Wd f fl g gl hh v tx) rfl ⟨Nat.le_of_ble_eq_true rfl, Nat.le_of_ble_eq_true rfl⟩ rfl ?_
      exact h4
    · have h5 := h2.2 (Classical.not_not.mp c3)
      refine WP.run hP_37 2 (c' := (52, [some (.ref 31), some (.int l1), some (.int l2), none], [.int 8, .int l1], Wd f fl g gl hh v tx)) rfl ?_
      refine WP.br hP_37 (q := l1 < 8) (t := 60) (f := 55) (L := [some (.ref 31), some (.int l1), some (.int l2), none]) (st := []) (w := Wd f fl g gl hh v tx) rfl (fun c6 => ?_) (fun c6 => ?_)
      · have h7 := h5.1 c6
        refine WP.run hP_37 1 (c' := (61, [some (.ref 31), some (.int l1), some (.int l2), none], [.ref 31], Wd f fl g gl hh v tx)) rfl ?_
        refine WP.call hP_37 hP_42 (as := [.ref 31]) (pc' := 64) (L' := [some (.ref 31), some (.int l1), some (.int l2), none]) (st' := []) (w1 := Wd f fl g gl hh v tx) rfl ⟨Nat.le_of_ble_eq_true rfl, Nat.le_of_ble_eq_true rfl⟩ rfl ?_
        exact h7
      · have h8 := h5.2 c6
        refine WP.run hP_37 1 (c' := (56, [some (.ref 31), some (.int l1), some (.int l2), none], [.ref 31], Wd f fl g gl hh v tx)) rfl ?_
        refine WP.call hP_37 hP_40 (as := [.ref 31]) (pc' := 59) (L' := [some (.ref 31), some (.int l1), some (.int l2), none]) (st' := []) (w1 := Wd f fl g gl hh v tx) rfl ⟨Nat.le_of_ble_eq_true rfl, Nat.le_of_ble_eq_true rfl⟩ rfl ?_
        exact h8
  · have h9 := h.2 (Classical.not_not.mp c1)
    refine WP.run hP_37 1 (c' := (21, [some (.ref 31), some (.int l1), some (.int l2), some (.int l3)], [.int l2], Wd f fl g gl hh v tx)) rfl ?_
    refine WP.br hP_37 (q := ¬ l2 = 0) (t := 28) (f := 24) (L := [some (.ref 31), some (.int l1), some (.int l2), some (.int l3)]) (st := []) (w := Wd f fl g gl hh v tx) rfl (fun c10 => ?_) (fun c10 => ?_)
    · have h11 := h9.1 c10
      refine WP.run hP_37 1 (c' := (29, [some (.ref 31), some (.int l1), none, some (.int l3)], [.int 0], Wd f fl g gl hh v tx)) rfl ?_
      refine WP.run hP_37 2 (c' := (31, [some (.ref 31), some (.int l1), some (.int 0), some (.int l3)], [.ref 31], Wd f fl g gl hh v tx)) rfl ?_
      refine WP.call hP_37 hP_42 (as := [.ref 31]) (pc' := 34) (L' := [some (.ref 31), some (.int l1), some (.int 0), some (.int l3)]) (st' := []) (w1 := Wd f fl g gl hh v tx) rfl ⟨Nat.le_of_ble_eq_true rfl, Nat.le_of_ble_eq_true rfl⟩ rfl ?_
      exact h11
    · have h12 := h9.2 (Classical.not_not.mp c10)
      refine WP.run hP_37 4 (c' := (31, [some (.ref 31), some (.int l1), some (.int 1), some (.int l3)], [.ref 31], Wd f fl g gl hh v tx)) rfl ?_
      refine WP.call hP_37 hP_42 (as := [.ref 31]) (pc' := 34) (L' := [some (.ref 31), some (.int l1), some (.int 1), some (.int l3)]) (st' := []) (w1 := Wd f fl g gl hh v tx) rfl ⟨Nat.le_of_ble_eq_true rfl, Nat.le_of_ble_eq_true rfl⟩ rfl ?_
      exact h12

set_option maxRecDepth 20000 in
theorem b_yre_plain_31_141 (X : mm_X) (d : Nat) (f : Nat → Int32) (fl : Nat → Int64) (g : Nat → Nat → Int32) (gl : Nat → Nat → Int64) (hh : Nat → Nat → Option Nat) (v : Nat → Value) (tx : mm_W) (l1 : Int32) (l2 : Int32) (l3 : Int32)  (P : Option Value → mm_W → Prop)
    (h : WP X (d) 38 (0, [some (.ref 31), some (.int 0), some (.int l1), none, none], [], Wd f fl g gl hh v tx) (fun rv w2 => WP X (d + 1) 37 (147, [some (.ref 31), some (.int l1), some (.int l2), some (.int l3)], rv.toList ++ [], w2) P)) :
    WP X (d + 1) 37 (141, [some (.ref 31), some (.int l1), some (.int l2), some (.int l3)], [], Wd f fl g gl hh v tx) P := by
  refine WP.run hP_37 3 (c' := (144, [some (.ref 31), some (.int l1), some (.int l2), some (.int l3)], [.int l1, .int 0, .ref 31], Wd f fl g gl hh v tx)) rfl ?_
  refine WP.call hP_37 hP_38 (as := [.ref 31, .int 0, .int l1]) (pc' := 147) (L' := [some (.ref 31), some (.int l1), some (.int l2), some (.int l3)]) (st' := []) (w1 := Wd f fl g gl hh v tx) rfl ⟨Nat.le_of_ble_eq_true rfl, Nat.le_of_ble_eq_true rfl⟩ rfl ?_
  exact h

set_option maxRecDepth 20000 in
theorem b_yre_plain_31_136 (X : mm_X) (d : Nat) (f : Nat → Int32) (fl : Nat → Int64) (g : Nat → Nat → Int32) (gl : Nat → Nat → Int64) (hh : Nat → Nat → Option Nat) (v : Nat → Value) (tx : mm_W) (l1 : Int32) (l2 : Int32) (l3 : Int32) (s0 : Int32)  (P : Option Value → mm_W → Prop)
    (h : (s0 = 0 ∨ s0 = 1) ∧ P (some (.int s0)) (Wd f fl g gl hh v tx)) :
    WP X (d) 37 (136, [some (.ref 31), some (.int l1), some (.int l2), some (.int l3)], [.int s0], Wd f fl g gl hh v tx) P := by
  exact WP.retZ hP_37 rfl rfl h.1 h.2

set_option maxRecDepth 20000 in
theorem b_yre_plain_31_72 (X : mm_X) (d : Nat) (f : Nat → Int32) (fl : Nat → Int64) (g : Nat → Nat → Int32) (gl : Nat → Nat → Int64) (hh : Nat → Nat → Option Nat) (v : Nat → Value) (tx : mm_W) (l1 : Int32) (l2 : Int32) (s0 : Int32)  (P : Option Value → mm_W → Prop)
    (h : ((¬ s0 = 0) → ((((f 1990) = 41) → WP X (d) 42 (0, [some (.ref 31), none], [], Wd f fl g gl hh v tx) (fun rv w2 => WP X (d + 1) 37 (95, [some (.ref 31), none, some (.int l2), none], rv.toList ++ [], w2) P)) ∧
      ((¬ (f 1990) = 41) → WP X (d) 40 (0, [some (.ref 31)], [], Wd f fl g gl hh v tx) (fun rv w2 => WP X (d + 1) 37 (90, [some (.ref 31), none, some (.int l2), none], rv.toList ++ [], w2) P)))) ∧
    ((s0 = 0) → P (some (.int 0)) (Wd f fl g gl hh v tx))) :
    WP X (d + 1) 37 (72, [some (.ref 31), some (.int l1), some (.int l2), none], [.int s0], Wd f fl g gl hh v tx) P := by
  refine WP.br hP_37 (q := ¬ s0 = 0) (t := 77) (f := 75) (L := [some (.ref 31), some (.int l1), some (.int l2), none]) (st := []) (w := Wd f fl g gl hh v tx) rfl (fun c1 => ?_) (fun c1 => ?_)
  · have h2 := h.1 c1
    refine WP.run hP_37 3 (c' := (83, [some (.ref 31), none, some (.int l2), none], [.int 41, .int (f 1990)], Wd f fl g gl hh v tx)) rfl ?_
    refine WP.br hP_37 (q := (f 1990) = 41) (t := 91) (f := 86) (L := [some (.ref 31), none, some (.int l2), none]) (st := []) (w := Wd f fl g gl hh v tx) rfl (fun c3 => ?_) (fun c3 => ?_)
    · have h4 := h2.1 c3
      refine WP.run hP_37 1 (c' := (92, [some (.ref 31), none, some (.int l2), none], [.ref 31], Wd f fl g gl hh v tx)) rfl ?_
      refine WP.call hP_37 hP_42 (as := [.ref 31]) (pc' := 95) (L' := [some (.ref 31), none, some (.int l2), none]) (st' := []) (w1 := Wd f fl g gl hh v tx) rfl ⟨Nat.le_of_ble_eq_true rfl, Nat.le_of_ble_eq_true rfl⟩ rfl ?_
      exact h4
    · have h5 := h2.2 c3
      refine WP.run hP_37 1 (c' := (87, [some (.ref 31), none, some (.int l2), none], [.ref 31], Wd f fl g gl hh v tx)) rfl ?_
      refine WP.call hP_37 hP_40 (as := [.ref 31]) (pc' := 90) (L' := [some (.ref 31), none, some (.int l2), none]) (st' := []) (w1 := Wd f fl g gl hh v tx) rfl ⟨Nat.le_of_ble_eq_true rfl, Nat.le_of_ble_eq_true rfl⟩ rfl ?_
      exact h5
  · have h6 := h.2 (Classical.not_not.mp c1)
    refine WP.run hP_37 1 (c' := (76, [some (.ref 31), some (.int l1), some (.int l2), none], [.int 0], Wd f fl g gl hh v tx)) rfl ?_
    exact WP.ret hP_37 (r := some (.int 0)) (w' := Wd f fl g gl hh v tx) rfl h6

set_option maxRecDepth 20000 in
theorem b_yre_plain_31_34 (X : mm_X) (d : Nat) (f : Nat → Int32) (fl : Nat → Int64) (g : Nat → Nat → Int32) (gl : Nat → Nat → Int64) (hh : Nat → Nat → Option Nat) (v : Nat → Value) (tx : mm_W) (l1 : Int32) (l2 : Int32) (l3 : Int32)  (P : Option Value → mm_W → Prop)
    (h : WP X (d) 37 (4, [some (.ref 31), some (.int l1), some (.int l2), some (.int (l3 + (1 : Int32)))], [], Wd f fl g gl hh v tx) P) :
    WP X (d) 37 (34, [some (.ref 31), some (.int l1), some (.int l2), some (.int l3)], [], Wd f fl g gl hh v tx) P := by
  refine WP.run hP_37 2 (c' := (4, [some (.ref 31), some (.int l1), some (.int l2), some (.int (l3 + (1 : Int32)))], [], Wd f fl g gl hh v tx)) rfl ?_
  exact h

set_option maxRecDepth 20000 in
theorem b_yre_plain_31_147 (X : mm_X) (d : Nat) (f : Nat → Int32) (fl : Nat → Int64) (g : Nat → Nat → Int32) (gl : Nat → Nat → Int64) (hh : Nat → Nat → Option Nat) (v : Nat → Value) (tx : mm_W) (l1 : Int32) (l2 : Int32) (l3 : Int32) (s0 : Int32)  (P : Option Value → mm_W → Prop)
    (h : ((¬ s0 = 0) → (((¬ l3 = 60) → (((¬ l3 = 62) → WP X (d) 41 (0, [some (.ref 31), some (.int 9), some (.int 0)], [], Wd f fl g gl hh v tx) (fun rv w2 => WP X (d + 1) 37 (181, [some (.ref 31), none, some (.int l2), none], rv.toList ++ [], w2) P)) ∧
        ((l3 = 62) → WP X (d) 41 (0, [some (.ref 31), some (.int 8), some (.int 0)], [], Wd f fl g gl hh v tx) (fun rv w2 => WP X (d + 1) 37 (181, [some (.ref 31), none, some (.int l2), none], rv.toList ++ [], w2) P)))) ∧
      ((l3 = 60) → WP X (d) 41 (0, [some (.ref 31), some (.int 7), some (.int 0)], [], Wd f fl g gl hh v tx) (fun rv w2 => WP X (d + 1) 37 (181, [some (.ref 31), none, some (.int l2), none], rv.toList ++ [], w2) P)))) ∧
    ((s0 = 0) → P (some (.int 0)) (Wd f fl g gl hh v tx))) :
    WP X (d + 1) 37 (147, [some (.ref 31), some (.int l1), some (.int l2), some (.int l3)], [.int s0], Wd f fl g gl hh v tx) P := by
  refine WP.br hP_37 (q := ¬ s0 = 0) (t := 152) (f := 150) (L := [some (.ref 31), some (.int l1), some (.int l2), some (.int l3)]) (st := []) (w := Wd f fl g gl hh v tx) rfl (fun c1 => ?_) (fun c1 => ?_)
  · have h2 := h.1 c1
    refine WP.run hP_37 3 (c' := (156, [some (.ref 31), none, some (.int l2), some (.int l3)], [.int 60, .int l3, .ref 31], Wd f fl g gl hh v tx)) rfl ?_
    refine WP.br hP_37 (q := ¬ l3 = 60) (t := 164) (f := 159) (L := [some (.ref 31), none, some (.int l2), some (.int l3)]) (st := [.ref 31]) (w := Wd f fl g gl hh v tx) rfl (fun c3 => ?_) (fun c3 => ?_)
    · have h4 := h2.1 c3
      refine WP.run hP_37 2 (c' := (167, [some (.ref 31), none, some (.int l2), some (.int l3)], [.int 62, .int l3, .ref 31], Wd f fl g gl hh v tx)) rfl ?_
      refine WP.br hP_37 (q := ¬ l3 = 62) (t := 175) (f := 170) (L := [some (.ref 31), none, some (.int l2), some (.int l3)]) (st := [.ref 31]) (w := Wd f fl g gl hh v tx) rfl (fun c5 => ?_) (fun c5 => ?_)
      · have h6 := h4.1 c5
        refine WP.run hP_37 1 (c' := (177, [some (.ref 31), none, some (.int l2), none], [.int 9, .ref 31], Wd f fl g gl hh v tx)) rfl ?_
        refine WP.run hP_37 1 (c' := (178, [some (.ref 31), none, some (.int l2), none], [.int 0, .int 9, .ref 31], Wd f fl g gl hh v tx)) rfl ?_
        refine WP.call hP_37 hP_41 (as := [.ref 31, .int 9, .int 0]) (pc' := 181) (L' := [some (.ref 31), none, some (.int l2), none]) (st' := []) (w1 := Wd f fl g gl hh v tx) rfl ⟨Nat.le_of_ble_eq_true rfl, Nat.le_of_ble_eq_true rfl⟩ rfl ?_
        exact h6
      · have h7 := h4.2 (Classical.not_not.mp c5)
        refine WP.run hP_37 3 (c' := (178, [some (.ref 31), none, some (.int l2), none], [.int 0, .int 8, .ref 31], Wd f fl g gl hh v tx)) rfl ?_
        refine WP.call hP_37 hP_41 (as := [.ref 31, .int 8, .int 0]) (pc' := 181) (L' := [some (.ref 31), none, some (.int l2), none]) (st' := []) (w1 := Wd f fl g gl hh v tx) rfl ⟨Nat.le_of_ble_eq_true rfl, Nat.le_of_ble_eq_true rfl⟩ rfl ?_
        exact h7
    · have h8 := h2.2 (Classical.not_not.mp c3)
      refine WP.run hP_37 3 (c' := (178, [some (.ref 31), none, some (.int l2), none], [.int 0, .int 7, .ref 31], Wd f fl g gl hh v tx)) rfl ?_
      refine WP.call hP_37 hP_41 (as := [.ref 31, .int 7, .int 0]) (pc' := 181) (L' := [some (.ref 31), none, some (.int l2), none]) (st' := []) (w1 := Wd f fl g gl hh v tx) rfl ⟨Nat.le_of_ble_eq_true rfl, Nat.le_of_ble_eq_true rfl⟩ rfl ?_
      exact h8
  · have h9 := h.2 (Classical.not_not.mp c1)
    refine WP.run hP_37 1 (c' := (151, [some (.ref 31), some (.int l1), some (.int l2), some (.int l3)], [.int 0], Wd f fl g gl hh v tx)) rfl ?_
    exact WP.ret hP_37 (r := some (.int 0)) (w' := Wd f fl g gl hh v tx) rfl h9

set_option maxRecDepth 20000 in
theorem b_yre_plain_31_95 (X : mm_X) (d : Nat) (f : Nat → Int32) (fl : Nat → Int64) (g : Nat → Nat → Int32) (gl : Nat → Nat → Int64) (hh : Nat → Nat → Option Nat) (v : Nat → Value) (tx : mm_W) (l2 : Int32)  (P : Option Value → mm_W → Prop)
    (h : ((l2 = 0) → P (some (.int 1)) (Wd f fl g gl hh v tx)) ∧
    ((¬ l2 = 0) → WP X (d) 41 (0, [some (.ref 31), some (.int 10), some (.int 0)], [], Wd f fl g gl hh v tx) (fun rv w2 => WP X (d + 1) 37 (192, [none, none, none, none], rv.toList ++ [], w2) P))) :
    WP X (d + 1) 37 (95, [some (.ref 31), none, some (.int l2), none], [], Wd f fl g gl hh v tx) P := by
  refine WP.run hP_37 2 (c' := (182, [some (.ref 31), none, some (.int l2), none], [.int l2], Wd f fl g gl hh v tx)) rfl ?_
  refine WP.br hP_37 (q := l2 = 0) (t := 192) (f := 185) (L := [some (.ref 31), none, some (.int l2), none]) (st := []) (w := Wd f fl g gl hh v tx) rfl (fun c1 => ?_) (fun c1 => ?_)
  · have h2 := h.1 c1
    refine WP.run hP_37 1 (c' := (193, [none, none, none, none], [.int 1], Wd f fl g gl hh v tx)) rfl ?_
    exact WP.ret hP_37 (r := some (.int 1)) (w' := Wd f fl g gl hh v tx) rfl h2
  · have h3 := h.2 c1
    refine WP.run hP_37 3 (c' := (189, [some (.ref 31), none, some (.int l2), none], [.int 0, .int 10, .ref 31], Wd f fl g gl hh v tx)) rfl ?_
    refine WP.call hP_37 hP_41 (as := [.ref 31, .int 10, .int 0]) (pc' := 192) (L' := [some (.ref 31), none, some (.int l2), none]) (st' := []) (w1 := Wd f fl g gl hh v tx) rfl ⟨Nat.le_of_ble_eq_true rfl, Nat.le_of_ble_eq_true rfl⟩ rfl ?_
    refine WP.mono h3 (fun _ _ hq => ?_)
    exact WP.clr hP_37 (pc := 192) rfl hq

set_option maxRecDepth 20000 in
theorem b_yre_plain_31_90 (X : mm_X) (d : Nat) (f : Nat → Int32) (fl : Nat → Int64) (g : Nat → Nat → Int32) (gl : Nat → Nat → Int64) (hh : Nat → Nat → Option Nat) (v : Nat → Value) (tx : mm_W) (l2 : Int32) (s0 : Int32)  (P : Option Value → mm_W → Prop)
    (h : (s0 = 0 ∨ s0 = 1) ∧ P (some (.int s0)) (Wd f fl g gl hh v tx)) :
    WP X (d) 37 (90, [some (.ref 31), none, some (.int l2), none], [.int s0], Wd f fl g gl hh v tx) P := by
  exact WP.retZ hP_37 rfl rfl h.1 h.2

set_option maxRecDepth 20000 in
theorem b_yre_plain_31_181 (X : mm_X) (d : Nat) (f : Nat → Int32) (fl : Nat → Int64) (g : Nat → Nat → Int32) (gl : Nat → Nat → Int64) (hh : Nat → Nat → Option Nat) (v : Nat → Value) (tx : mm_W) (l2 : Int32)  (P : Option Value → mm_W → Prop)
    (h : ((l2 = 0) → P (some (.int 1)) (Wd f fl g gl hh v tx)) ∧
    ((¬ l2 = 0) → WP X (d) 41 (0, [some (.ref 31), some (.int 10), some (.int 0)], [], Wd f fl g gl hh v tx) (fun rv w2 => WP X (d + 1) 37 (192, [none, none, none, none], rv.toList ++ [], w2) P))) :
    WP X (d + 1) 37 (181, [some (.ref 31), none, some (.int l2), none], [], Wd f fl g gl hh v tx) P := by
  refine WP.run hP_37 1 (c' := (182, [some (.ref 31), none, some (.int l2), none], [.int l2], Wd f fl g gl hh v tx)) rfl ?_
  refine WP.br hP_37 (q := l2 = 0) (t := 192) (f := 185) (L := [some (.ref 31), none, some (.int l2), none]) (st := []) (w := Wd f fl g gl hh v tx) rfl (fun c1 => ?_) (fun c1 => ?_)
  · have h2 := h.1 c1
    refine WP.run hP_37 1 (c' := (193, [none, none, none, none], [.int 1], Wd f fl g gl hh v tx)) rfl ?_
    exact WP.ret hP_37 (r := some (.int 1)) (w' := Wd f fl g gl hh v tx) rfl h2
  · have h3 := h.2 c1
    refine WP.run hP_37 3 (c' := (189, [some (.ref 31), none, some (.int l2), none], [.int 0, .int 10, .ref 31], Wd f fl g gl hh v tx)) rfl ?_
    refine WP.call hP_37 hP_41 (as := [.ref 31, .int 10, .int 0]) (pc' := 192) (L' := [some (.ref 31), none, some (.int l2), none]) (st' := []) (w1 := Wd f fl g gl hh v tx) rfl ⟨Nat.le_of_ble_eq_true rfl, Nat.le_of_ble_eq_true rfl⟩ rfl ?_
    refine WP.mono h3 (fun _ _ hq => ?_)
    exact WP.clr hP_37 (pc := 192) rfl hq

set_option maxRecDepth 20000 in
theorem b_yre_plain_31_192 (X : mm_X) (d : Nat) (f : Nat → Int32) (fl : Nat → Int64) (g : Nat → Nat → Int32) (gl : Nat → Nat → Int64) (hh : Nat → Nat → Option Nat) (v : Nat → Value) (tx : mm_W)   (P : Option Value → mm_W → Prop)
    (h : P (some (.int 1)) (Wd f fl g gl hh v tx)) :
    WP X (d) 37 (192, [none, none, none, none], [], Wd f fl g gl hh v tx) P := by
  refine WP.run hP_37 1 (c' := (193, [none, none, none, none], [.int 1], Wd f fl g gl hh v tx)) rfl ?_
  exact WP.ret hP_37 (r := some (.int 1)) (w' := Wd f fl g gl hh v tx) rfl h

set_option maxRecDepth 20000 in
theorem b_yre_test_31_0 (X : mm_X) (d : Nat) (f : Nat → Int32) (fl : Nat → Int64) (g : Nat → Nat → Int32) (gl : Nat → Nat → Int64) (hh : Nat → Nat → Option Nat) (v : Nat → Value) (tx : mm_W) (p0 : Int32) (p1 : Int32)  (P : Option Value → mm_W → Prop)
    (h : ((p0 = 0) → WP X (d) 36 (0, [some (.ref 31), some (.int 1), some (.int p1), none, none], [], Wd f fl g gl hh v tx) (fun rv w2 => WP X (d + 1) 36 (21, [some (.ref 31), some (.int p0), some (.int p1), none, none], rv.toList ++ [], w2) P)) ∧
    ((¬ p0 = 0) → WP X (d) 37 (0, [some (.ref 31), some (.int p1), none, none], [], Wd f fl g gl hh v tx) (fun rv w2 => WP X (d + 1) 36 (9, [some (.ref 31), some (.int p0), some (.int p1), none, none], rv.toList ++ [], w2) P))) :
    WP X (d + 1) 36 (0, [some (.ref 31), some (.int p0), some (.int p1), none, none], [], Wd f fl g gl hh v tx) P := by
  refine WP.run hP_36 1 (c' := (1, [some (.ref 31), some (.int p0), some (.int p1), none, none], [.int p0], Wd f fl g gl hh v tx)) rfl ?_
  refine WP.br hP_36 (q := p0 = 0) (t := 15) (f := 4) (L := [some (.ref 31), some (.int p0), some (.int p1), none, none]) (st := []) (w := Wd f fl g gl hh v tx) rfl (fun c1 => ?_) (fun c1 => ?_)
  · have h2 := h.1 c1
    refine WP.run hP_36 3 (c' := (18, [some (.ref 31), some (.int p0), some (.int p1), none, none], [.int p1, .int 1, .ref 31], Wd f fl g gl hh v tx)) rfl ?_
    refine WP.call hP_36 hP_36 (as := [.ref 31, .int 1, .int p1]) (pc' := 21) (L' := [some (.ref 31), some (.int p0), some (.int p1), none, none]) (st' := []) (w1 := Wd f fl g gl hh v tx) rfl ⟨Nat.le_of_ble_eq_true rfl, Nat.le_of_ble_eq_true rfl⟩ rfl ?_
    exact h2
  · have h3 := h.2 c1
    refine WP.run hP_36 2 (c' := (6, [some (.ref 31), some (.int p0), some (.int p1), none, none], [.int p1, .ref 31], Wd f fl g gl hh v tx)) rfl ?_
    refine WP.call hP_36 hP_37 (as := [.ref 31, .int p1]) (pc' := 9) (L' := [some (.ref 31), some (.int p0), some (.int p1), none, none]) (st' := []) (w1 := Wd f fl g gl hh v tx) rfl ⟨Nat.le_of_ble_eq_true rfl, Nat.le_of_ble_eq_true rfl⟩ rfl ?_
    exact h3

set_option maxRecDepth 20000 in
theorem b_yre_test_31_21 (X : mm_X) (d : Nat) (f : Nat → Int32) (fl : Nat → Int64) (g : Nat → Nat → Int32) (gl : Nat → Nat → Int64) (hh : Nat → Nat → Option Nat) (v : Nat → Value) (tx : mm_W) (l1 : Int32) (l2 : Int32) (s0 : Int32)  (P : Option Value → mm_W → Prop)
    (h : ((¬ s0 = 0) → WP X (d) 36 (28, [some (.ref 31), some (.int l1), some (.int l2), some (.int 0), none], [], Wd f fl g gl hh v tx) P) ∧
    ((s0 = 0) → P (some (.int 0)) (Wd f fl g gl hh v tx))) :
    WP X (d) 36 (21, [some (.ref 31), some (.int l1), some (.int l2), none, none], [.int s0], Wd f fl g gl hh v tx) P := by
  refine WP.br hP_36 (q := ¬ s0 = 0) (t := 26) (f := 24) (L := [some (.ref 31), some (.int l1), some (.int l2), none, none]) (st := []) (w := Wd f fl g gl hh v tx) rfl (fun c1 => ?_) (fun c1 => ?_)
  · have h2 := h.1 c1
    refine WP.run hP_36 1 (c' := (27, [some (.ref 31), some (.int l1), some (.int l2), none, none], [.int 0], Wd f fl g gl hh v tx)) rfl ?_
    refine WP.run hP_36 1 (c' := (28, [some (.ref 31), some (.int l1), some (.int l2), some (.int 0), none], [], Wd f fl g gl hh v tx)) rfl ?_
    exact h2
  · have h3 := h.2 (Classical.not_not.mp c1)
    refine WP.run hP_36 1 (c' := (25, [none, none, none, none, none], [.int 0], Wd f fl g gl hh v tx)) rfl ?_
    exact WP.ret hP_36 (r := some (.int 0)) (w' := Wd f fl g gl hh v tx) rfl h3

set_option maxRecDepth 20000 in
theorem b_yre_test_31_9 (X : mm_X) (d : Nat) (f : Nat → Int32) (fl : Nat → Int64) (g : Nat → Nat → Int32) (gl : Nat → Nat → Int64) (hh : Nat → Nat → Option Nat) (v : Nat → Value) (tx : mm_W) (l1 : Int32) (l2 : Int32) (s0 : Int32)  (P : Option Value → mm_W → Prop)
    (h : ((s0 = 0) → P (some (.int 0)) (Wd f fl g gl hh v tx)) ∧
    ((¬ s0 = 0) → WP X (d) 36 (28, [some (.ref 31), some (.int l1), some (.int l2), some (.int 0), none], [], Wd f fl g gl hh v tx) P)) :
    WP X (d) 36 (9, [some (.ref 31), some (.int l1), some (.int l2), none, none], [.int s0], Wd f fl g gl hh v tx) P := by
  refine WP.br hP_36 (q := s0 = 0) (t := 24) (f := 12) (L := [some (.ref 31), some (.int l1), some (.int l2), none, none]) (st := []) (w := Wd f fl g gl hh v tx) rfl (fun c1 => ?_) (fun c1 => ?_)
  · have h2 := h.1 c1
    refine WP.run hP_36 1 (c' := (25, [none, none, none, none, none], [.int 0], Wd f fl g gl hh v tx)) rfl ?_
    exact WP.ret hP_36 (r := some (.int 0)) (w' := Wd f fl g gl hh v tx) rfl h2
  · have h3 := h.2 c1
    refine WP.run hP_36 2 (c' := (27, [some (.ref 31), some (.int l1), some (.int l2), none, none], [.int 0], Wd f fl g gl hh v tx)) rfl ?_
    refine WP.run hP_36 1 (c' := (28, [some (.ref 31), some (.int l1), some (.int l2), some (.int 0), none], [], Wd f fl g gl hh v tx)) rfl ?_
    exact h3

set_option maxRecDepth 20000 in
theorem b_yre_test_31_28 (X : mm_X) (d : Nat) (f : Nat → Int32) (fl : Nat → Int64) (g : Nat → Nat → Int32) (gl : Nat → Nat → Int64) (hh : Nat → Nat → Option Nat) (v : Nat → Value) (tx : mm_W) (l1 : Int32) (l2 : Int32) (l3 : Int32)  (P : Option Value → mm_W → Prop)
    (h : ((400 ≤ l3) → P (some (.int 1)) (Wd f fl g gl hh v tx)) ∧
    ((¬ (400 ≤ l3)) → (((l1 = 0) → WP X (d) 43 (0, [some (.ref 31), some (.float 24), none, none, none, none, none], [], Wd f fl g gl hh v tx) (fun rv w2 => WP X (d + 1) 36 (50, [some (.ref 31), some (.int l1), some (.int l2), some (.int l3), none], rv.toList ++ [], w2) P)) ∧
      ((¬ l1 = 0) → WP X (d) 43 (0, [some (.ref 31), some (.float 23), none, none, none, none, none], [], Wd f fl g gl hh v tx) (fun rv w2 => WP X (d + 1) 36 (50, [some (.ref 31), some (.int l1), some (.int l2), some (.int l3), none], rv.toList ++ [], w2) P))))) :
    WP X (d + 1) 36 (28, [some (.ref 31), some (.int l1), some (.int l2), some (.int l3), none], [], Wd f fl g gl hh v tx) P := by
  refine WP.run hP_36 2 (c' := (32, [some (.ref 31), some (.int l1), some (.int l2), some (.int l3), none], [.int 400, .int l3], Wd f fl g gl hh v tx)) rfl ?_
  refine WP.br hP_36 (q := 400 ≤ l3) (t := 146) (f := 35) (L := [some (.ref 31), some (.int l1), some (.int l2), some (.int l3), none]) (st := []) (w := Wd f fl g gl hh v tx) rfl (fun c1 => ?_) (fun c1 => ?_)
  · have h2 := h.1 c1
    refine WP.run hP_36 1 (c' := (147, [none, none, none, none, none], [.int 1], Wd f fl g gl hh v tx)) rfl ?_
    exact WP.ret hP_36 (r := some (.int 1)) (w' := Wd f fl g gl hh v tx) rfl h2
  · have h3 := h.2 c1
    refine WP.run hP_36 2 (c' := (37, [some (.ref 31), some (.int l1), some (.int l2), some (.int l3), none], [.int l1, .ref 31], Wd f fl g gl hh v tx)) rfl ?_
    refine WP.br hP_36 (q := l1 = 0) (t := 45) (f := 40) (L := [some (.ref 31), some (.int l1), some (.int l2), some (.int l3), none]) (st := [.ref 31]) (w := Wd f fl g gl hh v tx) rfl (fun c4 => ?_) (fun c4 => ?_)
    · have h5 := h3.1 c4
      refine WP.run hP_36 1 (c' := (47, [some (.ref 31), some (.int l1), some (.int l2), some (.int l3), none], [.float 24, .ref 31], Wd f fl g gl hh v tx)) rfl ?_
      refine WP.call hP_36 hP_43 (as := [.ref 31, .float 24]) (pc' := 50) (L' := [some (.ref 31), some (.int l1), some (.int l2), some (.int l3), none]) (st' := []) (w1 := Wd f fl g gl hh v tx) rfl ⟨Nat.le_of_ble_eq_true rfl, Nat.le_of_ble_eq_true rfl⟩ rfl ?_
      exact h5
    · have h6 := h3.2 c4
      refine WP.run hP_36 2 (c' := (47, [some (.ref 31), some (.int l1), some (.int l2), some (.int l3), none], [.float 23, .ref 31], Wd f fl g gl hh v tx)) rfl ?_
      refine WP.call hP_36 hP_43 (as := [.ref 31, .float 23]) (pc' := 50) (L' := [some (.ref 31), some (.int l1), some (.int l2), some (.int l3), none]) (st' := []) (w1 := Wd f fl g gl hh v tx) rfl ⟨Nat.le_of_ble_eq_true rfl, Nat.le_of_ble_eq_true rfl⟩ rfl ?_
      exact h6

set_option maxRecDepth 20000 in
theorem b_yre_test_31_50 (X : mm_X) (d : Nat) (f : Nat → Int32) (fl : Nat → Int64) (g : Nat → Nat → Int32) (gl : Nat → Nat → Int64) (hh : Nat → Nat → Option Nat) (v : Nat → Value) (tx : mm_W) (l1 : Int32) (l2 : Int32) (l3 : Int32) (s0 : Int32)  (P : Option Value → mm_W → Prop)
    (h : ((¬ s0 = 0) → P (some (.int 1)) (Wd f fl g gl hh v tx)) ∧
    ((s0 = 0) → WP X (d) 42 (0, [some (.ref 31), none], [], Wd f fl g gl hh v tx) (fun rv w2 => WP X (d + 1) 36 (57, [some (.ref 31), some (.int l1), some (.int l2), some (.int l3), none], rv.toList ++ [], w2) P))) :
    WP X (d + 1) 36 (50, [some (.ref 31), some (.int l1), some (.int l2), some (.int l3), none], [.int s0], Wd f fl g gl hh v tx) P := by
  refine WP.br hP_36 (q := ¬ s0 = 0) (t := 146) (f := 53) (L := [some (.ref 31), some (.int l1), some (.int l2), some (.int l3), none]) (st := []) (w := Wd f fl g gl hh v tx) rfl (fun c1 => ?_) (fun c1 => ?_)
  · have h2 := h.1 c1
    refine WP.run hP_36 1 (c' := (147, [none, none, none, none, none], [.int 1], Wd f fl g gl hh v tx)) rfl ?_
    exact WP.ret hP_36 (r := some (.int 1)) (w' := Wd f fl g gl hh v tx) rfl h2
  · have h3 := h.2 (Classical.not_not.mp c1)
    refine WP.run hP_36 1 (c' := (54, [some (.ref 31), some (.int l1), some (.int l2), some (.int l3), none], [.ref 31], Wd f fl g gl hh v tx)) rfl ?_
    refine WP.call hP_36 hP_42 (as := [.ref 31]) (pc' := 57) (L' := [some (.ref 31), some (.int l1), some (.int l2), some (.int l3), none]) (st' := []) (w1 := Wd f fl g gl hh v tx) rfl ⟨Nat.le_of_ble_eq_true rfl, Nat.le_of_ble_eq_true rfl⟩ rfl ?_
    exact h3

set_option maxRecDepth 20000 in
theorem b_yre_test_31_57 (X : mm_X) (d : Nat) (f : Nat → Int32) (fl : Nat → Int64) (g : Nat → Nat → Int32) (gl : Nat → Nat → Int64) (hh : Nat → Nat → Option Nat) (v : Nat → Value) (tx : mm_W) (l1 : Int32) (l2 : Int32) (l3 : Int32)  (P : Option Value → mm_W → Prop)
    (h : ((l1 = 0) → WP X (d) 41 (0, [some (.ref 31), some (.int 11), some (.int 0)], [], Wd f fl g gl hh v tx) (fun rv w2 => WP X (d + 1) 36 (82, [some (.ref 31), some (.int l1), some (.int l2), some (.int l3), some (.int (f 2049))], rv.toList ++ [], w2) P)) ∧
    ((¬ l1 = 0) → WP X (d) 41 (0, [some (.ref 31), some (.int 12), some (.int 0)], [], Wd f fl g gl hh v tx) (fun rv w2 => WP X (d + 1) 36 (82, [some (.ref 31), some (.int l1), some (.int l2), some (.int l3), some (.int (f 2049))], rv.toList ++ [], w2) P))) :
    WP X (d + 1) 36 (57, [some (.ref 31), some (.int l1), some (.int l2), some (.int l3), none], [], Wd f fl g gl hh v tx) P := by
  refine WP.run hP_36 6 (c' := (68, [some (.ref 31), some (.int l1), some (.int l2), some (.int l3), some (.int (f 2049))], [.int l1, .ref 31], Wd f fl g gl hh v tx)) rfl ?_
  refine WP.br hP_36 (q := l1 = 0) (t := 76) (f := 71) (L := [some (.ref 31), some (.int l1), some (.int l2), some (.int l3), some (.int (f 2049))]) (st := [.ref 31]) (w := Wd f fl g gl hh v tx) rfl (fun c1 => ?_) (fun c1 => ?_)
  · have h2 := h.1 c1
    refine WP.run hP_36 2 (c' := (79, [some (.ref 31), some (.int l1), some (.int l2), some (.int l3), some (.int (f 2049))], [.int 0, .int 11, .ref 31], Wd f fl g gl hh v tx)) rfl ?_
    refine WP.call hP_36 hP_41 (as := [.ref 31, .int 11, .int 0]) (pc' := 82) (L' := [some (.ref 31), some (.int l1), some (.int l2), some (.int l3), some (.int (f 2049))]) (st' := []) (w1 := Wd f fl g gl hh v tx) rfl ⟨Nat.le_of_ble_eq_true rfl, Nat.le_of_ble_eq_true rfl⟩ rfl ?_
    exact h2
  · have h3 := h.2 c1
    refine WP.run hP_36 3 (c' := (79, [some (.ref 31), some (.int l1), some (.int l2), some (.int l3), some (.int (f 2049))], [.int 0, .int 12, .ref 31], Wd f fl g gl hh v tx)) rfl ?_
    refine WP.call hP_36 hP_41 (as := [.ref 31, .int 12, .int 0]) (pc' := 82) (L' := [some (.ref 31), some (.int l1), some (.int l2), some (.int l3), some (.int (f 2049))]) (st' := []) (w1 := Wd f fl g gl hh v tx) rfl ⟨Nat.le_of_ble_eq_true rfl, Nat.le_of_ble_eq_true rfl⟩ rfl ?_
    exact h3

set_option maxRecDepth 20000 in
theorem b_yre_test_31_82 (X : mm_X) (d : Nat) (f : Nat → Int32) (fl : Nat → Int64) (g : Nat → Nat → Int32) (gl : Nat → Nat → Int64) (hh : Nat → Nat → Option Nat) (v : Nat → Value) (tx : mm_W) (l1 : Int32) (l2 : Int32) (l3 : Int32) (l4 : Int32)  (P : Option Value → mm_W → Prop)
    (h : ((l1 = 0) → WP X (d) 36 (0, [some (.ref 31), some (.int 1), some (.int l2), none, none], [], Wd f fl g gl hh v tx) (fun rv w2 => WP X (d + 1) 36 (103, [some (.ref 31), some (.int l1), some (.int l2), some (.int l3), some (.int l4)], rv.toList ++ [], w2) P)) ∧
    ((¬ l1 = 0) → WP X (d) 37 (0, [some (.ref 31), some (.int l2), none, none], [], Wd f fl g gl hh v tx) (fun rv w2 => WP X (d + 1) 36 (91, [some (.ref 31), some (.int l1), some (.int l2), some (.int l3), some (.int l4)], rv.toList ++ [], w2) P))) :
    WP X (d + 1) 36 (82, [some (.ref 31), some (.int l1), some (.int l2), some (.int l3), some (.int l4)], [], Wd f fl g gl hh v tx) P := by
  refine WP.run hP_36 1 (c' := (83, [some (.ref 31), some (.int l1), some (.int l2), some (.int l3), some (.int l4)], [.int l1], Wd f fl g gl hh v tx)) rfl ?_
  refine WP.br hP_36 (q := l1 = 0) (t := 97) (f := 86) (L := [some (.ref 31), some (.int l1), some (.int l2), some (.int l3), some (.int l4)]) (st := []) (w := Wd f fl g gl hh v tx) rfl (fun c1 => ?_) (fun c1 => ?_)
  · have h2 := h.1 c1
    refine WP.run hP_36 3 (c' := (100, [some (.ref 31), some (.int l1), some (.int l2), some (.int l3), some (.int l4)], [.int l2, .int 1, .ref 31], Wd f fl g gl hh v tx)) rfl ?_
    refine WP.call hP_36 hP_36 (as := [.ref 31, .int 1, .int l2]) (pc' := 103) (L' := [some (.ref 31), some (.int l1), some (.int l2), some (.int l3), some (.int l4)]) (st' := []) (w1 := Wd f fl g gl hh v tx) rfl ⟨Nat.le_of_ble_eq_true rfl, Nat.le_of_ble_eq_true rfl⟩ rfl ?_
    exact h2
  · have h3 := h.2 c1
    refine WP.run hP_36 2 (c' := (88, [some (.ref 31), some (.int l1), some (.int l2), some (.int l3), some (.int l4)], [.int l2, .ref 31], Wd f fl g gl hh v tx)) rfl ?_
    refine WP.call hP_36 hP_37 (as := [.ref 31, .int l2]) (pc' := 91) (L' := [some (.ref 31), some (.int l1), some (.int l2), some (.int l3), some (.int l4)]) (st' := []) (w1 := Wd f fl g gl hh v tx) rfl ⟨Nat.le_of_ble_eq_true rfl, Nat.le_of_ble_eq_true rfl⟩ rfl ?_
    exact h3

set_option maxRecDepth 20000 in
theorem b_yre_test_31_103 (X : mm_X) (d : Nat) (f : Nat → Int32) (fl : Nat → Int64) (g : Nat → Nat → Int32) (gl : Nat → Nat → Int64) (hh : Nat → Nat → Option Nat) (v : Nat → Value) (tx : mm_W) (l1 : Int32) (l2 : Int32) (l3 : Int32) (l4 : Int32) (s0 : Int32)  (P : Option Value → mm_W → Prop)
    (h : ((¬ s0 = 0) → ((((f 2049) ≤ l4) → WP X (d) 36 (28, [some (.ref 31), some (.int l1), some (.int l2), some (.int (l3 + (1 : Int32))), none], [], Wd f fl g gl hh v tx) P) ∧
      ((¬ ((f 2049) ≤ l4)) → ((¬ (l4 < 0 ∨ 400 ≤ l4.toNatClampNeg)) ∧ ((¬ (l4 < 0 ∨ 400 ≤ l4.toNatClampNeg)) ∧ WP X (d) 36 (28, [some (.ref 31), some (.int l1), some (.int l2), some (.int (l3 + (1 : Int32))), none], [], Wd f fl (va_up g 34 (upd (g 34) (l4.toNatClampNeg) (((g 34) l4.toNatClampNeg) + (f 2049)))) gl hh v tx) P))))) ∧
    ((s0 = 0) → P (some (.int 0)) (Wd f fl g gl hh v tx))) :
    WP X (d) 36 (103, [some (.ref 31), some (.int l1), some (.int l2), some (.int l3), some (.int l4)], [.int s0], Wd f fl g gl hh v tx) P := by
  refine WP.br hP_36 (q := ¬ s0 = 0) (t := 108) (f := 106) (L := [some (.ref 31), some (.int l1), some (.int l2), some (.int l3), some (.int l4)]) (st := []) (w := Wd f fl g gl hh v tx) rfl (fun c1 => ?_) (fun c1 => ?_)
  · have h2 := h.1 c1
    refine WP.run hP_36 4 (c' := (117, [some (.ref 31), some (.int l1), some (.int l2), some (.int l3), some (.int l4)], [.int (f 2049), .int l4], Wd f fl g gl hh v tx)) rfl ?_
    refine WP.br hP_36 (q := (f 2049) ≤ l4) (t := 140) (f := 120) (L := [some (.ref 31), some (.int l1), some (.int l2), some (.int l3), some (.int l4)]) (st := []) (w := Wd f fl g gl hh v tx) rfl (fun c3 => ?_) (fun c3 => ?_)
    · have h4 := h2.1 c3
      refine WP.run hP_36 2 (c' := (28, [some (.ref 31), some (.int l1), some (.int l2), some (.int (l3 + (1 : Int32))), none], [], Wd f fl g gl hh v tx)) rfl ?_
      exact h4
    · have h5 := h2.2 c3
      refine WP.run hP_36 5 (c' := (130, [some (.ref 31), some (.int l1), some (.int l2), some (.int l3), some (.int l4)], [.int l4, .ref 34, .int l4, .ref 34], Wd f fl g gl hh v tx)) rfl ?_
      refine WP.of (fun _ _ => Ex.iald hP_36 rfl (Wa_34 _ _ _ _ _ _ _) h5.1) ?_
      have h6 := h5.2
      refine WP.run hP_36 4 (c' := (139, [some (.ref 31), some (.int l1), some (.int l2), some (.int l3), some (.int l4)], [.int (((g 34) l4.toNatClampNeg) + (f 2049)), .int l4, .ref 34], Wd f fl g gl hh v tx)) rfl ?_
      refine WP.of (fun _ _ => Ex.iast hP_36 (w2 := Wd f fl (va_up g 34 (upd (g 34) (l4.toNatClampNeg) (((g 34) l4.toNatClampNeg) + (f 2049)))) gl hh v tx) rfl (Wa_34 _ _ _ _ _ _ _) h6.1 (Ws_34 _ _ _ _ _ _ _ _)) ?_
      have h7 := h6.2
      refine WP.run hP_36 2 (c' := (28, [some (.ref 31), some (.int l1), some (.int l2), some (.int (l3 + (1 : Int32))), none], [], Wd f fl (va_up g 34 (upd (g 34) (l4.toNatClampNeg) (((g 34) l4.toNatClampNeg) + (f 2049)))) gl hh v tx)) rfl ?_
      exact h7
  · have h8 := h.2 (Classical.not_not.mp c1)
    refine WP.run hP_36 1 (c' := (107, [none, none, none, none, none], [.int 0], Wd f fl g gl hh v tx)) rfl ?_
    exact WP.ret hP_36 (r := some (.int 0)) (w' := Wd f fl g gl hh v tx) rfl h8

set_option maxRecDepth 20000 in
theorem b_yre_test_31_91 (X : mm_X) (d : Nat) (f : Nat → Int32) (fl : Nat → Int64) (g : Nat → Nat → Int32) (gl : Nat → Nat → Int64) (hh : Nat → Nat → Option Nat) (v : Nat → Value) (tx : mm_W) (l1 : Int32) (l2 : Int32) (l3 : Int32) (l4 : Int32) (s0 : Int32)  (P : Option Value → mm_W → Prop)
    (h : ((s0 = 0) → P (some (.int 0)) (Wd f fl g gl hh v tx)) ∧
    ((¬ s0 = 0) → ((((f 2049) ≤ l4) → WP X (d) 36 (28, [some (.ref 31), some (.int l1), some (.int l2), some (.int (l3 + (1 : Int32))), none], [], Wd f fl g gl hh v tx) P) ∧
      ((¬ ((f 2049) ≤ l4)) → ((¬ (l4 < 0 ∨ 400 ≤ l4.toNatClampNeg)) ∧ ((¬ (l4 < 0 ∨ 400 ≤ l4.toNatClampNeg)) ∧ WP X (d) 36 (28, [some (.ref 31), some (.int l1), some (.int l2), some (.int (l3 + (1 : Int32))), none], [], Wd f fl (va_up g 34 (upd (g 34) (l4.toNatClampNeg) (((g 34) l4.toNatClampNeg) + (f 2049)))) gl hh v tx) P)))))) :
    WP X (d) 36 (91, [some (.ref 31), some (.int l1), some (.int l2), some (.int l3), some (.int l4)], [.int s0], Wd f fl g gl hh v tx) P := by
  refine WP.br hP_36 (q := s0 = 0) (t := 106) (f := 94) (L := [some (.ref 31), some (.int l1), some (.int l2), some (.int l3), some (.int l4)]) (st := []) (w := Wd f fl g gl hh v tx) rfl (fun c1 => ?_) (fun c1 => ?_)
  · have h2 := h.1 c1
    refine WP.run hP_36 1 (c' := (107, [none, none, none, none, none], [.int 0], Wd f fl g gl hh v tx)) rfl ?_
    exact WP.ret hP_36 (r := some (.int 0)) (w' := Wd f fl g gl hh v tx) rfl h2
  · have h3 := h.2 c1
    refine WP.run hP_36 5 (c' := (117, [some (.ref 31), some (.int l1), some (.int l2), some (.int l3), some (.int l4)], [.int (f 2049), .int l4], Wd f fl g gl hh v tx)) rfl ?_
    refine WP.br hP_36 (q := (f 2049) ≤ l4) (t := 140) (f := 120) (L := [some (.ref 31), some (.int l1), some (.int l2), some (.int l3), some (.int l4)]) (st := []) (w := Wd f fl g gl hh v tx) rfl (fun c4 => ?_) (fun c4 => ?_)
    · have h5 := h3.1 c4
      refine WP.run hP_36 2 (c' := (28, [some (.ref 31), some (.int l1), some (.int l2), some (.int (l3 + (1 : Int32))), none], [], Wd f fl g gl hh v tx)) rfl ?_
      exact h5
    · have h6 := h3.2 c4
      refine WP.run hP_36 5 (c' := (130, [some (.ref 31), some (.int l1), some (.int l2), some (.int l3), some (.int l4)], [.int l4, .ref 34, .int l4, .ref 34], Wd f fl g gl hh v tx)) rfl ?_
      refine WP.of (fun _ _ => Ex.iald hP_36 rfl (Wa_34 _ _ _ _ _ _ _) h6.1) ?_
      have h7 := h6.2
      refine WP.run hP_36 4 (c' := (139, [some (.ref 31), some (.int l1), some (.int l2), some (.int l3), some (.int l4)], [.int (((g 34) l4.toNatClampNeg) + (f 2049)), .int l4, .ref 34], Wd f fl g gl hh v tx)) rfl ?_
      refine WP.of (fun _ _ => Ex.iast hP_36 (w2 := Wd f fl (va_up g 34 (upd (g 34) (l4.toNatClampNeg) (((g 34) l4.toNatClampNeg) + (f 2049)))) gl hh v tx) rfl (Wa_34 _ _ _ _ _ _ _) h7.1 (Ws_34 _ _ _ _ _ _ _ _)) ?_
      have h8 := h7.2
      refine WP.run hP_36 2 (c' := (28, [some (.ref 31), some (.int l1), some (.int l2), some (.int (l3 + (1 : Int32))), none], [], Wd f fl (va_up g 34 (upd (g 34) (l4.toNatClampNeg) (((g 34) l4.toNatClampNeg) + (f 2049)))) gl hh v tx)) rfl ?_
      exact h8

set_option maxRecDepth 20000 in
theorem b_yre_parse_31_30_0 (X : mm_X) (d : Nat) (f : Nat → Int32) (fl : Nat → Int64) (g : Nat → Nat → Int32) (gl : Nat → Nat → Int64) (hh : Nat → Nat → Option Nat) (v : Nat → Value) (tx : mm_W) (p0 : Int32) (p1 : Int32)  (P : Option Value → mm_W → Prop)
    (h : WP X (d) 34 (0, [some (.ref 31), some (.ref 30), some (.int p0), some (.int p1)], [], Wd f fl g gl hh v tx) (fun rv w2 => WP X (d + 1) 33 (7, [some (.ref 31), some (.ref 30), some (.int p0), some (.int p1), none, none, none, none, none, none], rv.toList ++ [], w2) P)) :
    WP X (d + 1) 33 (0, [some (.ref 31), some (.ref 30), some (.int p0), some (.int p1), none, none, none, none, none, none], [], Wd f fl g gl hh v tx) P := by
  refine WP.run hP_33 4 (c' := (4, [some (.ref 31), some (.ref 30), some (.int p0), some (.int p1), none, none, none, none, none, none], [.int p1, .int p0, .ref 30, .ref 31], Wd f fl g gl hh v tx)) rfl ?_
  refine WP.call hP_33 hP_34 (as := [.ref 31, .ref 30, .int p0, .int p1]) (pc' := 7) (L' := [some (.ref 31), some (.ref 30), some (.int p0), some (.int p1), none, none, none, none, none, none]) (st' := []) (w1 := Wd f fl g gl hh v tx) rfl ⟨Nat.le_of_ble_eq_true rfl, Nat.le_of_ble_eq_true rfl⟩ rfl ?_
  exact h

set_option maxRecDepth 20000 in
theorem b_yre_parse_31_30_7 (X : mm_X) (d : Nat) (f : Nat → Int32) (fl : Nat → Int64) (g : Nat → Nat → Int32) (gl : Nat → Nat → Int64) (hh : Nat → Nat → Option Nat) (v : Nat → Value) (tx : mm_W) (l2 : Int32) (l3 : Int32)  (P : Option Value → mm_W → Prop)
    (h : WP X (d) 33 (10, [some (.ref 31), none, none, none, some (.int 0), none, none, none, none, none], [], Wd f fl g gl hh v tx) P) :
    WP X (d) 33 (7, [some (.ref 31), some (.ref 30), some (.int l2), some (.int l3), none, none, none, none, none, none], [], Wd f fl g gl hh v tx) P := by
  refine WP.run hP_33 2 (c' := (10, [some (.ref 31), some (.ref 30), some (.int l2), some (.int l3), some (.int 0), none, none, none, none, none], [], Wd f fl g gl hh v tx)) rfl ?_
  refine WP.clr hP_33 (pc := 10) rfl ?_
  exact h

set_option maxRecDepth 20000 in
theorem b_yre_parse_31_30_10 (X : mm_X) (d : Nat) (f : Nat → Int32) (fl : Nat → Int64) (g : Nat → Nat → Int32) (gl : Nat → Nat → Int64) (hh : Nat → Nat → Option Nat) (v : Nat → Value) (tx : mm_W) (l4 : Int32)  (P : Option Value → mm_W → Prop)
    (h : ((12 ≤ l4) → WP X (d) 40 (0, [some (.ref 31)], [], Wd f fl g gl hh v tx) (fun rv w2 => WP X (d + 1) 33 (242, [some (.ref 31), none, none, none, none, none, none, none, none, none], rv.toList ++ [], w2) P)) ∧
    ((¬ (12 ≤ l4)) → ((((f 1988) = 0) → WP X (d + 1) 33 (32, [some (.ref 31), none, none, none, some (.int l4), none, none, none, none, none], [.float 17, .ref 31], Wd f fl g gl hh v tx) P) ∧
      ((¬ (f 1988) = 0) → WP X (d + 1) 33 (32, [some (.ref 31), none, none, none, some (.int l4), none, none, none, none, none], [.float 16, .ref 31], Wd f fl g gl hh v tx) P)))) :
    WP X (d + 1) 33 (10, [some (.ref 31), none, none, none, some (.int l4), none, none, none, none, none], [], Wd f fl g gl hh v tx) P := by
  refine WP.run hP_33 2 (c' := (14, [some (.ref 31), none, none, none, some (.int l4), none, none, none, none, none], [.int 12, .int l4], Wd f fl g gl hh v tx)) rfl ?_
  refine WP.br hP_33 (q := 12 ≤ l4) (t := 238) (f := 17) (L := [some (.ref 31), none, none, none, some (.int l4), none, none, none, none, none]) (st := []) (w := Wd f fl g gl hh v tx) rfl (fun c1 => ?_) (fun c1 => ?_)
  · have h2 := h.1 c1
    refine WP.run hP_33 1 (c' := (239, [some (.ref 31), none, none, none, none, none, none, none, none, none], [.ref 31], Wd f fl g gl hh v tx)) rfl ?_
    refine WP.call hP_33 hP_40 (as := [.ref 31]) (pc' := 242) (L' := [some (.ref 31), none, none, none, none, none, none, none, none, none]) (st' := []) (w1 := Wd f fl g gl hh v tx) rfl ⟨Nat.le_of_ble_eq_true rfl, Nat.le_of_ble_eq_true rfl⟩ rfl ?_
    exact h2
  · have h3 := h.2 c1
    refine WP.run hP_33 3 (c' := (22, [some (.ref 31), none, none, none, some (.int l4), none, none, none, none, none], [.int (f 1988), .ref 31], Wd f fl g gl hh v tx)) rfl ?_
    refine WP.br hP_33 (q := (f 1988) = 0) (t := 30) (f := 25) (L := [some (.ref 31), none, none, none, some (.int l4), none, none, none, none, none]) (st := [.ref 31]) (w := Wd f fl g gl hh v tx) rfl (fun c4 => ?_) (fun c4 => ?_)
    · have h5 := h3.1 c4
      refine WP.run hP_33 1 (c' := (32, [some (.ref 31), none, none, none, some (.int l4), none, none, none, none, none], [.float 17, .ref 31], Wd f fl g gl hh v tx)) rfl ?_
      exact h5
    · have h6 := h3.2 c4
      refine WP.run hP_33 2 (c' := (32, [some (.ref 31), none, none, none, some (.int l4), none, none, none, none, none], [.float 16, .ref 31], Wd f fl g gl hh v tx)) rfl ?_
      exact h6

set_option maxRecDepth 20000 in
theorem b_yre_parse_31_30_242 (X : mm_X) (d : Nat) (f : Nat → Int32) (fl : Nat → Int64) (g : Nat → Nat → Int32) (gl : Nat → Nat → Int64) (hh : Nat → Nat → Option Nat) (v : Nat → Value) (tx : mm_W) (s0 : Int32)  (P : Option Value → mm_W → Prop)
    (h : (s0 = 0 ∨ s0 = 1) ∧ P (some (.int s0)) (Wd f fl g gl hh v tx)) :
    WP X (d) 33 (242, [some (.ref 31), none, none, none, none, none, none, none, none, none], [.int s0], Wd f fl g gl hh v tx) P := by
  exact WP.retZ hP_33 rfl rfl h.1 h.2

set_option maxRecDepth 20000 in
theorem b_yre_parse_31_30_32 (X : mm_X) (d : Nat) (f : Nat → Int32) (fl : Nat → Int64) (g : Nat → Nat → Int32) (gl : Nat → Nat → Int64) (hh : Nat → Nat → Option Nat) (v : Nat → Value) (tx : mm_W) (l4 : Int32)  (P : Option Value → mm_W → Prop)
    (h : WP X (d) 43 (0, [some (.ref 31), some (.float 17), none, none, none, none, none], [], Wd f fl g gl hh v tx) (fun rv w2 => WP X (d + 1) 33 (35, [some (.ref 31), none, none, none, some (.int l4), none, none, none, none, none], rv.toList ++ [], w2) P)) :
    WP X (d + 1) 33 (32, [some (.ref 31), none, none, none, some (.int l4), none, none, none, none, none], [.float 17, .ref 31], Wd f fl g gl hh v tx) P := by
  refine WP.call hP_33 hP_43 (as := [.ref 31, .float 17]) (pc' := 35) (L' := [some (.ref 31), none, none, none, some (.int l4), none, none, none, none, none]) (st' := []) (w1 := Wd f fl g gl hh v tx) rfl ⟨Nat.le_of_ble_eq_true rfl, Nat.le_of_ble_eq_true rfl⟩ rfl ?_
  exact h

set_option maxRecDepth 20000 in
theorem b_yre_parse_31_30_32a (X : mm_X) (d : Nat) (f : Nat → Int32) (fl : Nat → Int64) (g : Nat → Nat → Int32) (gl : Nat → Nat → Int64) (hh : Nat → Nat → Option Nat) (v : Nat → Value) (tx : mm_W) (l4 : Int32)  (P : Option Value → mm_W → Prop)
    (h : WP X (d) 43 (0, [some (.ref 31), some (.float 16), none, none, none, none, none], [], Wd f fl g gl hh v tx) (fun rv w2 => WP X (d + 1) 33 (35, [some (.ref 31), none, none, none, some (.int l4), none, none, none, none, none], rv.toList ++ [], w2) P)) :
    WP X (d + 1) 33 (32, [some (.ref 31), none, none, none, some (.int l4), none, none, none, none, none], [.float 16, .ref 31], Wd f fl g gl hh v tx) P := by
  refine WP.call hP_33 hP_43 (as := [.ref 31, .float 16]) (pc' := 35) (L' := [some (.ref 31), none, none, none, some (.int l4), none, none, none, none, none]) (st' := []) (w1 := Wd f fl g gl hh v tx) rfl ⟨Nat.le_of_ble_eq_true rfl, Nat.le_of_ble_eq_true rfl⟩ rfl ?_
  exact h

set_option maxRecDepth 20000 in
theorem b_yre_parse_31_30_35 (X : mm_X) (d : Nat) (f : Nat → Int32) (fl : Nat → Int64) (g : Nat → Nat → Int32) (gl : Nat → Nat → Int64) (hh : Nat → Nat → Option Nat) (v : Nat → Value) (tx : mm_W) (l4 : Int32) (s0 : Int32)  (P : Option Value → mm_W → Prop)
    (h : ((¬ s0 = (-1)) → WP X (d) 42 (0, [some (.ref 31), none], [], Wd f fl g gl hh v tx) (fun rv w2 => WP X (d + 1) 33 (52, [some (.ref 31), none, none, none, some (.int l4), some (.int s0), none, none, none, none], rv.toList ++ [], w2) P)) ∧
    ((s0 = (-1)) → WP X (d) 40 (0, [some (.ref 31)], [], Wd f fl g gl hh v tx) (fun rv w2 => WP X (d + 1) 33 (47, [some (.ref 31), none, none, none, some (.int l4), some (.int s0), none, none, none, none], rv.toList ++ [], w2) P))) :
    WP X (d + 1) 33 (35, [some (.ref 31), none, none, none, some (.int l4), none, none, none, none, none], [.int s0], Wd f fl g gl hh v tx) P := by
  refine WP.run hP_33 3 (c' := (40, [some (.ref 31), none, none, none, some (.int l4), some (.int s0), none, none, none, none], [.int (-1), .int s0], Wd f fl g gl hh v tx)) rfl ?_
  refine WP.br hP_33 (q := ¬ s0 = (-1)) (t := 48) (f := 43) (L := [some (.ref 31), none, none, none, some (.int l4), some (.int s0), none, none, none, none]) (st := []) (w := Wd f fl g gl hh v tx) rfl (fun c1 => ?_) (fun c1 => ?_)
  · have h2 := h.1 c1
    refine WP.run hP_33 1 (c' := (49, [some (.ref 31), none, none, none, some (.int l4), some (.int s0), none, none, none, none], [.ref 31], Wd f fl g gl hh v tx)) rfl ?_
    refine WP.call hP_33 hP_42 (as := [.ref 31]) (pc' := 52) (L' := [some (.ref 31), none, none, none, some (.int l4), some (.int s0), none, none, none, none]) (st' := []) (w1 := Wd f fl g gl hh v tx) rfl ⟨Nat.le_of_ble_eq_true rfl, Nat.le_of_ble_eq_true rfl⟩ rfl ?_
    exact h2
  · have h3 := h.2 (Classical.not_not.mp c1)
    refine WP.run hP_33 1 (c' := (44, [some (.ref 31), none, none, none, some (.int l4), some (.int s0), none, none, none, none], [.ref 31], Wd f fl g gl hh v tx)) rfl ?_
    refine WP.call hP_33 hP_40 (as := [.ref 31]) (pc' := 47) (L' := [some (.ref 31), none, none, none, some (.int l4), some (.int s0), none, none, none, none]) (st' := []) (w1 := Wd f fl g gl hh v tx) rfl ⟨Nat.le_of_ble_eq_true rfl, Nat.le_of_ble_eq_true rfl⟩ rfl ?_
    exact h3

set_option maxRecDepth 20000 in
theorem b_yre_parse_31_30_52 (X : mm_X) (d : Nat) (f : Nat → Int32) (fl : Nat → Int64) (g : Nat → Nat → Int32) (gl : Nat → Nat → Int64) (hh : Nat → Nat → Option Nat) (v : Nat → Value) (tx : mm_W) (l4 : Int32) (l5 : Int32)  (P : Option Value → mm_W → Prop)
    (h : (((f 1988) = 0) → (((l5 = 2) → WP X (d) 33 (98, [some (.ref 31), none, none, none, some (.int l4), some (.int l5), some (.int (f 2049)), none, none, none], [.int 0], Wd f fl g gl hh v tx) P) ∧
      ((¬ l5 = 2) → WP X (d) 33 (98, [some (.ref 31), none, none, none, some (.int l4), some (.int l5), some (.int (f 2049)), none, none, none], [.int 1], Wd f fl g gl hh v tx) P))) ∧
    ((¬ (f 1988) = 0) → (((l5 = 0) → WP X (d) 33 (79, [some (.ref 31), none, none, none, some (.int l4), some (.int l5), some (.int (f 2049)), none, none, none], [], Wd f fl g gl hh v tx) P) ∧
      ((¬ l5 = 0) → (((¬ l5 = 2) → WP X (d) 33 (98, [some (.ref 31), none, none, none, some (.int l4), some (.int l5), some (.int (f 2049)), none, none, none], [.int 0], Wd f fl g gl hh v tx) P) ∧
        ((l5 = 2) → WP X (d) 33 (79, [some (.ref 31), none, none, none, some (.int l4), some (.int l5), some (.int (f 2049)), none, none, none], [], Wd f fl g gl hh v tx) P)))))) :
    WP X (d) 33 (52, [some (.ref 31), none, none, none, some (.int l4), some (.int l5), none, none, none, none], [], Wd f fl g gl hh v tx) P := by
  refine WP.run hP_33 6 (c' := (65, [some (.ref 31), none, none, none, some (.int l4), some (.int l5), some (.int (f 2049)), none, none, none], [.int (f 1988)], Wd f fl g gl hh v tx)) rfl ?_
  refine WP.br hP_33 (q := (f 1988) = 0) (t := 87) (f := 68) (L := [some (.ref 31), none, none, none, some (.int l4), some (.int l5), some (.int (f 2049)), none, none, none]) (st := []) (w := Wd f fl g gl hh v tx) rfl (fun c1 => ?_) (fun c1 => ?_)
  · have h2 := h.1 c1
    refine WP.run hP_33 2 (c' := (90, [some (.ref 31), none, none, none, some (.int l4), some (.int l5), some (.int (f 2049)), none, none, none], [.int 2, .int l5], Wd f fl g gl hh v tx)) rfl ?_
    refine WP.br hP_33 (q := l5 = 2) (t := 97) (f := 93) (L := [some (.ref 31), none, none, none, some (.int l4), some (.int l5), some (.int (f 2049)), none, none, none]) (st := []) (w := Wd f fl g gl hh v tx) rfl (fun c3 => ?_) (fun c3 => ?_)
    · have h4 := h2.1 c3
      refine WP.run hP_33 1 (c' := (98, [some (.ref 31), none, none, none, some (.int l4), some (.int l5), some (.int (f 2049)), none, none, none], [.int 0], Wd f fl g gl hh v tx)) rfl ?_
      exact h4
    · have h5 := h2.2 c3
      refine WP.run hP_33 2 (c' := (98, [some (.ref 31), none, none, none, some (.int l4), some (.int l5), some (.int (f 2049)), none, none, none], [.int 1], Wd f fl g gl hh v tx)) rfl ?_
      exact h5
  · have h6 := h.2 c1
    refine WP.run hP_33 1 (c' := (70, [some (.ref 31), none, none, none, some (.int l4), some (.int l5), some (.int (f 2049)), none, none, none], [.int l5], Wd f fl g gl hh v tx)) rfl ?_
    refine WP.br hP_33 (q := l5 = 0) (t := 79) (f := 73) (L := [some (.ref 31), none, none, none, some (.int l4), some (.int l5), some (.int (f 2049)), none, none, none]) (st := []) (w := Wd f fl g gl hh v tx) rfl (fun c7 => ?_) (fun c7 => ?_)
    · have h8 := h6.1 c7
      exact h8
    · have h9 := h6.2 c7
      refine WP.run hP_33 2 (c' := (76, [some (.ref 31), none, none, none, some (.int l4), some (.int l5), some (.int (f 2049)), none, none, none], [.int 2, .int l5], Wd f fl g gl hh v tx)) rfl ?_
      refine WP.br hP_33 (q := ¬ l5 = 2) (t := 83) (f := 79) (L := [some (.ref 31), none, none, none, some (.int l4), some (.int l5), some (.int (f 2049)), none, none, none]) (st := []) (w := Wd f fl g gl hh v tx) rfl (fun c10 => ?_) (fun c10 => ?_)
      · have h11 := h9.1 c10
        refine WP.run hP_33 2 (c' := (98, [some (.ref 31), none, none, none, some (.int l4), some (.int l5), some (.int (f 2049)), none, none, none], [.int 0], Wd f fl g gl hh v tx)) rfl ?_
        exact h11
      · have h12 := h9.2 (Classical.not_not.mp c10)
        exact h12

set_option maxRecDepth 20000 in
theorem b_yre_parse_31_30_47 (X : mm_X) (d : Nat) (f : Nat → Int32) (fl : Nat → Int64) (g : Nat → Nat → Int32) (gl : Nat → Nat → Int64) (hh : Nat → Nat → Option Nat) (v : Nat → Value) (tx : mm_W) (l4 : Int32) (l5 : Int32) (s0 : Int32)  (P : Option Value → mm_W → Prop)
    (h : (s0 = 0 ∨ s0 = 1) ∧ P (some (.int s0)) (Wd f fl g gl hh v tx)) :
    WP X (d) 33 (47, [some (.ref 31), none, none, none, some (.int l4), some (.int l5), none, none, none, none], [.int s0], Wd f fl g gl hh v tx) P := by
  exact WP.retZ hP_33 rfl rfl h.1 h.2

set_option maxRecDepth 20000 in
theorem b_yre_parse_31_30_98 (X : mm_X) (d : Nat) (f : Nat → Int32) (fl : Nat → Int64) (g : Nat → Nat → Int32) (gl : Nat → Nat → Int64) (hh : Nat → Nat → Option Nat) (v : Nat → Value) (tx : mm_W) (l4 : Int32) (l5 : Int32) (l6 : Int32) (s0 : Int32)  (P : Option Value → mm_W → Prop)
    (h : ((s0 = 0) → WP X (d + 1) 33 (116, [some (.ref 31), none, none, none, some (.int l4), some (.int l5), some (.int l6), none, none, none], [], Wd f fl g gl hh v tx) P) ∧
    ((¬ s0 = 0) → WP X (d) 38 (0, [some (.ref 31), some (.int 0), some (.int 0), none, none], [], Wd f fl g gl hh v tx) (fun rv w2 => WP X (d + 1) 33 (111, [some (.ref 31), none, none, none, some (.int l4), some (.int l5), some (.int l6), some (.int s0), none, none], rv.toList ++ [], w2) P))) :
    WP X (d + 1) 33 (98, [some (.ref 31), none, none, none, some (.int l4), some (.int l5), some (.int l6), none, none, none], [.int s0], Wd f fl g gl hh v tx) P := by
  refine WP.run hP_33 2 (c' := (102, [some (.ref 31), none, none, none, some (.int l4), some (.int l5), some (.int l6), some (.int s0), none, none], [.int s0], Wd f fl g gl hh v tx)) rfl ?_
  refine WP.br hP_33 (q := s0 = 0) (t := 116) (f := 105) (L := [some (.ref 31), none, none, none, some (.int l4), some (.int l5), some (.int l6), some (.int s0), none, none]) (st := []) (w := Wd f fl g gl hh v tx) rfl (fun c1 => ?_) (fun c1 => ?_)
  · have h2 := h.1 c1
    refine WP.clr hP_33 (pc := 116) rfl ?_
    exact h2
  · have h3 := h.2 c1
    refine WP.run hP_33 3 (c' := (108, [some (.ref 31), none, none, none, some (.int l4), some (.int l5), some (.int l6), some (.int s0), none, none], [.int 0, .int 0, .ref 31], Wd f fl g gl hh v tx)) rfl ?_
    refine WP.call hP_33 hP_38 (as := [.ref 31, .int 0, .int 0]) (pc' := 111) (L' := [some (.ref 31), none, none, none, some (.int l4), some (.int l5), some (.int l6), some (.int s0), none, none]) (st' := []) (w1 := Wd f fl g gl hh v tx) rfl ⟨Nat.le_of_ble_eq_true rfl, Nat.le_of_ble_eq_true rfl⟩ rfl ?_
    exact h3

set_option maxRecDepth 20000 in
theorem b_yre_parse_31_30_79 (X : mm_X) (d : Nat) (f : Nat → Int32) (fl : Nat → Int64) (g : Nat → Nat → Int32) (gl : Nat → Nat → Int64) (hh : Nat → Nat → Option Nat) (v : Nat → Value) (tx : mm_W) (l4 : Int32) (l5 : Int32) (l6 : Int32)  (P : Option Value → mm_W → Prop)
    (h : WP X (d) 33 (98, [some (.ref 31), none, none, none, some (.int l4), some (.int l5), some (.int l6), none, none, none], [.int 1], Wd f fl g gl hh v tx) P) :
    WP X (d) 33 (79, [some (.ref 31), none, none, none, some (.int l4), some (.int l5), some (.int l6), none, none, none], [], Wd f fl g gl hh v tx) P := by
  refine WP.run hP_33 2 (c' := (98, [some (.ref 31), none, none, none, some (.int l4), some (.int l5), some (.int l6), none, none, none], [.int 1], Wd f fl g gl hh v tx)) rfl ?_
  exact h

set_option maxRecDepth 20000 in
theorem b_yre_parse_31_30_116 (X : mm_X) (d : Nat) (f : Nat → Int32) (fl : Nat → Int64) (g : Nat → Nat → Int32) (gl : Nat → Nat → Int64) (hh : Nat → Nat → Option Nat) (v : Nat → Value) (tx : mm_W) (l4 : Int32) (l5 : Int32) (l6 : Int32)  (P : Option Value → mm_W → Prop)
    (h : (((f 1988) = 0) → WP X (d + 1) 33 (148, [some (.ref 31), none, none, none, some (.int l4), some (.int l5), some (.int l6), none, some (.int (f 2049)), none], [], Wd f fl g gl hh v tx) P) ∧
    ((¬ (f 1988) = 0) → WP X (d) 43 (0, [some (.ref 31), some (.float 20), none, none, none, none, none], [], Wd f fl g gl hh v tx) (fun rv w2 => WP X (d + 1) 33 (138, [some (.ref 31), none, none, none, some (.int l4), some (.int l5), some (.int l6), none, some (.int (f 2049)), none], rv.toList ++ [], w2) P))) :
    WP X (d + 1) 33 (116, [some (.ref 31), none, none, none, some (.int l4), some (.int l5), some (.int l6), none, none, none], [], Wd f fl g gl hh v tx) P := by
  refine WP.run hP_33 3 (c' := (123, [some (.ref 31), none, none, none, some (.int l4), some (.int l5), some (.int l6), none, none, none], [.int (f 2049)], Wd f fl g gl hh v tx)) rfl ?_
  refine WP.run hP_33 3 (c' := (129, [some (.ref 31), none, none, none, some (.int l4), some (.int l5), some (.int l6), none, some (.int (f 2049)), none], [.int (f 1988)], Wd f fl g gl hh v tx)) rfl ?_
  refine WP.br hP_33 (q := (f 1988) = 0) (t := 148) (f := 132) (L := [some (.ref 31), none, none, none, some (.int l4), some (.int l5), some (.int l6), none, some (.int (f 2049)), none]) (st := []) (w := Wd f fl g gl hh v tx) rfl (fun c1 => ?_) (fun c1 => ?_)
  · have h2 := h.1 c1
    exact h2
  · have h3 := h.2 c1
    refine WP.run hP_33 2 (c' := (135, [some (.ref 31), none, none, none, some (.int l4), some (.int l5), some (.int l6), none, some (.int (f 2049)), none], [.float 20, .ref 31], Wd f fl g gl hh v tx)) rfl ?_
    refine WP.call hP_33 hP_43 (as := [.ref 31, .float 20]) (pc' := 138) (L' := [some (.ref 31), none, none, none, some (.int l4), some (.int l5), some (.int l6), none, some (.int (f 2049)), none]) (st' := []) (w1 := Wd f fl g gl hh v tx) rfl ⟨Nat.le_of_ble_eq_true rfl, Nat.le_of_ble_eq_true rfl⟩ rfl ?_
    exact h3

set_option maxRecDepth 20000 in
theorem b_yre_parse_31_30_111 (X : mm_X) (d : Nat) (f : Nat → Int32) (fl : Nat → Int64) (g : Nat → Nat → Int32) (gl : Nat → Nat → Int64) (hh : Nat → Nat → Option Nat) (v : Nat → Value) (tx : mm_W) (l4 : Int32) (l5 : Int32) (l6 : Int32) (l7 : Int32) (s0 : Int32)  (P : Option Value → mm_W → Prop)
    (h : ((¬ s0 = 0) → WP X (d) 33 (116, [some (.ref 31), none, none, none, some (.int l4), some (.int l5), some (.int l6), none, none, none], [], Wd f fl g gl hh v tx) P) ∧
    ((s0 = 0) → P (some (.int 0)) (Wd f fl g gl hh v tx))) :
    WP X (d) 33 (111, [some (.ref 31), none, none, none, some (.int l4), some (.int l5), some (.int l6), some (.int l7), none, none], [.int s0], Wd f fl g gl hh v tx) P := by
  refine WP.br hP_33 (q := ¬ s0 = 0) (t := 116) (f := 114) (L := [some (.ref 31), none, none, none, some (.int l4), some (.int l5), some (.int l6), some (.int l7), none, none]) (st := []) (w := Wd f fl g gl hh v tx) rfl (fun c1 => ?_) (fun c1 => ?_)
  · have h2 := h.1 c1
    refine WP.clr hP_33 (pc := 116) rfl ?_
    exact h2
  · have h3 := h.2 (Classical.not_not.mp c1)
    refine WP.run hP_33 1 (c' := (115, [some (.ref 31), none, none, none, some (.int l4), some (.int l5), some (.int l6), some (.int l7), none, none], [.int 0], Wd f fl g gl hh v tx)) rfl ?_
    exact WP.ret hP_33 (r := some (.int 0)) (w' := Wd f fl g gl hh v tx) rfl h3

set_option maxRecDepth 20000 in
theorem b_yre_parse_31_30_148 (X : mm_X) (d : Nat) (f : Nat → Int32) (fl : Nat → Int64) (g : Nat → Nat → Int32) (gl : Nat → Nat → Int64) (hh : Nat → Nat → Option Nat) (v : Nat → Value) (tx : mm_W) (l4 : Int32) (l5 : Int32) (l6 : Int32) (l8 : Int32)  (P : Option Value → mm_W → Prop)
    (h : WP X (d) 33 (149, [some (.ref 31), none, none, none, some (.int l4), some (.int l5), some (.int l6), none, some (.int l8), none], [.int 1], Wd f fl g gl hh v tx) P) :
    WP X (d) 33 (148, [some (.ref 31), none, none, none, some (.int l4), some (.int l5), some (.int l6), none, some (.int l8), none], [], Wd f fl g gl hh v tx) P := by
  refine WP.run hP_33 1 (c' := (149, [some (.ref 31), none, none, none, some (.int l4), some (.int l5), some (.int l6), none, some (.int l8), none], [.int 1], Wd f fl g gl hh v tx)) rfl ?_
  exact h

set_option maxRecDepth 20000 in
theorem b_yre_parse_31_30_138 (X : mm_X) (d : Nat) (f : Nat → Int32) (fl : Nat → Int64) (g : Nat → Nat → Int32) (gl : Nat → Nat → Int64) (hh : Nat → Nat → Option Nat) (v : Nat → Value) (tx : mm_W) (l4 : Int32) (l5 : Int32) (l6 : Int32) (l8 : Int32) (s0 : Int32)  (P : Option Value → mm_W → Prop)
    (h : ((¬ s0 = 0) → WP X (d + 1) 33 (148, [some (.ref 31), none, none, none, some (.int l4), some (.int l5), some (.int l6), none, some (.int l8), none], [], Wd f fl g gl hh v tx) P) ∧
    ((s0 = 0) → WP X (d) 35 (0, [some (.ref 31), none], [], Wd f fl g gl hh v tx) (fun rv w2 => WP X (d + 1) 33 (145, [some (.ref 31), none, none, none, some (.int l4), some (.int l5), some (.int l6), none, some (.int l8), none], rv.toList ++ [], w2) P))) :
    WP X (d + 1) 33 (138, [some (.ref 31), none, none, none, some (.int l4), some (.int l5), some (.int l6), none, some (.int l8), none], [.int s0], Wd f fl g gl hh v tx) P := by
  refine WP.br hP_33 (q := ¬ s0 = 0) (t := 148) (f := 141) (L := [some (.ref 31), none, none, none, some (.int l4), some (.int l5), some (.int l6), none, some (.int l8), none]) (st := []) (w := Wd f fl g gl hh v tx) rfl (fun c1 => ?_) (fun c1 => ?_)
  · have h2 := h.1 c1
    exact h2
  · have h3 := h.2 (Classical.not_not.mp c1)
    refine WP.run hP_33 1 (c' := (142, [some (.ref 31), none, none, none, some (.int l4), some (.int l5), some (.int l6), none, some (.int l8), none], [.ref 31], Wd f fl g gl hh v tx)) rfl ?_
    refine WP.call hP_33 hP_35 (as := [.ref 31]) (pc' := 145) (L' := [some (.ref 31), none, none, none, some (.int l4), some (.int l5), some (.int l6), none, some (.int l8), none]) (st' := []) (w1 := Wd f fl g gl hh v tx) rfl ⟨Nat.le_of_ble_eq_true rfl, Nat.le_of_ble_eq_true rfl⟩ rfl ?_
    exact h3

set_option maxRecDepth 20000 in
theorem b_yre_parse_31_30_149 (X : mm_X) (d : Nat) (f : Nat → Int32) (fl : Nat → Int64) (g : Nat → Nat → Int32) (gl : Nat → Nat → Int64) (hh : Nat → Nat → Option Nat) (v : Nat → Value) (tx : mm_W) (l4 : Int32) (l5 : Int32) (l6 : Int32) (l8 : Int32) (s0 : Int32)  (P : Option Value → mm_W → Prop)
    (h : ((¬ s0 = (-1)) → WP X (d) 43 (0, [some (.ref 31), some (.float 21), none, none, none, none, none], [], Wd f fl g gl hh v tx) (fun rv w2 => WP X (d + 1) 33 (165, [some (.ref 31), none, none, none, some (.int l4), some (.int l5), some (.int l6), none, some (.int l8), some (.int s0)], rv.toList ++ [], w2) P)) ∧
    ((s0 = (-1)) → P (some (.int 0)) (Wd f fl g gl hh v tx))) :
    WP X (d + 1) 33 (149, [some (.ref 31), none, none, none, some (.int l4), some (.int l5), some (.int l6), none, some (.int l8), none], [.int s0], Wd f fl g gl hh v tx) P := by
  refine WP.run hP_33 3 (c' := (154, [some (.ref 31), none, none, none, some (.int l4), some (.int l5), some (.int l6), none, some (.int l8), some (.int s0)], [.int (-1), .int s0], Wd f fl g gl hh v tx)) rfl ?_
  refine WP.br hP_33 (q := ¬ s0 = (-1)) (t := 159) (f := 157) (L := [some (.ref 31), none, none, none, some (.int l4), some (.int l5), some (.int l6), none, some (.int l8), some (.int s0)]) (st := []) (w := Wd f fl g gl hh v tx) rfl (fun c1 => ?_) (fun c1 => ?_)
  · have h2 := h.1 c1
    refine WP.run hP_33 2 (c' := (162, [some (.ref 31), none, none, none, some (.int l4), some (.int l5), some (.int l6), none, some (.int l8), some (.int s0)], [.float 21, .ref 31], Wd f fl g gl hh v tx)) rfl ?_
    refine WP.call hP_33 hP_43 (as := [.ref 31, .float 21]) (pc' := 165) (L' := [some (.ref 31), none, none, none, some (.int l4), some (.int l5), some (.int l6), none, some (.int l8), some (.int s0)]) (st' := []) (w1 := Wd f fl g gl hh v tx) rfl ⟨Nat.le_of_ble_eq_true rfl, Nat.le_of_ble_eq_true rfl⟩ rfl ?_
    exact h2
  · have h3 := h.2 (Classical.not_not.mp c1)
    refine WP.run hP_33 1 (c' := (158, [some (.ref 31), none, none, none, some (.int l4), some (.int l5), some (.int l6), none, some (.int l8), some (.int s0)], [.int 0], Wd f fl g gl hh v tx)) rfl ?_
    exact WP.ret hP_33 (r := some (.int 0)) (w' := Wd f fl g gl hh v tx) rfl h3

set_option maxRecDepth 20000 in
theorem b_yre_parse_31_30_145 (X : mm_X) (d : Nat) (f : Nat → Int32) (fl : Nat → Int64) (g : Nat → Nat → Int32) (gl : Nat → Nat → Int64) (hh : Nat → Nat → Option Nat) (v : Nat → Value) (tx : mm_W) (l4 : Int32) (l5 : Int32) (l6 : Int32) (l8 : Int32) (s0 : Int32)  (P : Option Value → mm_W → Prop)
    (h : WP X (d) 33 (149, [some (.ref 31), none, none, none, some (.int l4), some (.int l5), some (.int l6), none, some (.int l8), none], [.int s0], Wd f fl g gl hh v tx) P) :
    WP X (d) 33 (145, [some (.ref 31), none, none, none, some (.int l4), some (.int l5), some (.int l6), none, some (.int l8), none], [.int s0], Wd f fl g gl hh v tx) P := by
  refine WP.run hP_33 1 (c' := (149, [some (.ref 31), none, none, none, some (.int l4), some (.int l5), some (.int l6), none, some (.int l8), none], [.int s0], Wd f fl g gl hh v tx)) rfl ?_
  exact h

set_option maxRecDepth 20000 in
theorem b_yre_parse_31_30_165 (X : mm_X) (d : Nat) (f : Nat → Int32) (fl : Nat → Int64) (g : Nat → Nat → Int32) (gl : Nat → Nat → Int64) (hh : Nat → Nat → Option Nat) (v : Nat → Value) (tx : mm_W) (l4 : Int32) (l5 : Int32) (l6 : Int32) (l8 : Int32) (l9 : Int32) (s0 : Int32)  (P : Option Value → mm_W → Prop)
    (h : ((¬ s0 = 0) → WP X (d + 1) 33 (183, [some (.ref 31), none, none, none, some (.int l4), some (.int l5), some (.int l6), none, some (.int l8), some (.int l9)], [], Wd f fl g gl hh v tx) P) ∧
    ((s0 = 0) → WP X (d) 42 (0, [some (.ref 31), none], [], Wd f fl g gl hh v tx) (fun rv w2 => WP X (d + 1) 33 (172, [some (.ref 31), none, none, none, some (.int l4), some (.int l5), some (.int l6), none, some (.int l8), some (.int l9)], rv.toList ++ [], w2) P))) :
    WP X (d + 1) 33 (165, [some (.ref 31), none, none, none, some (.int l4), some (.int l5), some (.int l6), none, some (.int l8), some (.int l9)], [.int s0], Wd f fl g gl hh v tx) P := by
  refine WP.br hP_33 (q := ¬ s0 = 0) (t := 183) (f := 168) (L := [some (.ref 31), none, none, none, some (.int l4), some (.int l5), some (.int l6), none, some (.int l8), some (.int l9)]) (st := []) (w := Wd f fl g gl hh v tx) rfl (fun c1 => ?_) (fun c1 => ?_)
  · have h2 := h.1 c1
    exact h2
  · have h3 := h.2 (Classical.not_not.mp c1)
    refine WP.run hP_33 1 (c' := (169, [some (.ref 31), none, none, none, some (.int l4), some (.int l5), some (.int l6), none, some (.int l8), some (.int l9)], [.ref 31], Wd f fl g gl hh v tx)) rfl ?_
    refine WP.call hP_33 hP_42 (as := [.ref 31]) (pc' := 172) (L' := [some (.ref 31), none, none, none, some (.int l4), some (.int l5), some (.int l6), none, some (.int l8), some (.int l9)]) (st' := []) (w1 := Wd f fl g gl hh v tx) rfl ⟨Nat.le_of_ble_eq_true rfl, Nat.le_of_ble_eq_true rfl⟩ rfl ?_
    exact h3

set_option maxRecDepth 20000 in
theorem b_yre_parse_31_30_183 (X : mm_X) (d : Nat) (f : Nat → Int32) (fl : Nat → Int64) (g : Nat → Nat → Int32) (gl : Nat → Nat → Int64) (hh : Nat → Nat → Option Nat) (v : Nat → Value) (tx : mm_W) (l4 : Int32) (l5 : Int32) (l6 : Int32) (l8 : Int32) (l9 : Int32)  (P : Option Value → mm_W → Prop)
    (h : ((((f 2048) * (5 : Int32)) < 0) → ((((f 1990) = 59) → WP X (d) 42 (0, [some (.ref 31), none], [], Wd f fl g gl hh v tx) (fun rv w2 => WP X (d + 1) 33 (232, [some (.ref 31), none, none, none, some (.int l4), none, none, none, none, none], rv.toList ++ [], w2) P)) ∧
      ((¬ (f 1990) = 59) → ((((f 1990) = (-1)) → P (some (.int 1)) (Wd f fl g gl hh v tx)) ∧
        ((¬ (f 1990) = (-1)) → WP X (d) 40 (0, [some (.ref 31)], [], Wd f fl g gl hh v tx) (fun rv w2 => WP X (d + 1) 33 (219, [some (.ref 31), none, none, none, some (.int l4), some (.int l5), some (.int l6), none, some (.int l8), some (.int l9)], rv.toList ++ [], w2) P)))))) ∧
    ((¬ (((f 2048) * (5 : Int32)) < 0)) → (((60 < (((f 2048) * (5 : Int32)) + (5 : Int32))) → ((((f 1990) = 59) → WP X (d) 42 (0, [some (.ref 31), none], [], Wd f fl g gl hh v tx) (fun rv w2 => WP X (d + 1) 33 (232, [some (.ref 31), none, none, none, some (.int l4), none, none, none, none, none], rv.toList ++ [], w2) P)) ∧
        ((¬ (f 1990) = 59) → ((((f 1990) = (-1)) → P (some (.int 1)) (Wd f fl g gl hh v tx)) ∧
          ((¬ (f 1990) = (-1)) → WP X (d) 40 (0, [some (.ref 31)], [], Wd f fl g gl hh v tx) (fun rv w2 => WP X (d + 1) 33 (219, [some (.ref 31), none, none, none, some (.int l4), some (.int l5), some (.int l6), none, some (.int l8), some (.int l9)], rv.toList ++ [], w2) P)))))) ∧
      ((¬ (60 < (((f 2048) * (5 : Int32)) + (5 : Int32)))) → ((¬ ((((f 2048) * (5 : Int32)) + (0 : Int32)) < 0 ∨ 60 ≤ (((f 2048) * (5 : Int32)) + (0 : Int32)).toNatClampNeg)) ∧ ((¬ ((((f 2048) * (5 : Int32)) + (1 : Int32)) < 0 ∨ 60 ≤ (((f 2048) * (5 : Int32)) + (1 : Int32)).toNatClampNeg)) ∧ ((¬ ((((f 2048) * (5 : Int32)) + (2 : Int32)) < 0 ∨ 60 ≤ (((f 2048) * (5 : Int32)) + (2 : Int32)).toNatClampNeg)) ∧ ((¬ ((((f 2048) * (5 : Int32)) + (3 : Int32)) < 0 ∨ 60 ≤ (((f 2048) * (5 : Int32)) + (3 : Int32)).toNatClampNeg)) ∧ ((¬ ((((f 2048) * (5 : Int32)) + (4 : Int32)) < 0 ∨ 60 ≤ (((f 2048) * (5 : Int32)) + (4 : Int32)).toNatClampNeg)) ∧ ((((f 1990) = 59) → WP X (d) 42 (0, [some (.ref 31), none], [], Wd (va_up f 2048 ((f 2048) + (1 : Int32))) fl (va_up (va_up (va_up (va_up (va_up g 33 (upd (g 33) ((((f 2048) * (5 : Int32)) + (0 : Int32)).toNatClampNeg) l5)) 33 (upd (upd (g 33) ((((f 2048) * (5 : Int32)) + (0 : Int32)).toNatClampNeg) l5) ((((f 2048) * (5 : Int32)) + (1 : Int32)).toNatClampNeg) l9)) 33 (upd (upd (upd (g 33) ((((f 2048) * (5 : Int32)) + (0 : Int32)).toNatClampNeg) l5) ((((f 2048) * (5 : Int32)) + (1 : Int32)).toNatClampNeg) l9) ((((f 2048) * (5 : Int32)) + (2 : Int32)).toNatClampNeg) l6)) 33 (upd (upd (upd (upd (g 33) ((((f 2048) * (5 : Int32)) + (0 : Int32)).toNatClampNeg) l5) ((((f 2048) * (5 : Int32)) + (1 : Int32)).toNatClampNeg) l9) ((((f 2048) * (5 : Int32)) + (2 : Int32)).toNatClampNeg) l6) ((((f 2048) * (5 : Int32)) + (3 : Int32)).toNatClampNeg) l8)) 33 (upd (upd (upd (upd (upd (g 33) ((((f 2048) * (5 : Int32)) + (0 : Int32)).toNatClampNeg) l5) ((((f 2048) * (5 : Int32)) + (1 : Int32)).toNatClampNeg) l9) ((((f 2048) * (5 : Int32)) + (2 : Int32)).toNatClampNeg) l6) ((((f 2048) * (5 : Int32)) + (3 : Int32)).toNatClampNeg) l8) ((((f 2048) * (5 : Int32)) + (4 : Int32)).toNatClampNeg) (f 2049))) gl hh v tx) (fun rv w2 => WP X (d + 1) 33 (232, [some (.ref 31), none, none, none, some (.int l4), none, none, none, none, none], rv.toList ++ [], w2) P)) ∧
        ((¬ (f 1990) = 59) → ((((f 1990) = (-1)) → P (some (.int 1)) (Wd (va_up f 2048 ((f 2048) + (1 : Int32))) fl (va_up (va_up (va_up (va_up (va_up g 33 (upd (g 33) ((((f 2048) * (5 : Int32)) + (0 : Int32)).toNatClampNeg) l5)) 33 (upd (upd (g 33) ((((f 2048) * (5 : Int32)) + (0 : Int32)).toNatClampNeg) l5) ((((f 2048) * (5 : Int32)) + (1 : Int32)).toNatClampNeg) l9)) 33 (upd (upd (upd (g 33) ((((f 2048) * (5 : Int32)) + (0 : Int32)).toNatClampNeg) l5) ((((f 2048) * (5 : Int32)) + (1 : Int32)).toNatClampNeg) l9) ((((f 2048) * (5 : Int32)) + (2 : Int32)).toNatClampNeg) l6)) 33 (upd (upd (upd (upd (g 33) ((((f 2048) * (5 : Int32)) + (0 : Int32)).toNatClampNeg) l5) ((((f 2048) * (5 : Int32)) + (1 : Int32)).toNatClampNeg) l9) ((((f 2048) * (5 : Int32)) + (2 : Int32)).toNatClampNeg) l6) ((((f 2048) * (5 : Int32)) + (3 : Int32)).toNatClampNeg) l8)) 33 (upd (upd (upd (upd (upd (g 33) ((((f 2048) * (5 : Int32)) + (0 : Int32)).toNatClampNeg) l5) ((((f 2048) * (5 : Int32)) + (1 : Int32)).toNatClampNeg) l9) ((((f 2048) * (5 : Int32)) + (2 : Int32)).toNatClampNeg) l6) ((((f 2048) * (5 : Int32)) + (3 : Int32)).toNatClampNeg) l8) ((((f 2048) * (5 : Int32)) + (4 : Int32)).toNatClampNeg) (f 2049))) gl hh v tx)) ∧
          ((¬ (f 1990) = (-1)) → WP X (d) 40 (0, [some (.ref 31)], [], Wd (va_up f 2048 ((f 2048) + (1 : Int32))) fl (va_up (va_up (va_up (va_up (va_up g 33 (upd (g 33) ((((f 2048) * (5 : Int32)) + (0 : Int32)).toNatClampNeg) l5)) 33 (upd (upd (g 33) ((((f 2048) * (5 : Int32)) + (0 : Int32)).toNatClampNeg) l5) ((((f 2048) * (5 : Int32)) + (1 : Int32)).toNatClampNeg) l9)) 33 (upd (upd (upd (g 33) ((((f 2048) * (5 : Int32)) + (0 : Int32)).toNatClampNeg) l5) ((((f 2048) * (5 : Int32)) + (1 : Int32)).toNatClampNeg) l9) ((((f 2048) * (5 : Int32)) + (2 : Int32)).toNatClampNeg) l6)) 33 (upd (upd (upd (upd (g 33) ((((f 2048) * (5 : Int32)) + (0 : Int32)).toNatClampNeg) l5) ((((f 2048) * (5 : Int32)) + (1 : Int32)).toNatClampNeg) l9) ((((f 2048) * (5 : Int32)) + (2 : Int32)).toNatClampNeg) l6) ((((f 2048) * (5 : Int32)) + (3 : Int32)).toNatClampNeg) l8)) 33 (upd (upd (upd (upd (upd (g 33) ((((f 2048) * (5 : Int32)) + (0 : Int32)).toNatClampNeg) l5) ((((f 2048) * (5 : Int32)) + (1 : Int32)).toNatClampNeg) l9) ((((f 2048) * (5 : Int32)) + (2 : Int32)).toNatClampNeg) l6) ((((f 2048) * (5 : Int32)) + (3 : Int32)).toNatClampNeg) l8) ((((f 2048) * (5 : Int32)) + (4 : Int32)).toNatClampNeg) (f 2049))) gl hh v tx) (fun rv w2 => WP X (d + 1) 33 (219, [some (.ref 31), none, none, none, some (.int l4), some (.int l5), some (.int l6), none, some (.int l8), some (.int l9)], rv.toList ++ [], w2) P)))))))))))))) :
    WP X (d + 1) 33 (183, [some (.ref 31), none, none, none, some (.int l4), some (.int l5), some (.int l6), none, some (.int l8), some (.int l9)], [], Wd f fl g gl hh v tx) P := by
  refine WP.run hP_33 6 (c' := (195, [some (.ref 31), none, none, none, some (.int l4), some (.int l5), some (.int l6), none, some (.int l8), some (.int l9)], [.int l8, .int l6, .int l9, .int l5, .ref 32], Wd f fl g gl hh v tx)) rfl ?_
  refine WP.call hP_33 hP_55 (as := [.ref 32, .int l5, .int l9, .int l6, .int l8]) (pc' := 198) (L' := [some (.ref 31), none, none, none, some (.int l4), some (.int l5), some (.int l6), none, some (.int l8), some (.int l9)]) (st' := []) (w1 := Wd f fl g gl hh v tx) rfl ⟨Nat.le_of_ble_eq_true rfl, Nat.le_of_ble_eq_true rfl⟩ rfl (b_yte_close_32_0 X (d) f fl g gl hh v tx l5 l9 l6 l8 _ ?_)
  refine ⟨fun c1 => ?_, fun c1 => ?_⟩
  · have h2 := h.1 c1
    refine WP.run hP_33 3 (c' := (204, [some (.ref 31), none, none, none, some (.int l4), some (.int l5), some (.int l6), none, some (.int l8), some (.int l9)], [.int 59, .int (f 1990)], Wd f fl g gl hh v tx)) rfl ?_
    refine WP.br hP_33 (q := (f 1990) = 59) (t := 228) (f := 207) (L := [some (.ref 31), none, none, none, some (.int l4), some (.int l5), some (.int l6), none, some (.int l8), some (.int l9)]) (st := []) (w := Wd f fl g gl hh v tx) rfl (fun c3 => ?_) (fun c3 => ?_)
    · have h4 := h2.1 c3
      refine WP.run hP_33 1 (c' := (229, [some (.ref 31), none, none, none, some (.int l4), none, none, none, none, none], [.ref 31], Wd f fl g gl hh v tx)) rfl ?_
      refine WP.call hP_33 hP_42 (as := [.ref 31]) (pc' := 232) (L' := [some (.ref 31), none, none, none, some (.int l4), none, none, none, none, none]) (st' := []) (w1 := Wd f fl g gl hh v tx) rfl ⟨Nat.le_of_ble_eq_true rfl, Nat.le_of_ble_eq_true rfl⟩ rfl ?_
      exact h4
    · have h5 := h2.2 c3
      refine WP.run hP_33 3 (c' := (212, [some (.ref 31), none, none, none, some (.int l4), some (.int l5), some (.int l6), none, some (.int l8), some (.int l9)], [.int (-1), .int (f 1990)], Wd f fl g gl hh v tx)) rfl ?_
      refine WP.br hP_33 (q := (f 1990) = (-1)) (t := 222) (f := 215) (L := [some (.ref 31), none, none, none, some (.int l4), some (.int l5), some (.int l6), none, some (.int l8), some (.int l9)]) (st := []) (w := Wd f fl g gl hh v tx) rfl (fun c6 => ?_) (fun c6 => ?_)
      · have h7 := h5.1 c6
        refine WP.run hP_33 2 (c' := (227, [none, none, none, none, none, none, none, none, none, none], [.int 1], Wd f fl g gl hh v tx)) rfl ?_
        exact WP.ret hP_33 (r := some (.int 1)) (w' := Wd f fl g gl hh v tx) rfl h7
      · have h8 := h5.2 c6
        refine WP.run hP_33 1 (c' := (216, [some (.ref 31), none, none, none, some (.int l4), some (.int l5), some (.int l6), none, some (.int l8), some (.int l9)], [.ref 31], Wd f fl g gl hh v tx)) rfl ?_
        refine WP.call hP_33 hP_40 (as := [.ref 31]) (pc' := 219) (L' := [some (.ref 31), none, none, none, some (.int l4), some (.int l5), some (.int l6), none, some (.int l8), some (.int l9)]) (st' := []) (w1 := Wd f fl g gl hh v tx) rfl ⟨Nat.le_of_ble_eq_true rfl, Nat.le_of_ble_eq_true rfl⟩ rfl ?_
        exact h8
  · have h9 := h.2 c1
    refine ⟨fun c10 => ?_, fun c10 => ?_⟩
    · have h11 := h9.1 c10
      refine WP.run hP_33 3 (c' := (204, [some (.ref 31), none, none, none, some (.int l4), some (.int l5), some (.int l6), none, some (.int l8), some (.int l9)], [.int 59, .int (f 1990)], Wd f fl g gl hh v tx)) rfl ?_
      refine WP.br hP_33 (q := (f 1990) = 59) (t := 228) (f := 207) (L := [some (.ref 31), none, none, none, some (.int l4), some (.int l5), some (.int l6), none, some (.int l8), some (.int l9)]) (st := []) (w := Wd f fl g gl hh v tx) rfl (fun c12 => ?_) (fun c12 => ?_)
      · have h13 := h11.1 c12
        refine WP.run hP_33 1 (c' := (229, [some (.ref 31), none, none, none, some (.int l4), none, none, none, none, none], [.ref 31], Wd f fl g gl hh v tx)) rfl ?_
        refine WP.call hP_33 hP_42 (as := [.ref 31]) (pc' := 232) (L' := [some (.ref 31), none, none, none, some (.int l4), none, none, none, none, none]) (st' := []) (w1 := Wd f fl g gl hh v tx) rfl ⟨Nat.le_of_ble_eq_true rfl, Nat.le_of_ble_eq_true rfl⟩ rfl ?_
        exact h13
      · have h14 := h11.2 c12
        refine WP.run hP_33 3 (c' := (212, [some (.ref 31), none, none, none, some (.int l4), some (.int l5), some (.int l6), none, some (.int l8), some (.int l9)], [.int (-1), .int (f 1990)], Wd f fl g gl hh v tx)) rfl ?_
        refine WP.br hP_33 (q := (f 1990) = (-1)) (t := 222) (f := 215) (L := [some (.ref 31), none, none, none, some (.int l4), some (.int l5), some (.int l6), none, some (.int l8), some (.int l9)]) (st := []) (w := Wd f fl g gl hh v tx) rfl (fun c15 => ?_) (fun c15 => ?_)
        · have h16 := h14.1 c15
          refine WP.run hP_33 2 (c' := (227, [none, none, none, none, none, none, none, none, none, none], [.int 1], Wd f fl g gl hh v tx)) rfl ?_
          exact WP.ret hP_33 (r := some (.int 1)) (w' := Wd f fl g gl hh v tx) rfl h16
        · have h17 := h14.2 c15
          refine WP.run hP_33 1 (c' := (216, [some (.ref 31), none, none, none, some (.int l4), some (.int l5), some (.int l6), none, some (.int l8), some (.int l9)], [.ref 31], Wd f fl g gl hh v tx)) rfl ?_
          refine WP.call hP_33 hP_40 (as := [.ref 31]) (pc' := 219) (L' := [some (.ref 31), none, none, none, some (.int l4), some (.int l5), some (.int l6), none, some (.int l8), some (.int l9)]) (st' := []) (w1 := Wd f fl g gl hh v tx) rfl ⟨Nat.le_of_ble_eq_true rfl, Nat.le_of_ble_eq_true rfl⟩ rfl ?_
          exact h17
    · have h18 := h9.2 c10
      refine ⟨h18.1, ?_⟩
      have h19 := h18.2
      refine ⟨h19.1, ?_⟩
      have h20 := h19.2
      refine ⟨h20.1, ?_⟩
      have h21 := h20.2
      refine ⟨h21.1, ?_⟩
      have h22 := h21.2
      refine ⟨h22.1, ?_⟩
      have h23 := h22.2
      refine WP.run hP_33 3 (c' := (204, [some (.ref 31), none, none, none, some (.int l4), some (.int l5), some (.int l6), none, some (.int l8), some (.int l9)], [.int 59, .int (f 1990)], Wd (va_up f 2048 ((f 2048) + (1 : Int32))) fl (va_up (va_up (va_up (va_up (va_up g 33 (upd (g 33) ((((f 2048) * (5 : Int32)) + (0 : Int32)).toNatClampNeg) l5)) 33 (upd (upd (g 33) ((((f 2048) * (5 : Int32)) + (0 : Int32)).toNatClampNeg) l5) ((((f 2048) * (5 : Int32)) + (1 : Int32)).toNatClampNeg) l9)) 33 (upd (upd (upd (g 33) ((((f 2048) * (5 : Int32)) + (0 : Int32)).toNatClampNeg) l5) ((((f 2048) * (5 : Int32)) + (1 : Int32)).toNatClampNeg) l9) ((((f 2048) * (5 : Int32)) + (2 : Int32)).toNatClampNeg) l6)) 33 (upd (upd (upd (upd (g 33) ((((f 2048) * (5 : Int32)) + (0 : Int32)).toNatClampNeg) l5) ((((f 2048) * (5 : Int32)) + (1 : Int32)).toNatClampNeg) l9) ((((f 2048) * (5 : Int32)) + (2 : Int32)).toNatClampNeg) l6) ((((f 2048) * (5 : Int32)) + (3 : Int32)).toNatClampNeg) l8)) 33 (upd (upd (upd (upd (upd (g 33) ((((f 2048) * (5 : Int32)) + (0 : Int32)).toNatClampNeg) l5) ((((f 2048) * (5 : Int32)) + (1 : Int32)).toNatClampNeg) l9) ((((f 2048) * (5 : Int32)) + (2 : Int32)).toNatClampNeg) l6) ((((f 2048) * (5 : Int32)) + (3 : Int32)).toNatClampNeg) l8) ((((f 2048) * (5 : Int32)) + (4 : Int32)).toNatClampNeg) (f 2049))) gl hh v tx)) rfl ?_
      refine WP.br hP_33 (q := (f 1990) = 59) (t := 228) (f := 207) (L := [some (.ref 31), none, none, none, some (.int l4), some (.int l5), some (.int l6), none, some (.int l8), some (.int l9)]) (st := []) (w := Wd (va_up f 2048 ((f 2048) + (1 : Int32))) fl (va_up (va_up (va_up (va_up (va_up g 33 (upd (g 33) ((((f 2048) * (5 : Int32)) + (0 : Int32)).toNatClampNeg) l5)) 33 (upd (upd (g 33) ((((f 2048) * (5 : Int32)) + (0 : Int32)).toNatClampNeg) l5) ((((f 2048) * (5 : Int32)) + (1 : Int32)).toNatClampNeg) l9)) 33 (upd (upd (upd (g 33) ((((f 2048) * (5 : Int32)) + (0 : Int32)).toNatClampNeg) l5) ((((f 2048) * (5 : Int32)) + (1 : Int32)).toNatClampNeg) l9) ((((f 2048) * (5 : Int32)) + (2 : Int32)).toNatClampNeg) l6)) 33 (upd (upd (upd (upd (g 33) ((((f 2048) * (5 : Int32)) + (0 : Int32)).toNatClampNeg) l5) ((((f 2048) * (5 : Int32)) + (1 : Int32)).toNatClampNeg) l9) ((((f 2048) * (5 : Int32)) + (2 : Int32)).toNatClampNeg) l6) ((((f 2048) * (5 : Int32)) + (3 : Int32)).toNatClampNeg) l8)) 33 (upd (upd (upd (upd (upd (g 33) ((((f 2048) * (5 : Int32)) + (0 : Int32)).toNatClampNeg) l5) ((((f 2048) * (5 : Int32)) + (1 : Int32)).toNatClampNeg) l9) ((((f 2048) * (5 : Int32)) + (2 : Int32)).toNatClampNeg) l6) ((((f 2048) * (5 : Int32)) + (3 : Int32)).toNatClampNeg) l8) ((((f 2048) * (5 : Int32)) + (4 : Int32)).toNatClampNeg) (f 2049))) gl hh v tx) rfl (fun c24 => ?_) (fun c24 => ?_)
      · have h25 := h23.1 c24
        refine WP.run hP_33 1 (c' := (229, [some (.ref 31), none, none, none, some (.int l4), none, none, none, none, none], [.ref 31], Wd (va_up f 2048 ((f 2048) + (1 : Int32))) fl (va_up (va_up (va_up (va_up (va_up g 33 (upd (g 33) ((((f 2048) * (5 : Int32)) + (0 : Int32)).toNatClampNeg) l5)) 33 (upd (upd (g 33) ((((f 2048) * (5 : Int32)) + (0 : Int32)).toNatClampNeg) l5) ((((f 2048) * (5 : Int32)) + (1 : Int32)).toNatClampNeg) l9)) 33 (upd (upd (upd (g 33) ((((f 2048) * (5 : Int32)) + (0 : Int32)).toNatClampNeg) l5) ((((f 2048) * (5 : Int32)) + (1 : Int32)).toNatClampNeg) l9) ((((f 2048) * (5 : Int32)) + (2 : Int32)).toNatClampNeg) l6)) 33 (upd (upd (upd (upd (g 33) ((((f 2048) * (5 : Int32)) + (0 : Int32)).toNatClampNeg) l5) ((((f 2048) * (5 : Int32)) + (1 : Int32)).toNatClampNeg) l9) ((((f 2048) * (5 : Int32)) + (2 : Int32)).toNatClampNeg) l6) ((((f 2048) * (5 : Int32)) + (3 : Int32)).toNatClampNeg) l8)) 33 (upd (upd (upd (upd (upd (g 33) ((((f 2048) * (5 : Int32)) + (0 : Int32)).toNatClampNeg) l5) ((((f 2048) * (5 : Int32)) + (1 : Int32)).toNatClampNeg) l9) ((((f 2048) * (5 : Int32)) + (2 : Int32)).toNatClampNeg) l6) ((((f 2048) * (5 : Int32)) + (3 : Int32)).toNatClampNeg) l8) ((((f 2048) * (5 : Int32)) + (4 : Int32)).toNatClampNeg) (f 2049))) gl hh v tx)) rfl ?_
        refine WP.call hP_33 hP_42 (as := [.ref 31]) (pc' := 232) (L' := [some (.ref 31), none, none, none, some (.int l4), none, none, none, none, none]) (st' := []) (w1 := Wd (va_up f 2048 ((f 2048) + (1 : Int32))) fl (va_up (va_up (va_up (va_up (va_up g 33 (upd (g 33) ((((f 2048) * (5 : Int32)) + (0 : Int32)).toNatClampNeg) l5)) 33 (upd (upd (g 33) ((((f 2048) * (5 : Int32)) + (0 : Int32)).toNatClampNeg) l5) ((((f 2048) * (5 : Int32)) + (1 : Int32)).toNatClampNeg) l9)) 33 (upd (upd (upd (g 33) ((((f 2048) * (5 : Int32)) + (0 : Int32)).toNatClampNeg) l5) ((((f 2048) * (5 : Int32)) + (1 : Int32)).toNatClampNeg) l9) ((((f 2048) * (5 : Int32)) + (2 : Int32)).toNatClampNeg) l6)) 33 (upd (upd (upd (upd (g 33) ((((f 2048) * (5 : Int32)) + (0 : Int32)).toNatClampNeg) l5) ((((f 2048) * (5 : Int32)) + (1 : Int32)).toNatClampNeg) l9) ((((f 2048) * (5 : Int32)) + (2 : Int32)).toNatClampNeg) l6) ((((f 2048) * (5 : Int32)) + (3 : Int32)).toNatClampNeg) l8)) 33 (upd (upd (upd (upd (upd (g 33) ((((f 2048) * (5 : Int32)) + (0 : Int32)).toNatClampNeg) l5) ((((f 2048) * (5 : Int32)) + (1 : Int32)).toNatClampNeg) l9) ((((f 2048) * (5 : Int32)) + (2 : Int32)).toNatClampNeg) l6) ((((f 2048) * (5 : Int32)) + (3 : Int32)).toNatClampNeg) l8) ((((f 2048) * (5 : Int32)) + (4 : Int32)).toNatClampNeg) (f 2049))) gl hh v tx) rfl ⟨Nat.le_of_ble_eq_true rfl, Nat.le_of_ble_eq_true rfl⟩ rfl ?_
        exact h25
      · have h26 := h23.2 c24
        refine WP.run hP_33 3 (c' := (212, [some (.ref 31), none, none, none, some (.int l4), some (.int l5), some (.int l6), none, some (.int l8), some (.int l9)], [.int (-1), .int (f 1990)], Wd (va_up f 2048 ((f 2048) + (1 : Int32))) fl (va_up (va_up (va_up (va_up (va_up g 33 (upd (g 33) ((((f 2048) * (5 : Int32)) + (0 : Int32)).toNatClampNeg) l5)) 33 (upd (upd (g 33) ((((f 2048) * (5 : Int32)) + (0 : Int32)).toNatClampNeg) l5) ((((f 2048) * (5 : Int32)) + (1 : Int32)).toNatClampNeg) l9)) 33 (upd (upd (upd (g 33) ((((f 2048) * (5 : Int32)) + (0 : Int32)).toNatClampNeg) l5) ((((f 2048) * (5 : Int32)) + (1 : Int32)).toNatClampNeg) l9) ((((f 2048) * (5 : Int32)) + (2 : Int32)).toNatClampNeg) l6)) 33 (upd (upd (upd (upd (g 33) ((((f 2048) * (5 : Int32)) + (0 : Int32)).toNatClampNeg) l5) ((((f 2048) * (5 : Int32)) + (1 : Int32)).toNatClampNeg) l9) ((((f 2048) * (5 : Int32)) + (2 : Int32)).toNatClampNeg) l6) ((((f 2048) * (5 : Int32)) + (3 : Int32)).toNatClampNeg) l8)) 33 (upd (upd (upd (upd (upd (g 33) ((((f 2048) * (5 : Int32)) + (0 : Int32)).toNatClampNeg) l5) ((((f 2048) * (5 : Int32)) + (1 : Int32)).toNatClampNeg) l9) ((((f 2048) * (5 : Int32)) + (2 : Int32)).toNatClampNeg) l6) ((((f 2048) * (5 : Int32)) + (3 : Int32)).toNatClampNeg) l8) ((((f 2048) * (5 : Int32)) + (4 : Int32)).toNatClampNeg) (f 2049))) gl hh v tx)) rfl ?_
        refine WP.br hP_33 (q := (f 1990) = (-1)) (t := 222) (f := 215) (L := [some (.ref 31), none, none, none, some (.int l4), some (.int l5), some (.int l6), none, some (.int l8), some (.int l9)]) (st := []) (w := Wd (va_up f 2048 ((f 2048) + (1 : Int32))) fl (va_up (va_up (va_up (va_up (va_up g 33 (upd (g 33) ((((f 2048) * (5 : Int32)) + (0 : Int32)).toNatClampNeg) l5)) 33 (upd (upd (g 33) ((((f 2048) * (5 : Int32)) + (0 : Int32)).toNatClampNeg) l5) ((((f 2048) * (5 : Int32)) + (1 : Int32)).toNatClampNeg) l9)) 33 (upd (upd (upd (g 33) ((((f 2048) * (5 : Int32)) + (0 : Int32)).toNatClampNeg) l5) ((((f 2048) * (5 : Int32)) + (1 : Int32)).toNatClampNeg) l9) ((((f 2048) * (5 : Int32)) + (2 : Int32)).toNatClampNeg) l6)) 33 (upd (upd (upd (upd (g 33) ((((f 2048) * (5 : Int32)) + (0 : Int32)).toNatClampNeg) l5) ((((f 2048) * (5 : Int32)) + (1 : Int32)).toNatClampNeg) l9) ((((f 2048) * (5 : Int32)) + (2 : Int32)).toNatClampNeg) l6) ((((f 2048) * (5 : Int32)) + (3 : Int32)).toNatClampNeg) l8)) 33 (upd (upd (upd (upd (upd (g 33) ((((f 2048) * (5 : Int32)) + (0 : Int32)).toNatClampNeg) l5) ((((f 2048) * (5 : Int32)) + (1 : Int32)).toNatClampNeg) l9) ((((f 2048) * (5 : Int32)) + (2 : Int32)).toNatClampNeg) l6) ((((f 2048) * (5 : Int32)) + (3 : Int32)).toNatClampNeg) l8) ((((f 2048) * (5 : Int32)) + (4 : Int32)).toNatClampNeg) (f 2049))) gl hh v tx) rfl (fun c27 => ?_) (fun c27 => ?_)
        · have h28 := h26.1 c27
          refine WP.run hP_33 2 (c' := (227, [none, none, none, none, none, none, none, none, none, none], [.int 1], Wd (va_up f 2048 ((f 2048) + (1 : Int32))) fl (va_up (va_up (va_up (va_up (va_up g 33 (upd (g 33) ((((f 2048) * (5 : Int32)) + (0 : Int32)).toNatClampNeg) l5)) 33 (upd (upd (g 33) ((((f 2048) * (5 : Int32)) + (0 : Int32)).toNatClampNeg) l5) ((((f 2048) * (5 : Int32)) + (1 : Int32)).toNatClampNeg) l9)) 33 (upd (upd (upd (g 33) ((((f 2048) * (5 : Int32)) + (0 : Int32)).toNatClampNeg) l5) ((((f 2048) * (5 : Int32)) + (1 : Int32)).toNatClampNeg) l9) ((((f 2048) * (5 : Int32)) + (2 : Int32)).toNatClampNeg) l6)) 33 (upd (upd (upd (upd (g 33) ((((f 2048) * (5 : Int32)) + (0 : Int32)).toNatClampNeg) l5) ((((f 2048) * (5 : Int32)) + (1 : Int32)).toNatClampNeg) l9) ((((f 2048) * (5 : Int32)) + (2 : Int32)).toNatClampNeg) l6) ((((f 2048) * (5 : Int32)) + (3 : Int32)).toNatClampNeg) l8)) 33 (upd (upd (upd (upd (upd (g 33) ((((f 2048) * (5 : Int32)) + (0 : Int32)).toNatClampNeg) l5) ((((f 2048) * (5 : Int32)) + (1 : Int32)).toNatClampNeg) l9) ((((f 2048) * (5 : Int32)) + (2 : Int32)).toNatClampNeg) l6) ((((f 2048) * (5 : Int32)) + (3 : Int32)).toNatClampNeg) l8) ((((f 2048) * (5 : Int32)) + (4 : Int32)).toNatClampNeg) (f 2049))) gl hh v tx)) rfl ?_
          exact WP.ret hP_33 (r := some (.int 1)) (w' := Wd (va_up f 2048 ((f 2048) + (1 : Int32))) fl (va_up (va_up (va_up (va_up (va_up g 33 (upd (g 33) ((((f 2048) * (5 : Int32)) + (0 : Int32)).toNatClampNeg) l5)) 33 (upd (upd (g 33) ((((f 2048) * (5 : Int32)) + (0 : Int32)).toNatClampNeg) l5) ((((f 2048) * (5 : Int32)) + (1 : Int32)).toNatClampNeg) l9)) 33 (upd (upd (upd (g 33) ((((f 2048) * (5 : Int32)) + (0 : Int32)).toNatClampNeg) l5) ((((f 2048) * (5 : Int32)) + (1 : Int32)).toNatClampNeg) l9) ((((f 2048) * (5 : Int32)) + (2 : Int32)).toNatClampNeg) l6)) 33 (upd (upd (upd (upd (g 33) ((((f 2048) * (5 : Int32)) + (0 : Int32)).toNatClampNeg) l5) ((((f 2048) * (5 : Int32)) + (1 : Int32)).toNatClampNeg) l9) ((((f 2048) * (5 : Int32)) + (2 : Int32)).toNatClampNeg) l6) ((((f 2048) * (5 : Int32)) + (3 : Int32)).toNatClampNeg) l8)) 33 (upd (upd (upd (upd (upd (g 33) ((((f 2048) * (5 : Int32)) + (0 : Int32)).toNatClampNeg) l5) ((((f 2048) * (5 : Int32)) + (1 : Int32)).toNatClampNeg) l9) ((((f 2048) * (5 : Int32)) + (2 : Int32)).toNatClampNeg) l6) ((((f 2048) * (5 : Int32)) + (3 : Int32)).toNatClampNeg) l8) ((((f 2048) * (5 : Int32)) + (4 : Int32)).toNatClampNeg) (f 2049))) gl hh v tx) rfl h28
        · have h29 := h26.2 c27
          refine WP.run hP_33 1 (c' := (216, [some (.ref 31), none, none, none, some (.int l4), some (.int l5), some (.int l6), none, some (.int l8), some (.int l9)], [.ref 31], Wd (va_up f 2048 ((f 2048) + (1 : Int32))) fl (va_up (va_up (va_up (va_up (va_up g 33 (upd (g 33) ((((f 2048) * (5 : Int32)) + (0 : Int32)).toNatClampNeg) l5)) 33 (upd (upd (g 33) ((((f 2048) * (5 : Int32)) + (0 : Int32)).toNatClampNeg) l5) ((((f 2048) * (5 : Int32)) + (1 : Int32)).toNatClampNeg) l9)) 33 (upd (upd (upd (g 33) ((((f 2048) * (5 : Int32)) + (0 : Int32)).toNatClampNeg) l5) ((((f 2048) * (5 : Int32)) + (1 : Int32)).toNatClampNeg) l9) ((((f 2048) * (5 : Int32)) + (2 : Int32)).toNatClampNeg) l6)) 33 (upd (upd (upd (upd (g 33) ((((f 2048) * (5 : Int32)) + (0 : Int32)).toNatClampNeg) l5) ((((f 2048) * (5 : Int32)) + (1 : Int32)).toNatClampNeg) l9) ((((f 2048) * (5 : Int32)) + (2 : Int32)).toNatClampNeg) l6) ((((f 2048) * (5 : Int32)) + (3 : Int32)).toNatClampNeg) l8)) 33 (upd (upd (upd (upd (upd (g 33) ((((f 2048) * (5 : Int32)) + (0 : Int32)).toNatClampNeg) l5) ((((f 2048) * (5 : Int32)) + (1 : Int32)).toNatClampNeg) l9) ((((f 2048) * (5 : Int32)) + (2 : Int32)).toNatClampNeg) l6) ((((f 2048) * (5 : Int32)) + (3 : Int32)).toNatClampNeg) l8) ((((f 2048) * (5 : Int32)) + (4 : Int32)).toNatClampNeg) (f 2049))) gl hh v tx)) rfl ?_
          refine WP.call hP_33 hP_40 (as := [.ref 31]) (pc' := 219) (L' := [some (.ref 31), none, none, none, some (.int l4), some (.int l5), some (.int l6), none, some (.int l8), some (.int l9)]) (st' := []) (w1 := Wd (va_up f 2048 ((f 2048) + (1 : Int32))) fl (va_up (va_up (va_up (va_up (va_up g 33 (upd (g 33) ((((f 2048) * (5 : Int32)) + (0 : Int32)).toNatClampNeg) l5)) 33 (upd (upd (g 33) ((((f 2048) * (5 : Int32)) + (0 : Int32)).toNatClampNeg) l5) ((((f 2048) * (5 : Int32)) + (1 : Int32)).toNatClampNeg) l9)) 33 (upd (upd (upd (g 33) ((((f 2048) * (5 : Int32)) + (0 : Int32)).toNatClampNeg) l5) ((((f 2048) * (5 : Int32)) + (1 : Int32)).toNatClampNeg) l9) ((((f 2048) * (5 : Int32)) + (2 : Int32)).toNatClampNeg) l6)) 33 (upd (upd (upd (upd (g 33) ((((f 2048) * (5 : Int32)) + (0 : Int32)).toNatClampNeg) l5) ((((f 2048) * (5 : Int32)) + (1 : Int32)).toNatClampNeg) l9) ((((f 2048) * (5 : Int32)) + (2 : Int32)).toNatClampNeg) l6) ((((f 2048) * (5 : Int32)) + (3 : Int32)).toNatClampNeg) l8)) 33 (upd (upd (upd (upd (upd (g 33) ((((f 2048) * (5 : Int32)) + (0 : Int32)).toNatClampNeg) l5) ((((f 2048) * (5 : Int32)) + (1 : Int32)).toNatClampNeg) l9) ((((f 2048) * (5 : Int32)) + (2 : Int32)).toNatClampNeg) l6) ((((f 2048) * (5 : Int32)) + (3 : Int32)).toNatClampNeg) l8) ((((f 2048) * (5 : Int32)) + (4 : Int32)).toNatClampNeg) (f 2049))) gl hh v tx) rfl ⟨Nat.le_of_ble_eq_true rfl, Nat.le_of_ble_eq_true rfl⟩ rfl ?_
          exact h29

set_option maxRecDepth 20000 in
theorem b_yre_parse_31_30_172 (X : mm_X) (d : Nat) (f : Nat → Int32) (fl : Nat → Int64) (g : Nat → Nat → Int32) (gl : Nat → Nat → Int64) (hh : Nat → Nat → Option Nat) (v : Nat → Value) (tx : mm_W) (l4 : Int32) (l5 : Int32) (l6 : Int32) (l8 : Int32) (l9 : Int32)  (P : Option Value → mm_W → Prop)
    (h : WP X (d) 36 (0, [some (.ref 31), some (.int 0), some (.int 0), none, none], [], Wd f fl g gl hh v tx) (fun rv w2 => WP X (d + 1) 33 (178, [some (.ref 31), none, none, none, some (.int l4), some (.int l5), some (.int l6), none, some (.int l8), some (.int l9)], rv.toList ++ [], w2) P)) :
    WP X (d + 1) 33 (172, [some (.ref 31), none, none, none, some (.int l4), some (.int l5), some (.int l6), none, some (.int l8), some (.int l9)], [], Wd f fl g gl hh v tx) P := by
  refine WP.run hP_33 3 (c' := (175, [some (.ref 31), none, none, none, some (.int l4), some (.int l5), some (.int l6), none, some (.int l8), some (.int l9)], [.int 0, .int 0, .ref 31], Wd f fl g gl hh v tx)) rfl ?_
  refine WP.call hP_33 hP_36 (as := [.ref 31, .int 0, .int 0]) (pc' := 178) (L' := [some (.ref 31), none, none, none, some (.int l4), some (.int l5), some (.int l6), none, some (.int l8), some (.int l9)]) (st' := []) (w1 := Wd f fl g gl hh v tx) rfl ⟨Nat.le_of_ble_eq_true rfl, Nat.le_of_ble_eq_true rfl⟩ rfl ?_
  exact h

set_option maxRecDepth 20000 in
theorem b_yre_parse_31_30_232 (X : mm_X) (d : Nat) (f : Nat → Int32) (fl : Nat → Int64) (g : Nat → Nat → Int32) (gl : Nat → Nat → Int64) (hh : Nat → Nat → Option Nat) (v : Nat → Value) (tx : mm_W) (l4 : Int32)  (P : Option Value → mm_W → Prop)
    (h : WP X (d) 33 (10, [some (.ref 31), none, none, none, some (.int (l4 + (1 : Int32))), none, none, none, none, none], [], Wd f fl g gl hh v tx) P) :
    WP X (d) 33 (232, [some (.ref 31), none, none, none, some (.int l4), none, none, none, none, none], [], Wd f fl g gl hh v tx) P := by
  refine WP.run hP_33 2 (c' := (10, [some (.ref 31), none, none, none, some (.int (l4 + (1 : Int32))), none, none, none, none, none], [], Wd f fl g gl hh v tx)) rfl ?_
  exact h

set_option maxRecDepth 20000 in
theorem b_yre_parse_31_30_219 (X : mm_X) (d : Nat) (f : Nat → Int32) (fl : Nat → Int64) (g : Nat → Nat → Int32) (gl : Nat → Nat → Int64) (hh : Nat → Nat → Option Nat) (v : Nat → Value) (tx : mm_W) (l4 : Int32) (l5 : Int32) (l6 : Int32) (l8 : Int32) (l9 : Int32) (s0 : Int32)  (P : Option Value → mm_W → Prop)
    (h : ((s0 = 0) → P (some (.int 0)) (Wd f fl g gl hh v tx)) ∧
    ((¬ s0 = 0) → P (some (.int 1)) (Wd f fl g gl hh v tx))) :
    WP X (d) 33 (219, [some (.ref 31), none, none, none, some (.int l4), some (.int l5), some (.int l6), none, some (.int l8), some (.int l9)], [.int s0], Wd f fl g gl hh v tx) P := by
  refine WP.br hP_33 (q := s0 = 0) (t := 226) (f := 222) (L := [some (.ref 31), none, none, none, some (.int l4), some (.int l5), some (.int l6), none, some (.int l8), some (.int l9)]) (st := []) (w := Wd f fl g gl hh v tx) rfl (fun c1 => ?_) (fun c1 => ?_)
  · have h2 := h.1 c1
    refine WP.run hP_33 1 (c' := (227, [none, none, none, none, none, none, none, none, none, none], [.int 0], Wd f fl g gl hh v tx)) rfl ?_
    exact WP.ret hP_33 (r := some (.int 0)) (w' := Wd f fl g gl hh v tx) rfl h2
  · have h3 := h.2 c1
    refine WP.run hP_33 2 (c' := (227, [none, none, none, none, none, none, none, none, none, none], [.int 1], Wd f fl g gl hh v tx)) rfl ?_
    exact WP.ret hP_33 (r := some (.int 1)) (w' := Wd f fl g gl hh v tx) rfl h3

set_option maxRecDepth 20000 in
theorem b_yre_parse_31_30_178 (X : mm_X) (d : Nat) (f : Nat → Int32) (fl : Nat → Int64) (g : Nat → Nat → Int32) (gl : Nat → Nat → Int64) (hh : Nat → Nat → Option Nat) (v : Nat → Value) (tx : mm_W) (l4 : Int32) (l5 : Int32) (l6 : Int32) (l8 : Int32) (l9 : Int32) (s0 : Int32)  (P : Option Value → mm_W → Prop)
    (h : ((¬ s0 = 0) → WP X (d) 33 (183, [some (.ref 31), none, none, none, some (.int l4), some (.int l5), some (.int l6), none, some (.int l8), some (.int l9)], [], Wd f fl g gl hh v tx) P) ∧
    ((s0 = 0) → P (some (.int 0)) (Wd f fl g gl hh v tx))) :
    WP X (d) 33 (178, [some (.ref 31), none, none, none, some (.int l4), some (.int l5), some (.int l6), none, some (.int l8), some (.int l9)], [.int s0], Wd f fl g gl hh v tx) P := by
  refine WP.br hP_33 (q := ¬ s0 = 0) (t := 183) (f := 181) (L := [some (.ref 31), none, none, none, some (.int l4), some (.int l5), some (.int l6), none, some (.int l8), some (.int l9)]) (st := []) (w := Wd f fl g gl hh v tx) rfl (fun c1 => ?_) (fun c1 => ?_)
  · have h2 := h.1 c1
    exact h2
  · have h3 := h.2 (Classical.not_not.mp c1)
    refine WP.run hP_33 1 (c' := (182, [some (.ref 31), none, none, none, some (.int l4), some (.int l5), some (.int l6), none, some (.int l8), some (.int l9)], [.int 0], Wd f fl g gl hh v tx)) rfl ?_
    exact WP.ret hP_33 (r := some (.int 0)) (w' := Wd f fl g gl hh v tx) rfl h3
