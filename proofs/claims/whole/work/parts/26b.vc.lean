set_option maxRecDepth 20000 in
theorem b_yte_head_32_0 (X : mm_X) (d : Nat) (f : Nat → Int32) (fl : Nat → Int64) (g : Nat → Nat → Int32) (gl : Nat → Nat → Int64) (hh : Nat → Nat → Option Nat) (v : Nat → Value) (tx : mm_W) (p0 : Int32) (p1 : Int32)  (P : Option Value → mm_W → Prop)
    (h : ((((p0 * (5 : Int32)) + p1) < 0) → P (some (.int 0)) (Wd f fl g gl hh v tx)) ∧
    ((¬ (((p0 * (5 : Int32)) + p1) < 0)) → (((60 ≤ ((p0 * (5 : Int32)) + p1)) → P (some (.int 0)) (Wd f fl g gl hh v tx)) ∧
      ((¬ (60 ≤ ((p0 * (5 : Int32)) + p1))) → ((¬ (((p0 * (5 : Int32)) + p1) < 0 ∨ 60 ≤ ((p0 * (5 : Int32)) + p1).toNatClampNeg)) ∧ P (some (.int ((g 33) ((p0 * (5 : Int32)) + p1).toNatClampNeg))) (Wd f fl g gl hh v tx)))))) :
    WP X (d) 56 (0, [some (.ref 32), some (.int p0), some (.int p1), none], [], Wd f fl g gl hh v tx) P := by
  refine WP.run hP_56 7 (c' := (7, [some (.ref 32), some (.int p0), some (.int p1), some (.int ((p0 * (5 : Int32)) + p1))], [.int ((p0 * (5 : Int32)) + p1)], Wd f fl g gl hh v tx)) rfl ?_
  refine WP.br hP_56 (q := ((p0 * (5 : Int32)) + p1) < 0) (t := 28) (f := 10) (L := [some (.ref 32), some (.int p0), some (.int p1), some (.int ((p0 * (5 : Int32)) + p1))]) (st := []) (w := Wd f fl g gl hh v tx) rfl (fun c1 => ?_) (fun c1 => ?_)
  · have h2 := h.1 c1
    refine WP.run hP_56 1 (c' := (29, [none, none, none, none], [.int 0], Wd f fl g gl hh v tx)) rfl ?_
    exact WP.retI hP_56 rfl rfl h2
  · have h3 := h.2 c1
    refine WP.run hP_56 4 (c' := (16, [some (.ref 32), some (.int p0), some (.int p1), some (.int ((p0 * (5 : Int32)) + p1))], [.int 60, .int ((p0 * (5 : Int32)) + p1)], Wd f fl g gl hh v tx)) rfl ?_
    refine WP.br hP_56 (q := 60 ≤ ((p0 * (5 : Int32)) + p1)) (t := 28) (f := 19) (L := [some (.ref 32), some (.int p0), some (.int p1), some (.int ((p0 * (5 : Int32)) + p1))]) (st := []) (w := Wd f fl g gl hh v tx) rfl (fun c4 => ?_) (fun c4 => ?_)
    · have h5 := h3.1 c4
      refine WP.run hP_56 1 (c' := (29, [none, none, none, none], [.int 0], Wd f fl g gl hh v tx)) rfl ?_
      exact WP.retI hP_56 rfl rfl h5
    · have h6 := h3.2 c4
      refine WP.run hP_56 3 (c' := (24, [some (.ref 32), some (.int p0), some (.int p1), some (.int ((p0 * (5 : Int32)) + p1))], [.int ((p0 * (5 : Int32)) + p1), .ref 33], Wd f fl g gl hh v tx)) rfl ?_
      refine WP.of (fun _ _ => Ex.iald hP_56 rfl (Wa_33 _ _ _ _ _ _ _) h6.1) ?_
      have h7 := h6.2
      refine WP.run hP_56 1 (c' := (29, [some (.ref 32), some (.int p0), some (.int p1), some (.int ((p0 * (5 : Int32)) + p1))], [.int ((g 33) ((p0 * (5 : Int32)) + p1).toNatClampNeg)], Wd f fl g gl hh v tx)) rfl ?_
      exact WP.retI hP_56 rfl rfl h7

set_option maxRecDepth 20000 in
theorem b_yte_close_32_0 (X : mm_X) (d : Nat) (f : Nat → Int32) (fl : Nat → Int64) (g : Nat → Nat → Int32) (gl : Nat → Nat → Int64) (hh : Nat → Nat → Option Nat) (v : Nat → Value) (tx : mm_W) (p0 : Int32) (p1 : Int32) (p2 : Int32) (p3 : Int32)  (P : Option Value → mm_W → Prop)
    (h : ((((f 2048) * (5 : Int32)) < 0) → P none (Wd f fl g gl hh v tx)) ∧
    ((¬ (((f 2048) * (5 : Int32)) < 0)) → (((60 < (((f 2048) * (5 : Int32)) + (5 : Int32))) → P none (Wd f fl g gl hh v tx)) ∧
      ((¬ (60 < (((f 2048) * (5 : Int32)) + (5 : Int32)))) → ((¬ ((((f 2048) * (5 : Int32)) + (0 : Int32)) < 0 ∨ 60 ≤ (((f 2048) * (5 : Int32)) + (0 : Int32)).toNatClampNeg)) ∧ ((¬ ((((f 2048) * (5 : Int32)) + (1 : Int32)) < 0 ∨ 60 ≤ (((f 2048) * (5 : Int32)) + (1 : Int32)).toNatClampNeg)) ∧ ((¬ ((((f 2048) * (5 : Int32)) + (2 : Int32)) < 0 ∨ 60 ≤ (((f 2048) * (5 : Int32)) + (2 : Int32)).toNatClampNeg)) ∧ ((¬ ((((f 2048) * (5 : Int32)) + (3 : Int32)) < 0 ∨ 60 ≤ (((f 2048) * (5 : Int32)) + (3 : Int32)).toNatClampNeg)) ∧ ((¬ ((((f 2048) * (5 : Int32)) + (4 : Int32)) < 0 ∨ 60 ≤ (((f 2048) * (5 : Int32)) + (4 : Int32)).toNatClampNeg)) ∧ P none (Wd (va_up f 2048 ((f 2048) + (1 : Int32))) fl (va_up (va_up (va_up (va_up (va_up g 33 (upd (g 33) ((((f 2048) * (5 : Int32)) + (0 : Int32)).toNatClampNeg) p0)) 33 (upd (upd (g 33) ((((f 2048) * (5 : Int32)) + (0 : Int32)).toNatClampNeg) p0) ((((f 2048) * (5 : Int32)) + (1 : Int32)).toNatClampNeg) p1)) 33 (upd (upd (upd (g 33) ((((f 2048) * (5 : Int32)) + (0 : Int32)).toNatClampNeg) p0) ((((f 2048) * (5 : Int32)) + (1 : Int32)).toNatClampNeg) p1) ((((f 2048) * (5 : Int32)) + (2 : Int32)).toNatClampNeg) p2)) 33 (upd (upd (upd (upd (g 33) ((((f 2048) * (5 : Int32)) + (0 : Int32)).toNatClampNeg) p0) ((((f 2048) * (5 : Int32)) + (1 : Int32)).toNatClampNeg) p1) ((((f 2048) * (5 : Int32)) + (2 : Int32)).toNatClampNeg) p2) ((((f 2048) * (5 : Int32)) + (3 : Int32)).toNatClampNeg) p3)) 33 (upd (upd (upd (upd (upd (g 33) ((((f 2048) * (5 : Int32)) + (0 : Int32)).toNatClampNeg) p0) ((((f 2048) * (5 : Int32)) + (1 : Int32)).toNatClampNeg) p1) ((((f 2048) * (5 : Int32)) + (2 : Int32)).toNatClampNeg) p2) ((((f 2048) * (5 : Int32)) + (3 : Int32)).toNatClampNeg) p3) ((((f 2048) * (5 : Int32)) + (4 : Int32)).toNatClampNeg) (f 2049))) gl hh v tx)))))))))) :
    WP X (d) 55 (0, [some (.ref 32), some (.int p0), some (.int p1), some (.int p2), some (.int p3), none], [], Wd f fl g gl hh v tx) P := by
  refine WP.run hP_55 6 (c' := (10, [some (.ref 32), some (.int p0), some (.int p1), some (.int p2), some (.int p3), some (.int ((f 2048) * (5 : Int32)))], [.int ((f 2048) * (5 : Int32))], Wd f fl g gl hh v tx)) rfl ?_
  refine WP.br hP_55 (q := ((f 2048) * (5 : Int32)) < 0) (t := 89) (f := 13) (L := [some (.ref 32), some (.int p0), some (.int p1), some (.int p2), some (.int p3), some (.int ((f 2048) * (5 : Int32)))]) (st := []) (w := Wd f fl g gl hh v tx) rfl (fun c1 => ?_) (fun c1 => ?_)
  · have h2 := h.1 c1
    exact WP.ret hP_55 (r := none) (w' := Wd f fl g gl hh v tx) rfl h2
  · have h3 := h.2 c1
    refine WP.run hP_55 6 (c' := (22, [some (.ref 32), some (.int p0), some (.int p1), some (.int p2), some (.int p3), some (.int ((f 2048) * (5 : Int32)))], [.int 60, .int (((f 2048) * (5 : Int32)) + (5 : Int32))], Wd f fl g gl hh v tx)) rfl ?_
    refine WP.br hP_55 (q := 60 < (((f 2048) * (5 : Int32)) + (5 : Int32))) (t := 89) (f := 25) (L := [some (.ref 32), some (.int p0), some (.int p1), some (.int p2), some (.int p3), some (.int ((f 2048) * (5 : Int32)))]) (st := []) (w := Wd f fl g gl hh v tx) rfl (fun c4 => ?_) (fun c4 => ?_)
    · have h5 := h3.1 c4
      exact WP.ret hP_55 (r := none) (w' := Wd f fl g gl hh v tx) rfl h5
    · have h6 := h3.2 c4
      refine WP.run hP_55 6 (c' := (34, [some (.ref 32), some (.int p0), some (.int p1), some (.int p2), some (.int p3), some (.int ((f 2048) * (5 : Int32)))], [.int p0, .int (((f 2048) * (5 : Int32)) + (0 : Int32)), .ref 33], Wd f fl g gl hh v tx)) rfl ?_
      refine WP.of (fun _ _ => Ex.iast hP_55 (w2 := Wd f fl (va_up g 33 (upd (g 33) ((((f 2048) * (5 : Int32)) + (0 : Int32)).toNatClampNeg) p0)) gl hh v tx) rfl (Wa_33 _ _ _ _ _ _ _) h6.1 (Ws_33 _ _ _ _ _ _ _ _)) ?_
      have h7 := h6.2
      refine WP.run hP_55 6 (c' := (44, [some (.ref 32), some (.int p0), some (.int p1), some (.int p2), some (.int p3), some (.int ((f 2048) * (5 : Int32)))], [.int p1, .int (((f 2048) * (5 : Int32)) + (1 : Int32)), .ref 33], Wd f fl (va_up g 33 (upd (g 33) ((((f 2048) * (5 : Int32)) + (0 : Int32)).toNatClampNeg) p0)) gl hh v tx)) rfl ?_
      refine WP.of (fun _ _ => Ex.iast hP_55 (w2 := Wd f fl (va_up (va_up g 33 (upd (g 33) ((((f 2048) * (5 : Int32)) + (0 : Int32)).toNatClampNeg) p0)) 33 (upd (upd (g 33) ((((f 2048) * (5 : Int32)) + (0 : Int32)).toNatClampNeg) p0) ((((f 2048) * (5 : Int32)) + (1 : Int32)).toNatClampNeg) p1)) gl hh v tx) rfl (Wa_33 _ _ _ _ _ _ _) h7.1 (Ws_33 _ _ _ _ _ _ _ _)) ?_
      have h8 := h7.2
      refine WP.run hP_55 6 (c' := (54, [some (.ref 32), some (.int p0), some (.int p1), some (.int p2), some (.int p3), some (.int ((f 2048) * (5 : Int32)))], [.int p2, .int (((f 2048) * (5 : Int32)) + (2 : Int32)), .ref 33], Wd f fl (va_up (va_up g 33 (upd (g 33) ((((f 2048) * (5 : Int32)) + (0 : Int32)).toNatClampNeg) p0)) 33 (upd (upd (g 33) ((((f 2048) * (5 : Int32)) + (0 : Int32)).toNatClampNeg) p0) ((((f 2048) * (5 : Int32)) + (1 : Int32)).toNatClampNeg) p1)) gl hh v tx)) rfl ?_
      refine WP.of (fun _ _ => Ex.iast hP_55 (w2 := Wd f fl (va_up (va_up (va_up g 33 (upd (g 33) ((((f 2048) * (5 : Int32)) + (0 : Int32)).toNatClampNeg) p0)) 33 (upd (upd (g 33) ((((f 2048) * (5 : Int32)) + (0 : Int32)).toNatClampNeg) p0) ((((f 2048) * (5 : Int32)) + (1 : Int32)).toNatClampNeg) p1)) 33 (upd (upd (upd (g 33) ((((f 2048) * (5 : Int32)) + (0 : Int32)).toNatClampNeg) p0) ((((f 2048) * (5 : Int32)) + (1 : Int32)).toNatClampNeg) p1) ((((f 2048) * (5 : Int32)) + (2 : Int32)).toNatClampNeg) p2)) gl hh v tx) rfl (Wa_33 _ _ _ _ _ _ _) h8.1 (Ws_33 _ _ _ _ _ _ _ _)) ?_
      have h9 := h8.2
      refine WP.run hP_55 6 (c' := (65, [some (.ref 32), some (.int p0), some (.int p1), some (.int p2), some (.int p3), some (.int ((f 2048) * (5 : Int32)))], [.int p3, .int (((f 2048) * (5 : Int32)) + (3 : Int32)), .ref 33], Wd f fl (va_up (va_up (va_up g 33 (upd (g 33) ((((f 2048) * (5 : Int32)) + (0 : Int32)).toNatClampNeg) p0)) 33 (upd (upd (g 33) ((((f 2048) * (5 : Int32)) + (0 : Int32)).toNatClampNeg) p0) ((((f 2048) * (5 : Int32)) + (1 : Int32)).toNatClampNeg) p1)) 33 (upd (upd (upd (g 33) ((((f 2048) * (5 : Int32)) + (0 : Int32)).toNatClampNeg) p0) ((((f 2048) * (5 : Int32)) + (1 : Int32)).toNatClampNeg) p1) ((((f 2048) * (5 : Int32)) + (2 : Int32)).toNatClampNeg) p2)) gl hh v tx)) rfl ?_
      refine WP.of (fun _ _ => Ex.iast hP_55 (w2 := Wd f fl (va_up (va_up (va_up (va_up g 33 (upd (g 33) ((((f 2048) * (5 : Int32)) + (0 : Int32)).toNatClampNeg) p0)) 33 (upd (upd (g 33) ((((f 2048) * (5 : Int32)) + (0 : Int32)).toNatClampNeg) p0) ((((f 2048) * (5 : Int32)) + (1 : Int32)).toNatClampNeg) p1)) 33 (upd (upd (upd (g 33) ((((f 2048) * (5 : Int32)) + (0 : Int32)).toNatClampNeg) p0) ((((f 2048) * (5 : Int32)) + (1 : Int32)).toNatClampNeg) p1) ((((f 2048) * (5 : Int32)) + (2 : Int32)).toNatClampNeg) p2)) 33 (upd (upd (upd (upd (g 33) ((((f 2048) * (5 : Int32)) + (0 : Int32)).toNatClampNeg) p0) ((((f 2048) * (5 : Int32)) + (1 : Int32)).toNatClampNeg) p1) ((((f 2048) * (5 : Int32)) + (2 : Int32)).toNatClampNeg) p2) ((((f 2048) * (5 : Int32)) + (3 : Int32)).toNatClampNeg) p3)) gl hh v tx) rfl (Wa_33 _ _ _ _ _ _ _) h9.1 (Ws_33 _ _ _ _ _ _ _ _)) ?_
      have h10 := h9.2
      refine WP.run hP_55 7 (c' := (78, [some (.ref 32), some (.int p0), some (.int p1), some (.int p2), some (.int p3), some (.int ((f 2048) * (5 : Int32)))], [.int (f 2049), .int (((f 2048) * (5 : Int32)) + (4 : Int32)), .ref 33], Wd f fl (va_up (va_up (va_up (va_up g 33 (upd (g 33) ((((f 2048) * (5 : Int32)) + (0 : Int32)).toNatClampNeg) p0)) 33 (upd (upd (g 33) ((((f 2048) * (5 : Int32)) + (0 : Int32)).toNatClampNeg) p0) ((((f 2048) * (5 : Int32)) + (1 : Int32)).toNatClampNeg) p1)) 33 (upd (upd (upd (g 33) ((((f 2048) * (5 : Int32)) + (0 : Int32)).toNatClampNeg) p0) ((((f 2048) * (5 : Int32)) + (1 : Int32)).toNatClampNeg) p1) ((((f 2048) * (5 : Int32)) + (2 : Int32)).toNatClampNeg) p2)) 33 (upd (upd (upd (upd (g 33) ((((f 2048) * (5 : Int32)) + (0 : Int32)).toNatClampNeg) p0) ((((f 2048) * (5 : Int32)) + (1 : Int32)).toNatClampNeg) p1) ((((f 2048) * (5 : Int32)) + (2 : Int32)).toNatClampNeg) p2) ((((f 2048) * (5 : Int32)) + (3 : Int32)).toNatClampNeg) p3)) gl hh v tx)) rfl ?_
      refine WP.of (fun _ _ => Ex.iast hP_55 (w2 := Wd f fl (va_up (va_up (va_up (va_up (va_up g 33 (upd (g 33) ((((f 2048) * (5 : Int32)) + (0 : Int32)).toNatClampNeg) p0)) 33 (upd (upd (g 33) ((((f 2048) * (5 : Int32)) + (0 : Int32)).toNatClampNeg) p0) ((((f 2048) * (5 : Int32)) + (1 : Int32)).toNatClampNeg) p1)) 33 (upd (upd (upd (g 33) ((((f 2048) * (5 : Int32)) + (0 : Int32)).toNatClampNeg) p0) ((((f 2048) * (5 : Int32)) + (1 : Int32)).toNatClampNeg) p1) ((((f 2048) * (5 : Int32)) + (2 : Int32)).toNatClampNeg) p2)) 33 (upd (upd (upd (upd (g 33) ((((f 2048) * (5 : Int32)) + (0 : Int32)).toNatClampNeg) p0) ((((f 2048) * (5 : Int32)) + (1 : Int32)).toNatClampNeg) p1) ((((f 2048) * (5 : Int32)) + (2 : Int32)).toNatClampNeg) p2) ((((f 2048) * (5 : Int32)) + (3 : Int32)).toNatClampNeg) p3)) 33 (upd (upd (upd (upd (upd (g 33) ((((f 2048) * (5 : Int32)) + (0 : Int32)).toNatClampNeg) p0) ((((f 2048) * (5 : Int32)) + (1 : Int32)).toNatClampNeg) p1) ((((f 2048) * (5 : Int32)) + (2 : Int32)).toNatClampNeg) p2) ((((f 2048) * (5 : Int32)) + (3 : Int32)).toNatClampNeg) p3) ((((f 2048) * (5 : Int32)) + (4 : Int32)).toNatClampNeg) (f 2049))) gl hh v tx) rfl (Wa_33 _ _ _ _ _ _ _) h10.1 (Ws_33 _ _ _ _ _ _ _ _)) ?_
      have h11 := h10.2
      refine WP.run hP_55 6 (c' := (89, [some (.ref 32), some (.int p0), some (.int p1), some (.int p2), some (.int p3), some (.int ((f 2048) * (5 : Int32)))], [], Wd (va_up f 2048 ((f 2048) + (1 : Int32))) fl (va_up (va_up (va_up (va_up (va_up g 33 (upd (g 33) ((((f 2048) * (5 : Int32)) + (0 : Int32)).toNatClampNeg) p0)) 33 (upd (upd (g 33) ((((f 2048) * (5 : Int32)) + (0 : Int32)).toNatClampNeg) p0) ((((f 2048) * (5 : Int32)) + (1 : Int32)).toNatClampNeg) p1)) 33 (upd (upd (upd (g 33) ((((f 2048) * (5 : Int32)) + (0 : Int32)).toNatClampNeg) p0) ((((f 2048) * (5 : Int32)) + (1 : Int32)).toNatClampNeg) p1) ((((f 2048) * (5 : Int32)) + (2 : Int32)).toNatClampNeg) p2)) 33 (upd (upd (upd (upd (g 33) ((((f 2048) * (5 : Int32)) + (0 : Int32)).toNatClampNeg) p0) ((((f 2048) * (5 : Int32)) + (1 : Int32)).toNatClampNeg) p1) ((((f 2048) * (5 : Int32)) + (2 : Int32)).toNatClampNeg) p2) ((((f 2048) * (5 : Int32)) + (3 : Int32)).toNatClampNeg) p3)) 33 (upd (upd (upd (upd (upd (g 33) ((((f 2048) * (5 : Int32)) + (0 : Int32)).toNatClampNeg) p0) ((((f 2048) * (5 : Int32)) + (1 : Int32)).toNatClampNeg) p1) ((((f 2048) * (5 : Int32)) + (2 : Int32)).toNatClampNeg) p2) ((((f 2048) * (5 : Int32)) + (3 : Int32)).toNatClampNeg) p3) ((((f 2048) * (5 : Int32)) + (4 : Int32)).toNatClampNeg) (f 2049))) gl hh v tx)) rfl ?_
      exact WP.ret hP_55 (r := none) (w' := Wd (va_up f 2048 ((f 2048) + (1 : Int32))) fl (va_up (va_up (va_up (va_up (va_up g 33 (upd (g 33) ((((f 2048) * (5 : Int32)) + (0 : Int32)).toNatClampNeg) p0)) 33 (upd (upd (g 33) ((((f 2048) * (5 : Int32)) + (0 : Int32)).toNatClampNeg) p0) ((((f 2048) * (5 : Int32)) + (1 : Int32)).toNatClampNeg) p1)) 33 (upd (upd (upd (g 33) ((((f 2048) * (5 : Int32)) + (0 : Int32)).toNatClampNeg) p0) ((((f 2048) * (5 : Int32)) + (1 : Int32)).toNatClampNeg) p1) ((((f 2048) * (5 : Int32)) + (2 : Int32)).toNatClampNeg) p2)) 33 (upd (upd (upd (upd (g 33) ((((f 2048) * (5 : Int32)) + (0 : Int32)).toNatClampNeg) p0) ((((f 2048) * (5 : Int32)) + (1 : Int32)).toNatClampNeg) p1) ((((f 2048) * (5 : Int32)) + (2 : Int32)).toNatClampNeg) p2) ((((f 2048) * (5 : Int32)) + (3 : Int32)).toNatClampNeg) p3)) 33 (upd (upd (upd (upd (upd (g 33) ((((f 2048) * (5 : Int32)) + (0 : Int32)).toNatClampNeg) p0) ((((f 2048) * (5 : Int32)) + (1 : Int32)).toNatClampNeg) p1) ((((f 2048) * (5 : Int32)) + (2 : Int32)).toNatClampNeg) p2) ((((f 2048) * (5 : Int32)) + (3 : Int32)).toNatClampNeg) p3) ((((f 2048) * (5 : Int32)) + (4 : Int32)).toNatClampNeg) (f 2049))) gl hh v tx) rfl h11

set_option maxRecDepth 20000 in
theorem b_yma_combined_0 (X : mm_X) (d : Nat) (f : Nat → Int32) (fl : Nat → Int64) (g : Nat → Nat → Int32) (gl : Nat → Nat → Int64) (hh : Nat → Nat → Option Nat) (v : Nat → Value) (tx : mm_W) (p0 : Int32) (p1 : Int64) (p2 : Int64)  (P : Option Value → mm_W → Prop)
    (h : ((p0 = 2) → P (some (.long (p1 + p2))) (Wd f fl g gl hh v tx)) ∧
    ((¬ p0 = 2) → (((p0 = 3) → P (some (.long (p1 - p2))) (Wd f fl g gl hh v tx)) ∧
      ((¬ p0 = 3) → (((p0 = 4) → P (some (.long (p1 * p2))) (Wd f fl g gl hh v tx)) ∧
        ((¬ p0 = 4) → (((p0 = 5) → (((¬ (lg_cmp p2 0) = 0) → ((¬ p2 = 0) ∧ P (some (.long (p1 / p2))) (Wd f fl g gl hh v tx))) ∧
            (((lg_cmp p2 0) = 0) → P (some (.long (-9223372036854775808))) (Wd f fl g gl hh v tx)))) ∧
          ((¬ p0 = 5) → (((p0 = 6) → (((¬ (lg_cmp p2 0) = 0) → ((¬ p2 = 0) ∧ P (some (.long (p1 - (p1 / p2) * p2))) (Wd f fl g gl hh v tx))) ∧
              (((lg_cmp p2 0) = 0) → P (some (.long (-9223372036854775808))) (Wd f fl g gl hh v tx)))) ∧
            ((¬ p0 = 6) → (((p0 = 7) → (((0 ≤ (lg_cmp p1 p2)) → P (some (.long 0)) (Wd f fl g gl hh v tx)) ∧
                ((¬ (0 ≤ (lg_cmp p1 p2))) → P (some (.long 1)) (Wd f fl g gl hh v tx)))) ∧
              ((¬ p0 = 7) → (((p0 = 8) → ((((lg_cmp p1 p2) ≤ 0) → P (some (.long 0)) (Wd f fl g gl hh v tx)) ∧
                  ((¬ ((lg_cmp p1 p2) ≤ 0)) → P (some (.long 1)) (Wd f fl g gl hh v tx)))) ∧
                ((¬ p0 = 8) → (((¬ (lg_cmp p1 p2) = 0) → P (some (.long 0)) (Wd f fl g gl hh v tx)) ∧
                  (((lg_cmp p1 p2) = 0) → P (some (.long 1)) (Wd f fl g gl hh v tx))))))))))))))))) :
    WP X (d) 31 (0, [some (.int p0), some (.long p1), none, some (.long p2), none], [], Wd f fl g gl hh v tx) P := by
  refine WP.run hP_31 1 (c' := (1, [some (.int p0), some (.long p1), none, some (.long p2), none], [.int p0], Wd f fl g gl hh v tx)) rfl ?_
  refine WP.run hP_31 1 (c' := (mm_sw p0 2 [44, 48, 52, 56, 72, 88, 100] 112, [some (.int p0), some (.long p1), none, some (.long p2), none], [], Wd f fl g gl hh v tx)) rfl ?_
  refine WP.sw (lo' := 3) rfl (fun c1 => ?_) (fun c1 => ?_)
  · have h2 := h.1 c1
    refine WP.run hP_31 3 (c' := (47, [none, some (.long p1), none, some (.long p2), none], [.long (p1 + p2)], Wd f fl g gl hh v tx)) rfl ?_
    exact WP.ret hP_31 (r := some (.long (p1 + p2))) (w' := Wd f fl g gl hh v tx) rfl h2
  · have h3 := h.2 c1
    refine WP.sw (lo' := 4) rfl (fun c4 => ?_) (fun c4 => ?_)
    · have h5 := h3.1 c4
      refine WP.run hP_31 3 (c' := (51, [none, some (.long p1), none, some (.long p2), none], [.long (p1 - p2)], Wd f fl g gl hh v tx)) rfl ?_
      exact WP.ret hP_31 (r := some (.long (p1 - p2))) (w' := Wd f fl g gl hh v tx) rfl h5
    · have h6 := h3.2 c4
      refine WP.sw (lo' := 5) rfl (fun c7 => ?_) (fun c7 => ?_)
      · have h8 := h6.1 c7
        refine WP.run hP_31 3 (c' := (55, [none, some (.long p1), none, some (.long p2), none], [.long (p1 * p2)], Wd f fl g gl hh v tx)) rfl ?_
        exact WP.ret hP_31 (r := some (.long (p1 * p2))) (w' := Wd f fl g gl hh v tx) rfl h8
      · have h9 := h6.2 c7
        refine WP.sw (lo' := 6) rfl (fun c10 => ?_) (fun c10 => ?_)
        · have h11 := h9.1 c10
          refine WP.run hP_31 3 (c' := (59, [none, some (.long p1), none, some (.long p2), none], [.int (lg_cmp p2 0)], Wd f fl g gl hh v tx)) rfl ?_
          refine WP.br hP_31 (q := ¬ (lg_cmp p2 0) = 0) (t := 68) (f := 62) (L := [none, some (.long p1), none, some (.long p2), none]) (st := []) (w := Wd f fl g gl hh v tx) rfl (fun c12 => ?_) (fun c12 => ?_)
          · have h13 := h11.1 c12
            refine WP.run hP_31 2 (c' := (70, [none, some (.long p1), none, some (.long p2), none], [.long p2, .long p1], Wd f fl g gl hh v tx)) rfl ?_
            refine WP.of (fun _ _ => Ex.ldiv hP_31 rfl h13.1) ?_
            have h14 := h13.2
            exact WP.ret hP_31 (r := some (.long (p1 / p2))) (w' := Wd f fl g gl hh v tx) rfl h14
          · have h15 := h11.2 (Classical.not_not.mp c12)
            refine WP.run hP_31 2 (c' := (71, [none, some (.long p1), none, some (.long p2), none], [.long (-9223372036854775808)], Wd f fl g gl hh v tx)) rfl ?_
            exact WP.ret hP_31 (r := some (.long (-9223372036854775808))) (w' := Wd f fl g gl hh v tx) rfl h15
        · have h16 := h9.2 c10
          refine WP.sw (lo' := 7) rfl (fun c17 => ?_) (fun c17 => ?_)
          · have h18 := h16.1 c17
            refine WP.run hP_31 3 (c' := (75, [none, some (.long p1), none, some (.long p2), none], [.int (lg_cmp p2 0)], Wd f fl g gl hh v tx)) rfl ?_
            refine WP.br hP_31 (q := ¬ (lg_cmp p2 0) = 0) (t := 84) (f := 78) (L := [none, some (.long p1), none, some (.long p2), none]) (st := []) (w := Wd f fl g gl hh v tx) rfl (fun c19 => ?_) (fun c19 => ?_)
            · have h20 := h18.1 c19
              refine WP.run hP_31 2 (c' := (86, [none, some (.long p1), none, some (.long p2), none], [.long p2, .long p1], Wd f fl g gl hh v tx)) rfl ?_
              refine WP.of (fun _ _ => Ex.lrem hP_31 rfl h20.1) ?_
              have h21 := h20.2
              exact WP.ret hP_31 (r := some (.long (p1 - (p1 / p2) * p2))) (w' := Wd f fl g gl hh v tx) rfl h21
            · have h22 := h18.2 (Classical.not_not.mp c19)
              refine WP.run hP_31 2 (c' := (87, [none, some (.long p1), none, some (.long p2), none], [.long (-9223372036854775808)], Wd f fl g gl hh v tx)) rfl ?_
              exact WP.ret hP_31 (r := some (.long (-9223372036854775808))) (w' := Wd f fl g gl hh v tx) rfl h22
          · have h23 := h16.2 c17
            refine WP.sw (lo' := 8) rfl (fun c24 => ?_) (fun c24 => ?_)
            · have h25 := h23.1 c24
              refine WP.run hP_31 3 (c' := (91, [none, some (.long p1), none, some (.long p2), none], [.int (lg_cmp p1 p2)], Wd f fl g gl hh v tx)) rfl ?_
              refine WP.br hP_31 (q := 0 ≤ (lg_cmp p1 p2)) (t := 98) (f := 94) (L := [none, some (.long p1), none, some (.long p2), none]) (st := []) (w := Wd f fl g gl hh v tx) rfl (fun c26 => ?_) (fun c26 => ?_)
              · have h27 := h25.1 c26
                refine WP.run hP_31 1 (c' := (99, [none, none, none, none, none], [.long 0], Wd f fl g gl hh v tx)) rfl ?_
                exact WP.ret hP_31 (r := some (.long 0)) (w' := Wd f fl g gl hh v tx) rfl h27
              · have h28 := h25.2 c26
                refine WP.run hP_31 2 (c' := (99, [none, some (.long p1), none, some (.long p2), none], [.long 1], Wd f fl g gl hh v tx)) rfl ?_
                exact WP.ret hP_31 (r := some (.long 1)) (w' := Wd f fl g gl hh v tx) rfl h28
            · have h29 := h23.2 c24
              refine WP.sw (lo' := 9) rfl (fun c30 => ?_) (fun c30 => ?_)
              · have h31 := h29.1 c30
                refine WP.run hP_31 3 (c' := (103, [none, some (.long p1), none, some (.long p2), none], [.int (lg_cmp p1 p2)], Wd f fl g gl hh v tx)) rfl ?_
                refine WP.br hP_31 (q := (lg_cmp p1 p2) ≤ 0) (t := 110) (f := 106) (L := [none, some (.long p1), none, some (.long p2), none]) (st := []) (w := Wd f fl g gl hh v tx) rfl (fun c32 => ?_) (fun c32 => ?_)
                · have h33 := h31.1 c32
                  refine WP.run hP_31 1 (c' := (111, [none, none, none, none, none], [.long 0], Wd f fl g gl hh v tx)) rfl ?_
                  exact WP.ret hP_31 (r := some (.long 0)) (w' := Wd f fl g gl hh v tx) rfl h33
                · have h34 := h31.2 c32
                  refine WP.run hP_31 2 (c' := (111, [none, some (.long p1), none, some (.long p2), none], [.long 1], Wd f fl g gl hh v tx)) rfl ?_
                  exact WP.ret hP_31 (r := some (.long 1)) (w' := Wd f fl g gl hh v tx) rfl h34
              · have h35 := h29.2 c30
                show WP X _ 31 (112, [some (.int p0), some (.long p1), none, some (.long p2), none], [], Wd f fl g gl hh v tx) P
                refine WP.run hP_31 3 (c' := (115, [none, some (.long p1), none, some (.long p2), none], [.int (lg_cmp p1 p2)], Wd f fl g gl hh v tx)) rfl ?_
                refine WP.br hP_31 (q := ¬ (lg_cmp p1 p2) = 0) (t := 122) (f := 118) (L := [none, some (.long p1), none, some (.long p2), none]) (st := []) (w := Wd f fl g gl hh v tx) rfl (fun c36 => ?_) (fun c36 => ?_)
                · have h37 := h35.1 c36
                  refine WP.run hP_31 1 (c' := (123, [none, none, none, none, none], [.long 0], Wd f fl g gl hh v tx)) rfl ?_
                  exact WP.ret hP_31 (r := some (.long 0)) (w' := Wd f fl g gl hh v tx) rfl h37
                · have h38 := h35.2 (Classical.not_not.mp c36)
                  refine WP.run hP_31 2 (c' := (123, [none, some (.long p1), none, some (.long p2), none], [.long 1], Wd f fl g gl hh v tx)) rfl ?_
                  exact WP.ret hP_31 (r := some (.long 1)) (w' := Wd f fl g gl hh v tx) rfl h38

set_option maxRecDepth 20000 in
theorem b_yma_value_35_32_37_0 (X : mm_X) (d : Nat) (f : Nat → Int32) (fl : Nat → Int64) (g : Nat → Nat → Int32) (gl : Nat → Nat → Int64) (hh : Nat → Nat → Option Nat) (v : Nat → Value) (tx : mm_W) (p0 : Int32) (p1 : Int32)  (P : Option Value → mm_W → Prop)
    (h : ((((p0 * (5 : Int32)) + p1) < 0) → (((((p0 * (5 : Int32)) + (p1 + (1 : Int32))) < 0) → P (some (.long 1)) (Wd f fl g gl hh v tx)) ∧
      ((¬ (((p0 * (5 : Int32)) + (p1 + (1 : Int32))) < 0)) → (((60 ≤ ((p0 * (5 : Int32)) + (p1 + (1 : Int32)))) → P (some (.long 1)) (Wd f fl g gl hh v tx)) ∧
        ((¬ (60 ≤ ((p0 * (5 : Int32)) + (p1 + (1 : Int32))))) → ((¬ (((p0 * (5 : Int32)) + (p1 + (1 : Int32))) < 0 ∨ 60 ≤ ((p0 * (5 : Int32)) + (p1 + (1 : Int32))).toNatClampNeg)) ∧ (((0 < (if 400 < ((g 33) ((p0 * (5 : Int32)) + (p1 + (1 : Int32))).toNatClampNeg) then 400 else ((g 33) ((p0 * (5 : Int32)) + (p1 + (1 : Int32))).toNatClampNeg))) → WP X (d + 1) 30 (47, [some (.ref 35), some (.ref 32), none, none, some (.ref 37), none, some (.int (if 400 < ((g 33) ((p0 * (5 : Int32)) + (p1 + (1 : Int32))).toNatClampNeg) then 400 else ((g 33) ((p0 * (5 : Int32)) + (p1 + (1 : Int32))).toNatClampNeg))), some (.int 0), some (.int 0), none, none, none, none], [], Wd f fl g gl hh v tx) P) ∧
          ((¬ (0 < (if 400 < ((g 33) ((p0 * (5 : Int32)) + (p1 + (1 : Int32))).toNatClampNeg) then 400 else ((g 33) ((p0 * (5 : Int32)) + (p1 + (1 : Int32))).toNatClampNeg)))) → P (some (.long 1)) (Wd f fl g gl hh v tx))))))))) ∧
    ((¬ (((p0 * (5 : Int32)) + p1) < 0)) → (((60 ≤ ((p0 * (5 : Int32)) + p1)) → (((((p0 * (5 : Int32)) + (p1 + (1 : Int32))) < 0) → P (some (.long 1)) (Wd f fl g gl hh v tx)) ∧
        ((¬ (((p0 * (5 : Int32)) + (p1 + (1 : Int32))) < 0)) → (((60 ≤ ((p0 * (5 : Int32)) + (p1 + (1 : Int32)))) → P (some (.long 1)) (Wd f fl g gl hh v tx)) ∧
          ((¬ (60 ≤ ((p0 * (5 : Int32)) + (p1 + (1 : Int32))))) → ((¬ (((p0 * (5 : Int32)) + (p1 + (1 : Int32))) < 0 ∨ 60 ≤ ((p0 * (5 : Int32)) + (p1 + (1 : Int32))).toNatClampNeg)) ∧ (((0 < (if 400 < ((g 33) ((p0 * (5 : Int32)) + (p1 + (1 : Int32))).toNatClampNeg) then 400 else ((g 33) ((p0 * (5 : Int32)) + (p1 + (1 : Int32))).toNatClampNeg))) → WP X (d + 1) 30 (47, [some (.ref 35), some (.ref 32), none, none, some (.ref 37), none, some (.int (if 400 < ((g 33) ((p0 * (5 : Int32)) + (p1 + (1 : Int32))).toNatClampNeg) then 400 else ((g 33) ((p0 * (5 : Int32)) + (p1 + (1 : Int32))).toNatClampNeg))), some (.int 0), some (.int 0), none, none, none, none], [], Wd f fl g gl hh v tx) P) ∧
            ((¬ (0 < (if 400 < ((g 33) ((p0 * (5 : Int32)) + (p1 + (1 : Int32))).toNatClampNeg) then 400 else ((g 33) ((p0 * (5 : Int32)) + (p1 + (1 : Int32))).toNatClampNeg)))) → P (some (.long 1)) (Wd f fl g gl hh v tx))))))))) ∧
      ((¬ (60 ≤ ((p0 * (5 : Int32)) + p1))) → ((¬ (((p0 * (5 : Int32)) + p1) < 0 ∨ 60 ≤ ((p0 * (5 : Int32)) + p1).toNatClampNeg)) ∧ (((((p0 * (5 : Int32)) + (p1 + (1 : Int32))) < 0) → (((((g 33) ((p0 * (5 : Int32)) + p1).toNatClampNeg) < 0) → P (some (.long 1)) (Wd f fl g gl hh v tx)) ∧
          ((¬ (((g 33) ((p0 * (5 : Int32)) + p1).toNatClampNeg) < 0)) → (((((g 33) ((p0 * (5 : Int32)) + p1).toNatClampNeg) < 0) → WP X (d + 1) 30 (47, [some (.ref 35), some (.ref 32), none, none, some (.ref 37), none, some (.int 0), some (.int 0), some (.int ((g 33) ((p0 * (5 : Int32)) + p1).toNatClampNeg)), none, none, none, none], [], Wd f fl g gl hh v tx) P) ∧
            ((¬ (((g 33) ((p0 * (5 : Int32)) + p1).toNatClampNeg) < 0)) → P (some (.long 1)) (Wd f fl g gl hh v tx)))))) ∧
        ((¬ (((p0 * (5 : Int32)) + (p1 + (1 : Int32))) < 0)) → (((60 ≤ ((p0 * (5 : Int32)) + (p1 + (1 : Int32)))) → (((((g 33) ((p0 * (5 : Int32)) + p1).toNatClampNeg) < 0) → P (some (.long 1)) (Wd f fl g gl hh v tx)) ∧
            ((¬ (((g 33) ((p0 * (5 : Int32)) + p1).toNatClampNeg) < 0)) → (((((g 33) ((p0 * (5 : Int32)) + p1).toNatClampNeg) < 0) → WP X (d + 1) 30 (47, [some (.ref 35), some (.ref 32), none, none, some (.ref 37), none, some (.int 0), some (.int 0), some (.int ((g 33) ((p0 * (5 : Int32)) + p1).toNatClampNeg)), none, none, none, none], [], Wd f fl g gl hh v tx) P) ∧
              ((¬ (((g 33) ((p0 * (5 : Int32)) + p1).toNatClampNeg) < 0)) → P (some (.long 1)) (Wd f fl g gl hh v tx)))))) ∧
          ((¬ (60 ≤ ((p0 * (5 : Int32)) + (p1 + (1 : Int32))))) → ((¬ (((p0 * (5 : Int32)) + (p1 + (1 : Int32))) < 0 ∨ 60 ≤ ((p0 * (5 : Int32)) + (p1 + (1 : Int32))).toNatClampNeg)) ∧ (((((g 33) ((p0 * (5 : Int32)) + p1).toNatClampNeg) < 0) → P (some (.long 1)) (Wd f fl g gl hh v tx)) ∧
            ((¬ (((g 33) ((p0 * (5 : Int32)) + p1).toNatClampNeg) < 0)) → (((((g 33) ((p0 * (5 : Int32)) + p1).toNatClampNeg) < (if 400 < ((g 33) ((p0 * (5 : Int32)) + (p1 + (1 : Int32))).toNatClampNeg) then 400 else ((g 33) ((p0 * (5 : Int32)) + (p1 + (1 : Int32))).toNatClampNeg))) → WP X (d + 1) 30 (47, [some (.ref 35), some (.ref 32), none, none, some (.ref 37), none, some (.int (if 400 < ((g 33) ((p0 * (5 : Int32)) + (p1 + (1 : Int32))).toNatClampNeg) then 400 else ((g 33) ((p0 * (5 : Int32)) + (p1 + (1 : Int32))).toNatClampNeg))), some (.int 0), some (.int ((g 33) ((p0 * (5 : Int32)) + p1).toNatClampNeg)), none, none, none, none], [], Wd f fl g gl hh v tx) P) ∧
              ((¬ (((g 33) ((p0 * (5 : Int32)) + p1).toNatClampNeg) < (if 400 < ((g 33) ((p0 * (5 : Int32)) + (p1 + (1 : Int32))).toNatClampNeg) then 400 else ((g 33) ((p0 * (5 : Int32)) + (p1 + (1 : Int32))).toNatClampNeg)))) → P (some (.long 1)) (Wd f fl g gl hh v tx))))))))))))))) :
    WP X (d + 1) 30 (0, [some (.ref 35), some (.ref 32), some (.int p0), some (.int p1), some (.ref 37), none, none, none, none, none, none, none, none], [], Wd f fl g gl hh v tx) P := by
  refine WP.run hP_30 3 (c' := (3, [some (.ref 35), some (.ref 32), some (.int p0), some (.int p1), some (.ref 37), none, none, none, none, none, none, none, none], [.int p1, .int p0, .ref 32], Wd f fl g gl hh v tx)) rfl ?_
  refine WP.call hP_30 hP_56 (as := [.ref 32, .int p0, .int p1]) (pc' := 6) (L' := [some (.ref 35), some (.ref 32), some (.int p0), some (.int p1), some (.ref 37), none, none, none, none, none, none, none, none]) (st' := []) (w1 := Wd f fl g gl hh v tx) rfl ⟨Nat.le_of_ble_eq_true rfl, Nat.le_of_ble_eq_true rfl⟩ rfl (b_yte_head_32_0 X (d) f fl g gl hh v tx p0 p1 _ ?_)
  refine ⟨fun c1 => ?_, fun c1 => ?_⟩
  · have h2 := h.1 c1
    refine WP.run hP_30 6 (c' := (13, [some (.ref 35), some (.ref 32), some (.int p0), some (.int p1), some (.ref 37), some (.int 0), none, none, none, none, none, none, none], [.int (p1 + (1 : Int32)), .int p0, .ref 32], Wd f fl g gl hh v tx)) rfl ?_
    refine WP.call hP_30 hP_56 (as := [.ref 32, .int p0, .int (p1 + (1 : Int32))]) (pc' := 16) (L' := [some (.ref 35), some (.ref 32), some (.int p0), some (.int p1), some (.ref 37), some (.int 0), none, none, none, none, none, none, none]) (st' := []) (w1 := Wd f fl g gl hh v tx) rfl ⟨Nat.le_of_ble_eq_true rfl, Nat.le_of_ble_eq_true rfl⟩ rfl (b_yte_head_32_0 X (d) f fl g gl hh v tx p0 (p1 + (1 : Int32)) _ ?_)
    refine ⟨fun c3 => ?_, fun c3 => ?_⟩
    · have h4 := h2.1 c3
      refine WP.run hP_30 10 (c' := (38, [some (.ref 35), some (.ref 32), some (.int p0), some (.int p1), some (.ref 37), some (.int 0), some (.int 0), none, none, none, none, none, none], [], Wd f fl g gl hh v tx)) rfl ?_
      refine WP.run hP_30 1 (c' := (39, [none, none, none, none, none, none, none, none, none, none, none, none, none], [.long 1], Wd f fl g gl hh v tx)) rfl ?_
      exact WP.ret hP_30 (r := some (.long 1)) (w' := Wd f fl g gl hh v tx) rfl h4
    · have h5 := h2.2 c3
      refine ⟨fun c6 => ?_, fun c6 => ?_⟩
      · have h7 := h5.1 c6
        refine WP.run hP_30 10 (c' := (38, [some (.ref 35), some (.ref 32), some (.int p0), some (.int p1), some (.ref 37), some (.int 0), some (.int 0), none, none, none, none, none, none], [], Wd f fl g gl hh v tx)) rfl ?_
        refine WP.run hP_30 1 (c' := (39, [none, none, none, none, none, none, none, none, none, none, none, none, none], [.long 1], Wd f fl g gl hh v tx)) rfl ?_
        exact WP.ret hP_30 (r := some (.long 1)) (w' := Wd f fl g gl hh v tx) rfl h7
      · have h8 := h5.2 c6
        refine ⟨h8.1, ?_⟩
        have h9 := h8.2
        refine WP.run hP_30 9 (c' := (35, [some (.ref 35), some (.ref 32), some (.int p0), some (.int p1), some (.ref 37), some (.int 0), some (.int (if 400 < ((g 33) ((p0 * (5 : Int32)) + (p1 + (1 : Int32))).toNatClampNeg) then 400 else ((g 33) ((p0 * (5 : Int32)) + (p1 + (1 : Int32))).toNatClampNeg))), none, none, none, none, none, none], [.int (if 400 < ((g 33) ((p0 * (5 : Int32)) + (p1 + (1 : Int32))).toNatClampNeg) then 400 else ((g 33) ((p0 * (5 : Int32)) + (p1 + (1 : Int32))).toNatClampNeg)), .int 0], Wd f fl g gl hh v tx)) rfl ?_
        refine WP.br hP_30 (q := 0 < (if 400 < ((g 33) ((p0 * (5 : Int32)) + (p1 + (1 : Int32))).toNatClampNeg) then 400 else ((g 33) ((p0 * (5 : Int32)) + (p1 + (1 : Int32))).toNatClampNeg))) (t := 40) (f := 38) (L := [some (.ref 35), some (.ref 32), some (.int p0), some (.int p1), some (.ref 37), some (.int 0), some (.int (if 400 < ((g 33) ((p0 * (5 : Int32)) + (p1 + (1 : Int32))).toNatClampNeg) then 400 else ((g 33) ((p0 * (5 : Int32)) + (p1 + (1 : Int32))).toNatClampNeg))), none, none, none, none, none, none]) (st := []) (w := Wd f fl g gl hh v tx) rfl (fun c10 => ?_) (fun c10 => ?_)
        · have h11 := h9.1 c10
          refine WP.run hP_30 1 (c' := (41, [some (.ref 35), some (.ref 32), none, none, some (.ref 37), some (.int 0), some (.int (if 400 < ((g 33) ((p0 * (5 : Int32)) + (p1 + (1 : Int32))).toNatClampNeg) then 400 else ((g 33) ((p0 * (5 : Int32)) + (p1 + (1 : Int32))).toNatClampNeg))), none, none, none, none, none, none], [.int 0], Wd f fl g gl hh v tx)) rfl ?_
          refine WP.run hP_30 2 (c' := (45, [some (.ref 35), some (.ref 32), none, none, some (.ref 37), some (.int 0), some (.int (if 400 < ((g 33) ((p0 * (5 : Int32)) + (p1 + (1 : Int32))).toNatClampNeg) then 400 else ((g 33) ((p0 * (5 : Int32)) + (p1 + (1 : Int32))).toNatClampNeg))), some (.int 0), none, none, none, none, none], [.int 0], Wd f fl g gl hh v tx)) rfl ?_
          refine WP.run hP_30 1 (c' := (47, [some (.ref 35), some (.ref 32), none, none, some (.ref 37), some (.int 0), some (.int (if 400 < ((g 33) ((p0 * (5 : Int32)) + (p1 + (1 : Int32))).toNatClampNeg) then 400 else ((g 33) ((p0 * (5 : Int32)) + (p1 + (1 : Int32))).toNatClampNeg))), some (.int 0), some (.int 0), none, none, none, none], [], Wd f fl g gl hh v tx)) rfl ?_
          refine WP.clr hP_30 (pc := 47) rfl ?_
          exact h11
        · have h12 := h9.2 c10
          refine WP.run hP_30 1 (c' := (39, [none, none, none, none, none, none, none, none, none, none, none, none, none], [.long 1], Wd f fl g gl hh v tx)) rfl ?_
          exact WP.ret hP_30 (r := some (.long 1)) (w' := Wd f fl g gl hh v tx) rfl h12
  · have h13 := h.2 c1
    refine ⟨fun c14 => ?_, fun c14 => ?_⟩
    · have h15 := h13.1 c14
      refine WP.run hP_30 6 (c' := (13, [some (.ref 35), some (.ref 32), some (.int p0), some (.int p1), some (.ref 37), some (.int 0), none, none, none, none, none, none, none], [.int (p1 + (1 : Int32)), .int p0, .ref 32], Wd f fl g gl hh v tx)) rfl ?_
      refine WP.call hP_30 hP_56 (as := [.ref 32, .int p0, .int (p1 + (1 : Int32))]) (pc' := 16) (L' := [some (.ref 35), some (.ref 32), some (.int p0), some (.int p1), some (.ref 37), some (.int 0), none, none, none, none, none, none, none]) (st' := []) (w1 := Wd f fl g gl hh v tx) rfl ⟨Nat.le_of_ble_eq_true rfl, Nat.le_of_ble_eq_true rfl⟩ rfl (b_yte_head_32_0 X (d) f fl g gl hh v tx p0 (p1 + (1 : Int32)) _ ?_)
      refine ⟨fun c16 => ?_, fun c16 => ?_⟩
      · have h17 := h15.1 c16
        refine WP.run hP_30 10 (c' := (38, [some (.ref 35), some (.ref 32), some (.int p0), some (.int p1), some (.ref 37), some (.int 0), some (.int 0), none, none, none, none, none, none], [], Wd f fl g gl hh v tx)) rfl ?_
        refine WP.run hP_30 1 (c' := (39, [none, none, none, none, none, none, none, none, none, none, none, none, none], [.long 1], Wd f fl g gl hh v tx)) rfl ?_
        exact WP.ret hP_30 (r := some (.long 1)) (w' := Wd f fl g gl hh v tx) rfl h17
      · have h18 := h15.2 c16
        refine ⟨fun c19 => ?_, fun c19 => ?_⟩
        · have h20 := h18.1 c19
          refine WP.run hP_30 10 (c' := (38, [some (.ref 35), some (.ref 32), some (.int p0), some (.int p1), some (.ref 37), some (.int 0), some (.int 0), none, none, none, none, none, none], [], Wd f fl g gl hh v tx)) rfl ?_
          refine WP.run hP_30 1 (c' := (39, [none, none, none, none, none, none, none, none, none, none, none, none, none], [.long 1], Wd f fl g gl hh v tx)) rfl ?_
          exact WP.ret hP_30 (r := some (.long 1)) (w' := Wd f fl g gl hh v tx) rfl h20
        · have h21 := h18.2 c19
          refine ⟨h21.1, ?_⟩
          have h22 := h21.2
          refine WP.run hP_30 9 (c' := (35, [some (.ref 35), some (.ref 32), some (.int p0), some (.int p1), some (.ref 37), some (.int 0), some (.int (if 400 < ((g 33) ((p0 * (5 : Int32)) + (p1 + (1 : Int32))).toNatClampNeg) then 400 else ((g 33) ((p0 * (5 : Int32)) + (p1 + (1 : Int32))).toNatClampNeg))), none, none, none, none, none, none], [.int (if 400 < ((g 33) ((p0 * (5 : Int32)) + (p1 + (1 : Int32))).toNatClampNeg) then 400 else ((g 33) ((p0 * (5 : Int32)) + (p1 + (1 : Int32))).toNatClampNeg)), .int 0], Wd f fl g gl hh v tx)) rfl ?_
          refine WP.br hP_30 (q := 0 < (if 400 < ((g 33) ((p0 * (5 : Int32)) + (p1 + (1 : Int32))).toNatClampNeg) then 400 else ((g 33) ((p0 * (5 : Int32)) + (p1 + (1 : Int32))).toNatClampNeg))) (t := 40) (f := 38) (L := [some (.ref 35), some (.ref 32), some (.int p0), some (.int p1), some (.ref 37), some (.int 0), some (.int (if 400 < ((g 33) ((p0 * (5 : Int32)) + (p1 + (1 : Int32))).toNatClampNeg) then 400 else ((g 33) ((p0 * (5 : Int32)) + (p1 + (1 : Int32))).toNatClampNeg))), none, none, none, none, none, none]) (st := []) (w := Wd f fl g gl hh v tx) rfl (fun c23 => ?_) (fun c23 => ?_)
          · have h24 := h22.1 c23
            refine WP.run hP_30 1 (c' := (41, [some (.ref 35), some (.ref 32), none, none, some (.ref 37), some (.int 0), some (.int (if 400 < ((g 33) ((p0 * (5 : Int32)) + (p1 + (1 : Int32))).toNatClampNeg) then 400 else ((g 33) ((p0 * (5 : Int32)) + (p1 + (1 : Int32))).toNatClampNeg))), none, none, none, none, none, none], [.int 0], Wd f fl g gl hh v tx)) rfl ?_
            refine WP.run hP_30 2 (c' := (45, [some (.ref 35), some (.ref 32), none, none, some (.ref 37), some (.int 0), some (.int (if 400 < ((g 33) ((p0 * (5 : Int32)) + (p1 + (1 : Int32))).toNatClampNeg) then 400 else ((g 33) ((p0 * (5 : Int32)) + (p1 + (1 : Int32))).toNatClampNeg))), some (.int 0), none, none, none, none, none], [.int 0], Wd f fl g gl hh v tx)) rfl ?_
            refine WP.run hP_30 1 (c' := (47, [some (.ref 35), some (.ref 32), none, none, some (.ref 37), some (.int 0), some (.int (if 400 < ((g 33) ((p0 * (5 : Int32)) + (p1 + (1 : Int32))).toNatClampNeg) then 400 else ((g 33) ((p0 * (5 : Int32)) + (p1 + (1 : Int32))).toNatClampNeg))), some (.int 0), some (.int 0), none, none, none, none], [], Wd f fl g gl hh v tx)) rfl ?_
            refine WP.clr hP_30 (pc := 47) rfl ?_
            exact h24
          · have h25 := h22.2 c23
            refine WP.run hP_30 1 (c' := (39, [none, none, none, none, none, none, none, none, none, none, none, none, none], [.long 1], Wd f fl g gl hh v tx)) rfl ?_
            exact WP.ret hP_30 (r := some (.long 1)) (w' := Wd f fl g gl hh v tx) rfl h25
    · have h26 := h13.2 c14
      refine ⟨h26.1, ?_⟩
      have h27 := h26.2
      refine WP.run hP_30 6 (c' := (13, [some (.ref 35), some (.ref 32), some (.int p0), some (.int p1), some (.ref 37), some (.int ((g 33) ((p0 * (5 : Int32)) + p1).toNatClampNeg)), none, none, none, none, none, none, none], [.int (p1 + (1 : Int32)), .int p0, .ref 32], Wd f fl g gl hh v tx)) rfl ?_
      refine WP.call hP_30 hP_56 (as := [.ref 32, .int p0, .int (p1 + (1 : Int32))]) (pc' := 16) (L' := [some (.ref 35), some (.ref 32), some (.int p0), some (.int p1), some (.ref 37), some (.int ((g 33) ((p0 * (5 : Int32)) + p1).toNatClampNeg)), none, none, none, none, none, none, none]) (st' := []) (w1 := Wd f fl g gl hh v tx) rfl ⟨Nat.le_of_ble_eq_true rfl, Nat.le_of_ble_eq_true rfl⟩ rfl (b_yte_head_32_0 X (d) f fl g gl hh v tx p0 (p1 + (1 : Int32)) _ ?_)
      refine ⟨fun c28 => ?_, fun c28 => ?_⟩
      · have h29 := h27.1 c28
        refine WP.run hP_30 6 (c' := (28, [some (.ref 35), some (.ref 32), some (.int p0), some (.int p1), some (.ref 37), some (.int ((g 33) ((p0 * (5 : Int32)) + p1).toNatClampNeg)), some (.int 0), none, none, none, none, none, none], [.int ((g 33) ((p0 * (5 : Int32)) + p1).toNatClampNeg)], Wd f fl g gl hh v tx)) rfl ?_
        refine WP.br hP_30 (q := ((g 33) ((p0 * (5 : Int32)) + p1).toNatClampNeg) < 0) (t := 38) (f := 31) (L := [some (.ref 35), some (.ref 32), some (.int p0), some (.int p1), some (.ref 37), some (.int ((g 33) ((p0 * (5 : Int32)) + p1).toNatClampNeg)), some (.int 0), none, none, none, none, none, none]) (st := []) (w := Wd f fl g gl hh v tx) rfl (fun c30 => ?_) (fun c30 => ?_)
        · have h31 := h29.1 c30
          refine WP.run hP_30 1 (c' := (39, [none, none, none, none, none, none, none, none, none, none, none, none, none], [.long 1], Wd f fl g gl hh v tx)) rfl ?_
          exact WP.ret hP_30 (r := some (.long 1)) (w' := Wd f fl g gl hh v tx) rfl h31
        · have h32 := h29.2 c30
          refine WP.run hP_30 2 (c' := (35, [some (.ref 35), some (.ref 32), some (.int p0), some (.int p1), some (.ref 37), some (.int ((g 33) ((p0 * (5 : Int32)) + p1).toNatClampNeg)), some (.int 0), none, none, none, none, none, none], [.int 0, .int ((g 33) ((p0 * (5 : Int32)) + p1).toNatClampNeg)], Wd f fl g gl hh v tx)) rfl ?_
          refine WP.br hP_30 (q := ((g 33) ((p0 * (5 : Int32)) + p1).toNatClampNeg) < 0) (t := 40) (f := 38) (L := [some (.ref 35), some (.ref 32), some (.int p0), some (.int p1), some (.ref 37), some (.int ((g 33) ((p0 * (5 : Int32)) + p1).toNatClampNeg)), some (.int 0), none, none, none, none, none, none]) (st := []) (w := Wd f fl g gl hh v tx) rfl (fun c33 => ?_) (fun c33 => ?_)
          · have h34 := h32.1 c33
            refine WP.run hP_30 1 (c' := (41, [some (.ref 35), some (.ref 32), none, none, some (.ref 37), some (.int ((g 33) ((p0 * (5 : Int32)) + p1).toNatClampNeg)), some (.int 0), none, none, none, none, none, none], [.int 0], Wd f fl g gl hh v tx)) rfl ?_
            refine WP.run hP_30 2 (c' := (45, [some (.ref 35), some (.ref 32), none, none, some (.ref 37), some (.int ((g 33) ((p0 * (5 : Int32)) + p1).toNatClampNeg)), some (.int 0), some (.int 0), none, none, none, none, none], [.int ((g 33) ((p0 * (5 : Int32)) + p1).toNatClampNeg)], Wd f fl g gl hh v tx)) rfl ?_
            refine WP.run hP_30 1 (c' := (47, [some (.ref 35), some (.ref 32), none, none, some (.ref 37), some (.int ((g 33) ((p0 * (5 : Int32)) + p1).toNatClampNeg)), some (.int 0), some (.int 0), some (.int ((g 33) ((p0 * (5 : Int32)) + p1).toNatClampNeg)), none, none, none, none], [], Wd f fl g gl hh v tx)) rfl ?_
            refine WP.clr hP_30 (pc := 47) rfl ?_
            exact h34
          · have h35 := h32.2 c33
            refine WP.run hP_30 1 (c' := (39, [none, none, none, none, none, none, none, none, none, none, none, none, none], [.long 1], Wd f fl g gl hh v tx)) rfl ?_
            exact WP.ret hP_30 (r := some (.long 1)) (w' := Wd f fl g gl hh v tx) rfl h35
      · have h36 := h27.2 c28
        refine ⟨fun c37 => ?_, fun c37 => ?_⟩
        · have h38 := h36.1 c37
          refine WP.run hP_30 6 (c' := (28, [some (.ref 35), some (.ref 32), some (.int p0), some (.int p1), some (.ref 37), some (.int ((g 33) ((p0 * (5 : Int32)) + p1).toNatClampNeg)), some (.int 0), none, none, none, none, none, none], [.int ((g 33) ((p0 * (5 : Int32)) + p1).toNatClampNeg)], Wd f fl g gl hh v tx)) rfl ?_
          refine WP.br hP_30 (q := ((g 33) ((p0 * (5 : Int32)) + p1).toNatClampNeg) < 0) (t := 38) (f := 31) (L := [some (.ref 35), some (.ref 32), some (.int p0), some (.int p1), some (.ref 37), some (.int ((g 33) ((p0 * (5 : Int32)) + p1).toNatClampNeg)), some (.int 0), none, none, none, none, none, none]) (st := []) (w := Wd f fl g gl hh v tx) rfl (fun c39 => ?_) (fun c39 => ?_)
          · have h40 := h38.1 c39
            refine WP.run hP_30 1 (c' := (39, [none, none, none, none, none, none, none, none, none, none, none, none, none], [.long 1], Wd f fl g gl hh v tx)) rfl ?_
            exact WP.ret hP_30 (r := some (.long 1)) (w' := Wd f fl g gl hh v tx) rfl h40
          · have h41 := h38.2 c39
            refine WP.run hP_30 2 (c' := (35, [some (.ref 35), some (.ref 32), some (.int p0), some (.int p1), some (.ref 37), some (.int ((g 33) ((p0 * (5 : Int32)) + p1).toNatClampNeg)), some (.int 0), none, none, none, none, none, none], [.int 0, .int ((g 33) ((p0 * (5 : Int32)) + p1).toNatClampNeg)], Wd f fl g gl hh v tx)) rfl ?_
            refine WP.br hP_30 (q := ((g 33) ((p0 * (5 : Int32)) + p1).toNatClampNeg) < 0) (t := 40) (f := 38) (L := [some (.ref 35), some (.ref 32), some (.int p0), some (.int p1), some (.ref 37), some (.int ((g 33) ((p0 * (5 : Int32)) + p1).toNatClampNeg)), some (.int 0), none, none, none, none, none, none]) (st := []) (w := Wd f fl g gl hh v tx) rfl (fun c42 => ?_) (fun c42 => ?_)
            · have h43 := h41.1 c42
              refine WP.run hP_30 1 (c' := (41, [some (.ref 35), some (.ref 32), none, none, some (.ref 37), some (.int ((g 33) ((p0 * (5 : Int32)) + p1).toNatClampNeg)), some (.int 0), none, none, none, none, none, none], [.int 0], Wd f fl g gl hh v tx)) rfl ?_
              refine WP.run hP_30 2 (c' := (45, [some (.ref 35), some (.ref 32), none, none, some (.ref 37), some (.int ((g 33) ((p0 * (5 : Int32)) + p1).toNatClampNeg)), some (.int 0), some (.int 0), none, none, none, none, none], [.int ((g 33) ((p0 * (5 : Int32)) + p1).toNatClampNeg)], Wd f fl g gl hh v tx)) rfl ?_
              refine WP.run hP_30 1 (c' := (47, [some (.ref 35), some (.ref 32), none, none, some (.ref 37), some (.int ((g 33) ((p0 * (5 : Int32)) + p1).toNatClampNeg)), some (.int 0), some (.int 0), some (.int ((g 33) ((p0 * (5 : Int32)) + p1).toNatClampNeg)), none, none, none, none], [], Wd f fl g gl hh v tx)) rfl ?_
              refine WP.clr hP_30 (pc := 47) rfl ?_
              exact h43
            · have h44 := h41.2 c42
              refine WP.run hP_30 1 (c' := (39, [none, none, none, none, none, none, none, none, none, none, none, none, none], [.long 1], Wd f fl g gl hh v tx)) rfl ?_
              exact WP.ret hP_30 (r := some (.long 1)) (w' := Wd f fl g gl hh v tx) rfl h44
        · have h45 := h36.2 c37
          refine ⟨h45.1, ?_⟩
          have h46 := h45.2
          refine WP.run hP_30 6 (c' := (28, [some (.ref 35), some (.ref 32), some (.int p0), some (.int p1), some (.ref 37), some (.int ((g 33) ((p0 * (5 : Int32)) + p1).toNatClampNeg)), some (.int (if 400 < ((g 33) ((p0 * (5 : Int32)) + (p1 + (1 : Int32))).toNatClampNeg) then 400 else ((g 33) ((p0 * (5 : Int32)) + (p1 + (1 : Int32))).toNatClampNeg))), none, none, none, none, none, none], [.int ((g 33) ((p0 * (5 : Int32)) + p1).toNatClampNeg)], Wd f fl g gl hh v tx)) rfl ?_
          refine WP.br hP_30 (q := ((g 33) ((p0 * (5 : Int32)) + p1).toNatClampNeg) < 0) (t := 38) (f := 31) (L := [some (.ref 35), some (.ref 32), some (.int p0), some (.int p1), some (.ref 37), some (.int ((g 33) ((p0 * (5 : Int32)) + p1).toNatClampNeg)), some (.int (if 400 < ((g 33) ((p0 * (5 : Int32)) + (p1 + (1 : Int32))).toNatClampNeg) then 400 else ((g 33) ((p0 * (5 : Int32)) + (p1 + (1 : Int32))).toNatClampNeg))), none, none, none, none, none, none]) (st := []) (w := Wd f fl g gl hh v tx) rfl (fun c47 => ?_) (fun c47 => ?_)
          · have h48 := h46.1 c47
            refine WP.run hP_30 1 (c' := (39, [none, none, none, none, none, none, none, none, none, none, none, none, none], [.long 1], Wd f fl g gl hh v tx)) rfl ?_
            exact WP.ret hP_30 (r := some (.long 1)) (w' := Wd f fl g gl hh v tx) rfl h48
          · have h49 := h46.2 c47
            refine WP.run hP_30 2 (c' := (35, [some (.ref 35), some (.ref 32), some (.int p0), some (.int p1), some (.ref 37), some (.int ((g 33) ((p0 * (5 : Int32)) + p1).toNatClampNeg)), some (.int (if 400 < ((g 33) ((p0 * (5 : Int32)) + (p1 + (1 : Int32))).toNatClampNeg) then 400 else ((g 33) ((p0 * (5 : Int32)) + (p1 + (1 : Int32))).toNatClampNeg))), none, none, none, none, none, none], [.int (if 400 < ((g 33) ((p0 * (5 : Int32)) + (p1 + (1 : Int32))).toNatClampNeg) then 400 else ((g 33) ((p0 * (5 : Int32)) + (p1 + (1 : Int32))).toNatClampNeg)), .int ((g 33) ((p0 * (5 : Int32)) + p1).toNatClampNeg)], Wd f fl g gl hh v tx)) rfl ?_
            refine WP.br hP_30 (q := ((g 33) ((p0 * (5 : Int32)) + p1).toNatClampNeg) < (if 400 < ((g 33) ((p0 * (5 : Int32)) + (p1 + (1 : Int32))).toNatClampNeg) then 400 else ((g 33) ((p0 * (5 : Int32)) + (p1 + (1 : Int32))).toNatClampNeg))) (t := 40) (f := 38) (L := [some (.ref 35), some (.ref 32), some (.int p0), some (.int p1), some (.ref 37), some (.int ((g 33) ((p0 * (5 : Int32)) + p1).toNatClampNeg)), some (.int (if 400 < ((g 33) ((p0 * (5 : Int32)) + (p1 + (1 : Int32))).toNatClampNeg) then 400 else ((g 33) ((p0 * (5 : Int32)) + (p1 + (1 : Int32))).toNatClampNeg))), none, none, none, none, none, none]) (st := []) (w := Wd f fl g gl hh v tx) rfl (fun c50 => ?_) (fun c50 => ?_)
            · have h51 := h49.1 c50
              refine WP.run hP_30 1 (c' := (41, [some (.ref 35), some (.ref 32), none, none, some (.ref 37), some (.int ((g 33) ((p0 * (5 : Int32)) + p1).toNatClampNeg)), some (.int (if 400 < ((g 33) ((p0 * (5 : Int32)) + (p1 + (1 : Int32))).toNatClampNeg) then 400 else ((g 33) ((p0 * (5 : Int32)) + (p1 + (1 : Int32))).toNatClampNeg))), none, none, none, none, none, none], [.int 0], Wd f fl g gl hh v tx)) rfl ?_
              refine WP.run hP_30 2 (c' := (45, [some (.ref 35), some (.ref 32), none, none, some (.ref 37), some (.int ((g 33) ((p0 * (5 : Int32)) + p1).toNatClampNeg)), some (.int (if 400 < ((g 33) ((p0 * (5 : Int32)) + (p1 + (1 : Int32))).toNatClampNeg) then 400 else ((g 33) ((p0 * (5 : Int32)) + (p1 + (1 : Int32))).toNatClampNeg))), some (.int 0), none, none, none, none, none], [.int ((g 33) ((p0 * (5 : Int32)) + p1).toNatClampNeg)], Wd f fl g gl hh v tx)) rfl ?_
              refine WP.run hP_30 1 (c' := (47, [some (.ref 35), some (.ref 32), none, none, some (.ref 37), some (.int ((g 33) ((p0 * (5 : Int32)) + p1).toNatClampNeg)), some (.int (if 400 < ((g 33) ((p0 * (5 : Int32)) + (p1 + (1 : Int32))).toNatClampNeg) then 400 else ((g 33) ((p0 * (5 : Int32)) + (p1 + (1 : Int32))).toNatClampNeg))), some (.int 0), some (.int ((g 33) ((p0 * (5 : Int32)) + p1).toNatClampNeg)), none, none, none, none], [], Wd f fl g gl hh v tx)) rfl ?_
              refine WP.clr hP_30 (pc := 47) rfl ?_
              exact h51
            · have h52 := h49.2 c50
              refine WP.run hP_30 1 (c' := (39, [none, none, none, none, none, none, none, none, none, none, none, none, none], [.long 1], Wd f fl g gl hh v tx)) rfl ?_
              exact WP.ret hP_30 (r := some (.long 1)) (w' := Wd f fl g gl hh v tx) rfl h52

set_option maxRecDepth 20000 in
theorem b_yma_value_35_32_37_47 (X : mm_X) (d : Nat) (f : Nat → Int32) (fl : Nat → Int64) (g : Nat → Nat → Int32) (gl : Nat → Nat → Int64) (hh : Nat → Nat → Option Nat) (v : Nat → Value) (tx : mm_W) (l6 : Int32) (l7 : Int32) (l8 : Int32)  (P : Option Value → mm_W → Prop)
    (h : ((l6 ≤ l8) → (((¬ l7 = 1) → P (some (.long (-9223372036854775808))) (Wd f fl g gl hh v tx)) ∧
      ((l7 = 1) → P (some (.long ((gl 36) 0))) (Wd f fl g gl hh v tx)))) ∧
    ((¬ (l6 ≤ l8)) → ((¬ (l8 < 0 ∨ 400 ≤ l8.toNatClampNeg)) ∧ ((¬ (l8 < 0 ∨ 400 ≤ l8.toNatClampNeg)) ∧ (((1 < ((((g 34) l8.toNatClampNeg) >>> ((12 : Int32) &&& (31 : Int32))) : Int32)) → (((l7 < 1) → P (some (.long (-9223372036854775808))) (Wd f fl g gl hh v tx)) ∧
        ((¬ (l7 < 1)) → (((10 ≤ ((((g 34) l8.toNatClampNeg) >>> ((12 : Int32) &&& (31 : Int32))) : Int32)) → WP X (d) 30 (167, [some (.ref 35), some (.ref 32), none, none, some (.ref 37), none, some (.int l6), some (.int l7), some (.int l8), some (.int ((((g 34) l8.toNatClampNeg) >>> ((12 : Int32) &&& (31 : Int32))) : Int32)), some (.int (((g 34) l8.toNatClampNeg) &&& (4095 : Int32))), none, none], [], Wd f fl g gl hh v tx) P) ∧
          ((¬ (10 ≤ ((((g 34) l8.toNatClampNeg) >>> ((12 : Int32) &&& (31 : Int32))) : Int32))) → (((2 ≤ l7) → WP X (d) 30 (167, [some (.ref 35), some (.ref 32), none, none, some (.ref 37), none, some (.int l6), some (.int l7), some (.int l8), some (.int ((((g 34) l8.toNatClampNeg) >>> ((12 : Int32) &&& (31 : Int32))) : Int32)), some (.int (((g 34) l8.toNatClampNeg) &&& (4095 : Int32))), none, none], [], Wd f fl g gl hh v tx) P) ∧
            ((¬ (2 ≤ l7)) → P (some (.long (-9223372036854775808))) (Wd f fl g gl hh v tx)))))))) ∧
      ((¬ (1 < ((((g 34) l8.toNatClampNeg) >>> ((12 : Int32) &&& (31 : Int32))) : Int32))) → (((64 ≤ l7) → P (some (.long (-9223372036854775808))) (Wd f fl g gl hh v tx)) ∧
        ((¬ (64 ≤ l7)) → (((¬ ((((g 34) l8.toNatClampNeg) >>> ((12 : Int32) &&& (31 : Int32))) : Int32) = 1) → WP X (d) 30 (113, [some (.ref 35), some (.ref 32), none, none, some (.ref 37), none, some (.int l6), some (.int l7), some (.int l8), some (.int ((((g 34) l8.toNatClampNeg) >>> ((12 : Int32) &&& (31 : Int32))) : Int32)), some (.int (((g 34) l8.toNatClampNeg) &&& (4095 : Int32))), none, none], [], Wd f fl g gl hh v tx) P) ∧
          ((((((g 34) l8.toNatClampNeg) >>> ((12 : Int32) &&& (31 : Int32))) : Int32) = 1) → ((((((g 34) l8.toNatClampNeg) &&& (4095 : Int32)) < 11) → WP X (d) 30 (113, [some (.ref 35), some (.ref 32), none, none, some (.ref 37), none, some (.int l6), some (.int l7), some (.int l8), some (.int ((((g 34) l8.toNatClampNeg) >>> ((12 : Int32) &&& (31 : Int32))) : Int32)), some (.int (((g 34) l8.toNatClampNeg) &&& (4095 : Int32))), none, none], [], Wd f fl g gl hh v tx) P) ∧
            ((¬ ((((g 34) l8.toNatClampNeg) &&& (4095 : Int32)) < 11)) → P (some (.long (-9223372036854775808))) (Wd f fl g gl hh v tx))))))))))))) :
    WP X (d) 30 (47, [some (.ref 35), some (.ref 32), none, none, some (.ref 37), none, some (.int l6), some (.int l7), some (.int l8), none, none, none, none], [], Wd f fl g gl hh v tx) P := by
  refine WP.run hP_30 2 (c' := (51, [some (.ref 35), some (.ref 32), none, none, some (.ref 37), none, some (.int l6), some (.int l7), some (.int l8), none, none, none, none], [.int l6, .int l8], Wd f fl g gl hh v tx)) rfl ?_
  refine WP.br hP_30 (q := l6 ≤ l8) (t := 352) (f := 54) (L := [some (.ref 35), some (.ref 32), none, none, some (.ref 37), none, some (.int l6), some (.int l7), some (.int l8), none, none, none, none]) (st := []) (w := Wd f fl g gl hh v tx) rfl (fun c1 => ?_) (fun c1 => ?_)
  · have h2 := h.1 c1
    refine WP.run hP_30 2 (c' := (355, [some (.ref 35), none, none, none, none, none, none, some (.int l7), none, none, none, none, none], [.int 1, .int l7], Wd f fl g gl hh v tx)) rfl ?_
    refine WP.br hP_30 (q := ¬ l7 = 1) (t := 367) (f := 358) (L := [some (.ref 35), none, none, none, none, none, none, some (.int l7), none, none, none, none, none]) (st := []) (w := Wd f fl g gl hh v tx) rfl (fun c3 => ?_) (fun c3 => ?_)
    · have h4 := h2.1 c3
      refine WP.run hP_30 1 (c' := (370, [none, none, none, none, none, none, none, none, none, none, none, none, none], [.long (-9223372036854775808)], Wd f fl g gl hh v tx)) rfl ?_
      exact WP.ret hP_30 (r := some (.long (-9223372036854775808))) (w' := Wd f fl g gl hh v tx) rfl h4
    · have h5 := h2.2 (Classical.not_not.mp c3)
      refine WP.run hP_30 3 (c' := (363, [some (.ref 35), none, none, none, none, none, none, some (.int l7), none, none, none, none, none], [.int 0, .ref 36], Wd f fl g gl hh v tx)) rfl ?_
      refine WP.of (fun _ _ => Ex.lald hP_30 rfl (Wa_36 _ _ _ _ _ _ _) (by decide)) ?_
      show WP X _ 30 (364, [some (.ref 35), none, none, none, none, none, none, some (.int l7), none, none, none, none, none], [.long ((gl 36) 0)], Wd f fl g gl hh v tx) P
      refine WP.run hP_30 1 (c' := (370, [some (.ref 35), none, none, none, none, none, none, some (.int l7), none, none, none, none, none], [.long ((gl 36) 0)], Wd f fl g gl hh v tx)) rfl ?_
      exact WP.ret hP_30 (r := some (.long ((gl 36) 0))) (w' := Wd f fl g gl hh v tx) rfl h5
  · have h6 := h.2 c1
    refine WP.run hP_30 3 (c' := (60, [some (.ref 35), some (.ref 32), none, none, some (.ref 37), none, some (.int l6), some (.int l7), some (.int l8), none, none, none, none], [.int l8, .ref 34], Wd f fl g gl hh v tx)) rfl ?_
    refine WP.of (fun _ _ => Ex.iald hP_30 rfl (Wa_34 _ _ _ _ _ _ _) h6.1) ?_
    have h7 := h6.2
    refine WP.run hP_30 6 (c' := (72, [some (.ref 35), some (.ref 32), none, none, some (.ref 37), none, some (.int l6), some (.int l7), some (.int l8), some (.int ((((g 34) l8.toNatClampNeg) >>> ((12 : Int32) &&& (31 : Int32))) : Int32)), none, none, none], [.int l8, .ref 34], Wd f fl g gl hh v tx)) rfl ?_
    refine WP.of (fun _ _ => Ex.iald hP_30 rfl (Wa_34 _ _ _ _ _ _ _) h7.1) ?_
    have h8 := h7.2
    refine WP.run hP_30 5 (c' := (82, [some (.ref 35), some (.ref 32), none, none, some (.ref 37), none, some (.int l6), some (.int l7), some (.int l8), some (.int ((((g 34) l8.toNatClampNeg) >>> ((12 : Int32) &&& (31 : Int32))) : Int32)), some (.int (((g 34) l8.toNatClampNeg) &&& (4095 : Int32))), none, none], [.int 1, .int ((((g 34) l8.toNatClampNeg) >>> ((12 : Int32) &&& (31 : Int32))) : Int32)], Wd f fl g gl hh v tx)) rfl ?_
    refine WP.br hP_30 (q := 1 < ((((g 34) l8.toNatClampNeg) >>> ((12 : Int32) &&& (31 : Int32))) : Int32)) (t := 144) (f := 85) (L := [some (.ref 35), some (.ref 32), none, none, some (.ref 37), none, some (.int l6), some (.int l7), some (.int l8), some (.int ((((g 34) l8.toNatClampNeg) >>> ((12 : Int32) &&& (31 : Int32))) : Int32)), some (.int (((g 34) l8.toNatClampNeg) &&& (4095 : Int32))), none, none]) (st := []) (w := Wd f fl g gl hh v tx) rfl (fun c9 => ?_) (fun c9 => ?_)
    · have h10 := h8.1 c9
      refine WP.run hP_30 2 (c' := (147, [some (.ref 35), some (.ref 32), none, none, some (.ref 37), none, some (.int l6), some (.int l7), some (.int l8), some (.int ((((g 34) l8.toNatClampNeg) >>> ((12 : Int32) &&& (31 : Int32))) : Int32)), some (.int (((g 34) l8.toNatClampNeg) &&& (4095 : Int32))), none, none], [.int 1, .int l7], Wd f fl g gl hh v tx)) rfl ?_
      refine WP.br hP_30 (q := l7 < 1) (t := 163) (f := 150) (L := [some (.ref 35), some (.ref 32), none, none, some (.ref 37), none, some (.int l6), some (.int l7), some (.int l8), some (.int ((((g 34) l8.toNatClampNeg) >>> ((12 : Int32) &&& (31 : Int32))) : Int32)), some (.int (((g 34) l8.toNatClampNeg) &&& (4095 : Int32))), none, none]) (st := []) (w := Wd f fl g gl hh v tx) rfl (fun c11 => ?_) (fun c11 => ?_)
      · have h12 := h10.1 c11
        refine WP.run hP_30 1 (c' := (166, [none, none, none, none, none, none, none, none, none, none, none, none, none], [.long (-9223372036854775808)], Wd f fl g gl hh v tx)) rfl ?_
        exact WP.ret hP_30 (r := some (.long (-9223372036854775808))) (w' := Wd f fl g gl hh v tx) rfl h12
      · have h13 := h10.2 c11
        refine WP.run hP_30 2 (c' := (154, [some (.ref 35), some (.ref 32), none, none, some (.ref 37), none, some (.int l6), some (.int l7), some (.int l8), some (.int ((((g 34) l8.toNatClampNeg) >>> ((12 : Int32) &&& (31 : Int32))) : Int32)), some (.int (((g 34) l8.toNatClampNeg) &&& (4095 : Int32))), none, none], [.int 10, .int ((((g 34) l8.toNatClampNeg) >>> ((12 : Int32) &&& (31 : Int32))) : Int32)], Wd f fl g gl hh v tx)) rfl ?_
        refine WP.br hP_30 (q := 10 ≤ ((((g 34) l8.toNatClampNeg) >>> ((12 : Int32) &&& (31 : Int32))) : Int32)) (t := 167) (f := 157) (L := [some (.ref 35), some (.ref 32), none, none, some (.ref 37), none, some (.int l6), some (.int l7), some (.int l8), some (.int ((((g 34) l8.toNatClampNeg) >>> ((12 : Int32) &&& (31 : Int32))) : Int32)), some (.int (((g 34) l8.toNatClampNeg) &&& (4095 : Int32))), none, none]) (st := []) (w := Wd f fl g gl hh v tx) rfl (fun c14 => ?_) (fun c14 => ?_)
        · have h15 := h13.1 c14
          exact h15
        · have h16 := h13.2 c14
          refine WP.run hP_30 2 (c' := (160, [some (.ref 35), some (.ref 32), none, none, some (.ref 37), none, some (.int l6), some (.int l7), some (.int l8), some (.int ((((g 34) l8.toNatClampNeg) >>> ((12 : Int32) &&& (31 : Int32))) : Int32)), some (.int (((g 34) l8.toNatClampNeg) &&& (4095 : Int32))), none, none], [.int 2, .int l7], Wd f fl g gl hh v tx)) rfl ?_
          refine WP.br hP_30 (q := 2 ≤ l7) (t := 167) (f := 163) (L := [some (.ref 35), some (.ref 32), none, none, some (.ref 37), none, some (.int l6), some (.int l7), some (.int l8), some (.int ((((g 34) l8.toNatClampNeg) >>> ((12 : Int32) &&& (31 : Int32))) : Int32)), some (.int (((g 34) l8.toNatClampNeg) &&& (4095 : Int32))), none, none]) (st := []) (w := Wd f fl g gl hh v tx) rfl (fun c17 => ?_) (fun c17 => ?_)
          · have h18 := h16.1 c17
            exact h18
          · have h19 := h16.2 c17
            refine WP.run hP_30 1 (c' := (166, [none, none, none, none, none, none, none, none, none, none, none, none, none], [.long (-9223372036854775808)], Wd f fl g gl hh v tx)) rfl ?_
            exact WP.ret hP_30 (r := some (.long (-9223372036854775808))) (w' := Wd f fl g gl hh v tx) rfl h19
    · have h20 := h8.2 c9
      refine WP.run hP_30 4 (c' := (92, [some (.ref 35), some (.ref 32), none, none, some (.ref 37), none, some (.int l6), some (.int l7), some (.int l8), some (.int ((((g 34) l8.toNatClampNeg) >>> ((12 : Int32) &&& (31 : Int32))) : Int32)), some (.int (((g 34) l8.toNatClampNeg) &&& (4095 : Int32))), none, none], [.int 64, .int l7], Wd f fl g gl hh v tx)) rfl ?_
      refine WP.br hP_30 (q := 64 ≤ l7) (t := 109) (f := 95) (L := [some (.ref 35), some (.ref 32), none, none, some (.ref 37), none, some (.int l6), some (.int l7), some (.int l8), some (.int ((((g 34) l8.toNatClampNeg) >>> ((12 : Int32) &&& (31 : Int32))) : Int32)), some (.int (((g 34) l8.toNatClampNeg) &&& (4095 : Int32))), none, none]) (st := []) (w := Wd f fl g gl hh v tx) rfl (fun c21 => ?_) (fun c21 => ?_)
      · have h22 := h20.1 c21
        refine WP.run hP_30 1 (c' := (112, [none, none, none, none, none, none, none, none, none, none, none, none, none], [.long (-9223372036854775808)], Wd f fl g gl hh v tx)) rfl ?_
        exact WP.ret hP_30 (r := some (.long (-9223372036854775808))) (w' := Wd f fl g gl hh v tx) rfl h22
      · have h23 := h20.2 c21
        refine WP.run hP_30 2 (c' := (98, [some (.ref 35), some (.ref 32), none, none, some (.ref 37), none, some (.int l6), some (.int l7), some (.int l8), some (.int ((((g 34) l8.toNatClampNeg) >>> ((12 : Int32) &&& (31 : Int32))) : Int32)), some (.int (((g 34) l8.toNatClampNeg) &&& (4095 : Int32))), none, none], [.int 1, .int ((((g 34) l8.toNatClampNeg) >>> ((12 : Int32) &&& (31 : Int32))) : Int32)], Wd f fl g gl hh v tx)) rfl ?_
        refine WP.br hP_30 (q := ¬ ((((g 34) l8.toNatClampNeg) >>> ((12 : Int32) &&& (31 : Int32))) : Int32) = 1) (t := 113) (f := 101) (L := [some (.ref 35), some (.ref 32), none, none, some (.ref 37), none, some (.int l6), some (.int l7), some (.int l8), some (.int ((((g 34) l8.toNatClampNeg) >>> ((12 : Int32) &&& (31 : Int32))) : Int32)), some (.int (((g 34) l8.toNatClampNeg) &&& (4095 : Int32))), none, none]) (st := []) (w := Wd f fl g gl hh v tx) rfl (fun c24 => ?_) (fun c24 => ?_)
        · have h25 := h23.1 c24
          exact h25
        · have h26 := h23.2 (Classical.not_not.mp c24)
          refine WP.run hP_30 3 (c' := (106, [some (.ref 35), some (.ref 32), none, none, some (.ref 37), none, some (.int l6), some (.int l7), some (.int l8), some (.int ((((g 34) l8.toNatClampNeg) >>> ((12 : Int32) &&& (31 : Int32))) : Int32)), some (.int (((g 34) l8.toNatClampNeg) &&& (4095 : Int32))), none, none], [.int 11, .int (((g 34) l8.toNatClampNeg) &&& (4095 : Int32))], Wd f fl g gl hh v tx)) rfl ?_
          refine WP.br hP_30 (q := (((g 34) l8.toNatClampNeg) &&& (4095 : Int32)) < 11) (t := 113) (f := 109) (L := [some (.ref 35), some (.ref 32), none, none, some (.ref 37), none, some (.int l6), some (.int l7), some (.int l8), some (.int ((((g 34) l8.toNatClampNeg) >>> ((12 : Int32) &&& (31 : Int32))) : Int32)), some (.int (((g 34) l8.toNatClampNeg) &&& (4095 : Int32))), none, none]) (st := []) (w := Wd f fl g gl hh v tx) rfl (fun c27 => ?_) (fun c27 => ?_)
          · have h28 := h26.1 c27
            exact h28
          · have h29 := h26.2 c27
            refine WP.run hP_30 1 (c' := (112, [none, none, none, none, none, none, none, none, none, none, none, none, none], [.long (-9223372036854775808)], Wd f fl g gl hh v tx)) rfl ?_
            exact WP.ret hP_30 (r := some (.long (-9223372036854775808))) (w' := Wd f fl g gl hh v tx) rfl h29

set_option maxRecDepth 20000 in
theorem b_yma_value_35_32_37_167 (X : mm_X) (d : Nat) (f : Nat → Int32) (fl : Nat → Int64) (g : Nat → Nat → Int32) (gl : Nat → Nat → Int64) (hh : Nat → Nat → Option Nat) (v : Nat → Value) (tx : mm_W) (l6 : Int32) (l7 : Int32) (l8 : Int32) (l9 : Int32) (l10 : Int32)  (P : Option Value → mm_W → Prop)
    (h : ((¬ l9 = 10) → (((l9 ≤ 10) → ((¬ ((l7 - (2 : Int32)) < 0 ∨ 64 ≤ (l7 - (2 : Int32)).toNatClampNeg)) ∧ ((¬ ((l7 - (1 : Int32)) < 0 ∨ 64 ≤ (l7 - (1 : Int32)).toNatClampNeg)) ∧ WP X (d) 31 (0, [some (.int l9), some (.long ((gl 36) (l7 - (2 : Int32)).toNatClampNeg)), none, some (.long ((gl 36) (l7 - (1 : Int32)).toNatClampNeg)), none], [], Wd f fl g gl hh v tx) (fun rv w2 => WP X (d + 1) 30 (308, [some (.ref 35), some (.ref 32), none, none, some (.ref 37), none, some (.int l6), some (.int l7), some (.int l8), some (.int l9), none, none, none], rv.toList ++ [], w2) P)))) ∧
      ((¬ (l9 ≤ 10)) → ((¬ ((l7 - (1 : Int32)) < 0 ∨ 64 ≤ (l7 - (1 : Int32)).toNatClampNeg)) ∧ (((¬ (lg_cmp ((gl 36) (l7 - (1 : Int32)).toNatClampNeg) 1) = 0) → WP X (d + 1) 30 (223, [some (.ref 35), some (.ref 32), none, none, some (.ref 37), none, some (.int l6), some (.int l7), some (.int l8), some (.int l9), some (.int l10), none, none], [.int 0], Wd f fl g gl hh v tx) P) ∧
        (((lg_cmp ((gl 36) (l7 - (1 : Int32)).toNatClampNeg) 1) = 0) → WP X (d + 1) 30 (223, [some (.ref 35), some (.ref 32), none, none, some (.ref 37), none, some (.int l6), some (.int l7), some (.int l8), some (.int l9), some (.int l10), none, none], [.int 1], Wd f fl g gl hh v tx) P)))))) ∧
    ((l9 = 10) → ((¬ ((l7 - (1 : Int32)) < 0 ∨ 64 ≤ (l7 - (1 : Int32)).toNatClampNeg)) ∧ ((¬ ((l7 - (1 : Int32)) < 0 ∨ 64 ≤ (l7 - (1 : Int32)).toNatClampNeg)) ∧ WP X (d + 1) 30 (47, [some (.ref 35), some (.ref 32), none, none, some (.ref 37), none, some (.int l6), some (.int l7), some (.int (l8 + (1 : Int32))), none, none, none, none], [], Wd f fl g (va_up gl 36 (vp_updL (gl 36) ((l7 - (1 : Int32)).toNatClampNeg) ((1 : Int64) - ((gl 36) (l7 - (1 : Int32)).toNatClampNeg)))) hh v tx) P)))) :
    WP X (d + 1) 30 (167, [some (.ref 35), some (.ref 32), none, none, some (.ref 37), none, some (.int l6), some (.int l7), some (.int l8), some (.int l9), some (.int l10), none, none], [], Wd f fl g gl hh v tx) P := by
  refine WP.run hP_30 2 (c' := (171, [some (.ref 35), some (.ref 32), none, none, some (.ref 37), none, some (.int l6), some (.int l7), some (.int l8), some (.int l9), some (.int l10), none, none], [.int 10, .int l9], Wd f fl g gl hh v tx)) rfl ?_
  refine WP.br hP_30 (q := ¬ l9 = 10) (t := 197) (f := 174) (L := [some (.ref 35), some (.ref 32), none, none, some (.ref 37), none, some (.int l6), some (.int l7), some (.int l8), some (.int l9), some (.int l10), none, none]) (st := []) (w := Wd f fl g gl hh v tx) rfl (fun c1 => ?_) (fun c1 => ?_)
  · have h2 := h.1 c1
    refine WP.run hP_30 2 (c' := (201, [some (.ref 35), some (.ref 32), none, none, some (.ref 37), none, some (.int l6), some (.int l7), some (.int l8), some (.int l9), some (.int l10), none, none], [.int 10, .int l9], Wd f fl g gl hh v tx)) rfl ?_
    refine WP.br hP_30 (q := l9 ≤ 10) (t := 285) (f := 204) (L := [some (.ref 35), some (.ref 32), none, none, some (.ref 37), none, some (.int l6), some (.int l7), some (.int l8), some (.int l9), some (.int l10), none, none]) (st := []) (w := Wd f fl g gl hh v tx) rfl (fun c3 => ?_) (fun c3 => ?_)
    · have h4 := h2.1 c3
      refine WP.run hP_30 6 (c' := (295, [some (.ref 35), some (.ref 32), none, none, some (.ref 37), none, some (.int l6), some (.int l7), some (.int l8), some (.int l9), none, none, none], [.int (l7 - (2 : Int32)), .ref 36, .int l9], Wd f fl g gl hh v tx)) rfl ?_
      refine WP.of (fun _ _ => Ex.lald hP_30 rfl (Wa_36 _ _ _ _ _ _ _) h4.1) ?_
      have h5 := h4.2
      refine WP.run hP_30 5 (c' := (304, [some (.ref 35), some (.ref 32), none, none, some (.ref 37), none, some (.int l6), some (.int l7), some (.int l8), some (.int l9), none, none, none], [.int (l7 - (1 : Int32)), .ref 36, .long ((gl 36) (l7 - (2 : Int32)).toNatClampNeg), .int l9], Wd f fl g gl hh v tx)) rfl ?_
      refine WP.of (fun _ _ => Ex.lald hP_30 rfl (Wa_36 _ _ _ _ _ _ _) h5.1) ?_
      have h6 := h5.2
      refine WP.call hP_30 hP_31 (as := [.int l9, .long ((gl 36) (l7 - (2 : Int32)).toNatClampNeg), .long ((gl 36) (l7 - (1 : Int32)).toNatClampNeg)]) (pc' := 308) (L' := [some (.ref 35), some (.ref 32), none, none, some (.ref 37), none, some (.int l6), some (.int l7), some (.int l8), some (.int l9), none, none, none]) (st' := []) (w1 := Wd f fl g gl hh v tx) rfl ⟨Nat.le_of_ble_eq_true rfl, Nat.le_of_ble_eq_true rfl⟩ rfl ?_
      exact h6
    · have h7 := h2.2 c3
      refine WP.run hP_30 5 (c' := (212, [some (.ref 35), some (.ref 32), none, none, some (.ref 37), none, some (.int l6), some (.int l7), some (.int l8), some (.int l9), some (.int l10), none, none], [.int (l7 - (1 : Int32)), .ref 36], Wd f fl g gl hh v tx)) rfl ?_
      refine WP.of (fun _ _ => Ex.lald hP_30 rfl (Wa_36 _ _ _ _ _ _ _) h7.1) ?_
      have h8 := h7.2
      refine WP.run hP_30 2 (c' := (215, [some (.ref 35), some (.ref 32), none, none, some (.ref 37), none, some (.int l6), some (.int l7), some (.int l8), some (.int l9), some (.int l10), none, none], [.int (lg_cmp ((gl 36) (l7 - (1 : Int32)).toNatClampNeg) 1)], Wd f fl g gl hh v tx)) rfl ?_
      refine WP.br hP_30 (q := ¬ (lg_cmp ((gl 36) (l7 - (1 : Int32)).toNatClampNeg) 1) = 0) (t := 222) (f := 218) (L := [some (.ref 35), some (.ref 32), none, none, some (.ref 37), none, some (.int l6), some (.int l7), some (.int l8), some (.int l9), some (.int l10), none, none]) (st := []) (w := Wd f fl g gl hh v tx) rfl (fun c9 => ?_) (fun c9 => ?_)
      · have h10 := h8.1 c9
        refine WP.run hP_30 1 (c' := (223, [some (.ref 35), some (.ref 32), none, none, some (.ref 37), none, some (.int l6), some (.int l7), some (.int l8), some (.int l9), some (.int l10), none, none], [.int 0], Wd f fl g gl hh v tx)) rfl ?_
        exact h10
      · have h11 := h8.2 (Classical.not_not.mp c9)
        refine WP.run hP_30 2 (c' := (223, [some (.ref 35), some (.ref 32), none, none, some (.ref 37), none, some (.int l6), some (.int l7), some (.int l8), some (.int l9), some (.int l10), none, none], [.int 1], Wd f fl g gl hh v tx)) rfl ?_
        exact h11
  · have h12 := h.2 (Classical.not_not.mp c1)
    refine WP.run hP_30 11 (c' := (191, [some (.ref 35), some (.ref 32), none, none, some (.ref 37), none, some (.int l6), some (.int l7), some (.int l8), some (.int l9), some (.int l10), none, none], [.int (l7 - (1 : Int32)), .ref 36, .long 1, .int (l7 - (1 : Int32)), .ref 36], Wd f fl g gl hh v tx)) rfl ?_
    refine WP.of (fun _ _ => Ex.lald hP_30 rfl (Wa_36 _ _ _ _ _ _ _) h12.1) ?_
    have h13 := h12.2
    refine WP.run hP_30 1 (c' := (193, [some (.ref 35), some (.ref 32), none, none, some (.ref 37), none, some (.int l6), some (.int l7), some (.int l8), some (.int l9), some (.int l10), none, none], [.long ((1 : Int64) - ((gl 36) (l7 - (1 : Int32)).toNatClampNeg)), .int (l7 - (1 : Int32)), .ref 36], Wd f fl g gl hh v tx)) rfl ?_
    refine WP.of (fun _ _ => Ex.last hP_30 (w2 := Wd f fl g (va_up gl 36 (vp_updL (gl 36) ((l7 - (1 : Int32)).toNatClampNeg) ((1 : Int64) - ((gl 36) (l7 - (1 : Int32)).toNatClampNeg)))) hh v tx) rfl (Wa_36 _ _ _ _ _ _ _) h13.1 (Ws_36 _ _ _ _ _ _ _ _)) ?_
    have h14 := h13.2
    refine WP.run hP_30 3 (c' := (47, [some (.ref 35), some (.ref 32), none, none, some (.ref 37), none, some (.int l6), some (.int l7), some (.int (l8 + (1 : Int32))), none, none, none, none], [], Wd f fl g (va_up gl 36 (vp_updL (gl 36) ((l7 - (1 : Int32)).toNatClampNeg) ((1 : Int64) - ((gl 36) (l7 - (1 : Int32)).toNatClampNeg)))) hh v tx)) rfl ?_
    exact h14

set_option maxRecDepth 20000 in
theorem b_yma_value_35_32_37_113 (X : mm_X) (d : Nat) (f : Nat → Int32) (fl : Nat → Int64) (g : Nat → Nat → Int32) (gl : Nat → Nat → Int64) (hh : Nat → Nat → Option Nat) (v : Nat → Value) (tx : mm_W) (l6 : Int32) (l7 : Int32) (l8 : Int32) (l9 : Int32) (l10 : Int32)  (P : Option Value → mm_W → Prop)
    (h : ((¬ l9 = 1) → ((¬ (l7 < 0 ∨ 64 ≤ l7.toNatClampNeg)) ∧ WP X (d) 30 (47, [some (.ref 35), some (.ref 32), none, none, some (.ref 37), none, some (.int l6), some (.int (l7 + (1 : Int32))), some (.int (l8 + (1 : Int32))), none, none, none, none], [], Wd f fl g (va_up gl 36 (vp_updL (gl 36) (l7.toNatClampNeg) ((l10 : Int32).toInt64))) hh v tx) P)) ∧
    ((l9 = 1) → ((¬ (l10 < 0 ∨ 11 ≤ l10.toNatClampNeg)) ∧ ((¬ (l7 < 0 ∨ 64 ≤ l7.toNatClampNeg)) ∧ WP X (d) 30 (47, [some (.ref 35), some (.ref 32), none, none, some (.ref 37), none, some (.int l6), some (.int (l7 + (1 : Int32))), some (.int (l8 + (1 : Int32))), none, none, none, none], [], Wd f fl g (va_up gl 36 (vp_updL (gl 36) (l7.toNatClampNeg) ((((g 37) l10.toNatClampNeg) : Int32).toInt64))) hh v tx) P)))) :
    WP X (d) 30 (113, [some (.ref 35), some (.ref 32), none, none, some (.ref 37), none, some (.int l6), some (.int l7), some (.int l8), some (.int l9), some (.int l10), none, none], [], Wd f fl g gl hh v tx) P := by
  refine WP.run hP_30 5 (c' := (122, [some (.ref 35), some (.ref 32), none, none, some (.ref 37), none, some (.int l6), some (.int l7), some (.int l8), some (.int l9), some (.int l10), none, none], [.int 1, .int l9, .int l7, .ref 36], Wd f fl g gl hh v tx)) rfl ?_
  refine WP.br hP_30 (q := ¬ l9 = 1) (t := 134) (f := 125) (L := [some (.ref 35), some (.ref 32), none, none, some (.ref 37), none, some (.int l6), some (.int l7), some (.int l8), some (.int l9), some (.int l10), none, none]) (st := [.int l7, .ref 36]) (w := Wd f fl g gl hh v tx) rfl (fun c1 => ?_) (fun c1 => ?_)
  · have h2 := h.1 c1
    refine WP.run hP_30 2 (c' := (137, [some (.ref 35), some (.ref 32), none, none, some (.ref 37), none, some (.int l6), some (.int l7), some (.int l8), none, some (.int l10), none, none], [.long ((l10 : Int32).toInt64), .int l7, .ref 36], Wd f fl g gl hh v tx)) rfl ?_
    refine WP.of (fun _ _ => Ex.last hP_30 (w2 := Wd f fl g (va_up gl 36 (vp_updL (gl 36) (l7.toNatClampNeg) ((l10 : Int32).toInt64))) hh v tx) rfl (Wa_36 _ _ _ _ _ _ _) h2.1 (Ws_36 _ _ _ _ _ _ _ _)) ?_
    have h3 := h2.2
    refine WP.run hP_30 2 (c' := (346, [some (.ref 35), some (.ref 32), none, none, some (.ref 37), none, some (.int l6), some (.int (l7 + (1 : Int32))), some (.int l8), none, none, none, none], [], Wd f fl g (va_up gl 36 (vp_updL (gl 36) (l7.toNatClampNeg) ((l10 : Int32).toInt64))) hh v tx)) rfl ?_
    refine WP.run hP_30 2 (c' := (47, [some (.ref 35), some (.ref 32), none, none, some (.ref 37), none, some (.int l6), some (.int (l7 + (1 : Int32))), some (.int (l8 + (1 : Int32))), none, none, none, none], [], Wd f fl g (va_up gl 36 (vp_updL (gl 36) (l7.toNatClampNeg) ((l10 : Int32).toInt64))) hh v tx)) rfl ?_
    exact h3
  · have h4 := h.2 (Classical.not_not.mp c1)
    refine WP.run hP_30 2 (c' := (129, [some (.ref 35), some (.ref 32), none, none, some (.ref 37), none, some (.int l6), some (.int l7), some (.int l8), some (.int l9), some (.int l10), none, none], [.int l10, .ref 37, .int l7, .ref 36], Wd f fl g gl hh v tx)) rfl ?_
    refine WP.of (fun _ _ => Ex.iald hP_30 rfl (Wa_37 _ _ _ _ _ _ _) h4.1) ?_
    have h5 := h4.2
    refine WP.run hP_30 2 (c' := (137, [some (.ref 35), some (.ref 32), none, none, some (.ref 37), none, some (.int l6), some (.int l7), some (.int l8), some (.int l9), some (.int l10), none, none], [.long ((((g 37) l10.toNatClampNeg) : Int32).toInt64), .int l7, .ref 36], Wd f fl g gl hh v tx)) rfl ?_
    refine WP.of (fun _ _ => Ex.last hP_30 (w2 := Wd f fl g (va_up gl 36 (vp_updL (gl 36) (l7.toNatClampNeg) ((((g 37) l10.toNatClampNeg) : Int32).toInt64))) hh v tx) rfl (Wa_36 _ _ _ _ _ _ _) h5.1 (Ws_36 _ _ _ _ _ _ _ _)) ?_
    have h6 := h5.2
    refine WP.run hP_30 2 (c' := (346, [some (.ref 35), some (.ref 32), none, none, some (.ref 37), none, some (.int l6), some (.int (l7 + (1 : Int32))), some (.int l8), none, none, none, none], [], Wd f fl g (va_up gl 36 (vp_updL (gl 36) (l7.toNatClampNeg) ((((g 37) l10.toNatClampNeg) : Int32).toInt64))) hh v tx)) rfl ?_
    refine WP.run hP_30 2 (c' := (47, [some (.ref 35), some (.ref 32), none, none, some (.ref 37), none, some (.int l6), some (.int (l7 + (1 : Int32))), some (.int (l8 + (1 : Int32))), none, none, none, none], [], Wd f fl g (va_up gl 36 (vp_updL (gl 36) (l7.toNatClampNeg) ((((g 37) l10.toNatClampNeg) : Int32).toInt64))) hh v tx)) rfl ?_
    exact h6

set_option maxRecDepth 20000 in
theorem b_yma_value_35_32_37_308 (X : mm_X) (d : Nat) (f : Nat → Int32) (fl : Nat → Int64) (g : Nat → Nat → Int32) (gl : Nat → Nat → Int64) (hh : Nat → Nat → Option Nat) (v : Nat → Value) (tx : mm_W) (l6 : Int32) (l7 : Int32) (l8 : Int32) (l9 : Int32) (s0 : Int64)  (P : Option Value → mm_W → Prop)
    (h : ((0 < (lg_cmp s0 1000000000)) → P (some (.long (-9223372036854775808))) (Wd f fl g gl hh v tx)) ∧
    ((¬ (0 < (lg_cmp s0 1000000000))) → (((0 ≤ (lg_cmp s0 (-1000000000))) → ((¬ (((l7 + (-1 : Int32)) - (1 : Int32)) < 0 ∨ 64 ≤ ((l7 + (-1 : Int32)) - (1 : Int32)).toNatClampNeg)) ∧ WP X (d) 30 (47, [some (.ref 35), some (.ref 32), none, none, some (.ref 37), none, some (.int l6), some (.int (l7 + (-1 : Int32))), some (.int (l8 + (1 : Int32))), none, none, none, none], [], Wd f fl g (va_up gl 36 (vp_updL (gl 36) (((l7 + (-1 : Int32)) - (1 : Int32)).toNatClampNeg) s0)) hh v tx) P)) ∧
      ((¬ (0 ≤ (lg_cmp s0 (-1000000000)))) → P (some (.long (-9223372036854775808))) (Wd f fl g gl hh v tx))))) :
    WP X (d) 30 (308, [some (.ref 35), some (.ref 32), none, none, some (.ref 37), none, some (.int l6), some (.int l7), some (.int l8), some (.int l9), none, none, none], [.long s0], Wd f fl g gl hh v tx) P := by
  refine WP.run hP_30 4 (c' := (316, [some (.ref 35), some (.ref 32), none, none, some (.ref 37), none, some (.int l6), some (.int l7), some (.int l8), some (.int l9), none, some (.long s0), none], [.int (lg_cmp s0 1000000000)], Wd f fl g gl hh v tx)) rfl ?_
  refine WP.br hP_30 (q := 0 < (lg_cmp s0 1000000000)) (t := 328) (f := 319) (L := [some (.ref 35), some (.ref 32), none, none, some (.ref 37), none, some (.int l6), some (.int l7), some (.int l8), some (.int l9), none, some (.long s0), none]) (st := []) (w := Wd f fl g gl hh v tx) rfl (fun c1 => ?_) (fun c1 => ?_)
  · have h2 := h.1 c1
    refine WP.run hP_30 1 (c' := (331, [none, none, none, none, none, none, none, none, none, none, none, none, none], [.long (-9223372036854775808)], Wd f fl g gl hh v tx)) rfl ?_
    exact WP.ret hP_30 (r := some (.long (-9223372036854775808))) (w' := Wd f fl g gl hh v tx) rfl h2
  · have h3 := h.2 c1
    refine WP.run hP_30 3 (c' := (325, [some (.ref 35), some (.ref 32), none, none, some (.ref 37), none, some (.int l6), some (.int l7), some (.int l8), some (.int l9), none, some (.long s0), none], [.int (lg_cmp s0 (-1000000000))], Wd f fl g gl hh v tx)) rfl ?_
    refine WP.br hP_30 (q := 0 ≤ (lg_cmp s0 (-1000000000))) (t := 332) (f := 328) (L := [some (.ref 35), some (.ref 32), none, none, some (.ref 37), none, some (.int l6), some (.int l7), some (.int l8), some (.int l9), none, some (.long s0), none]) (st := []) (w := Wd f fl g gl hh v tx) rfl (fun c4 => ?_) (fun c4 => ?_)
    · have h5 := h3.1 c4
      refine WP.run hP_30 7 (c' := (345, [some (.ref 35), some (.ref 32), none, none, some (.ref 37), none, some (.int l6), some (.int (l7 + (-1 : Int32))), some (.int l8), none, none, some (.long s0), none], [.long s0, .int ((l7 + (-1 : Int32)) - (1 : Int32)), .ref 36], Wd f fl g gl hh v tx)) rfl ?_
      refine WP.of (fun _ _ => Ex.last hP_30 (w2 := Wd f fl g (va_up gl 36 (vp_updL (gl 36) (((l7 + (-1 : Int32)) - (1 : Int32)).toNatClampNeg) s0)) hh v tx) rfl (Wa_36 _ _ _ _ _ _ _) h5.1 (Ws_36 _ _ _ _ _ _ _ _)) ?_
      have h6 := h5.2
      refine WP.run hP_30 2 (c' := (47, [some (.ref 35), some (.ref 32), none, none, some (.ref 37), none, some (.int l6), some (.int (l7 + (-1 : Int32))), some (.int (l8 + (1 : Int32))), none, none, none, none], [], Wd f fl g (va_up gl 36 (vp_updL (gl 36) (((l7 + (-1 : Int32)) - (1 : Int32)).toNatClampNeg) s0)) hh v tx)) rfl ?_
      exact h6
    · have h7 := h3.2 c4
      refine WP.run hP_30 1 (c' := (331, [none, none, none, none, none, none, none, none, none, none, none, none, none], [.long (-9223372036854775808)], Wd f fl g gl hh v tx)) rfl ?_
      exact WP.ret hP_30 (r := some (.long (-9223372036854775808))) (w' := Wd f fl g gl hh v tx) rfl h7

set_option maxRecDepth 20000 in
theorem b_yma_value_35_32_37_223 (X : mm_X) (d : Nat) (f : Nat → Int32) (fl : Nat → Int64) (g : Nat → Nat → Int32) (gl : Nat → Nat → Int64) (hh : Nat → Nat → Option Nat) (v : Nat → Value) (tx : mm_W) (l6 : Int32) (l7 : Int32) (l8 : Int32) (l9 : Int32) (l10 : Int32) (s0 : Int32)  (P : Option Value → mm_W → Prop)
    (h : ((¬ l9 = 11) → WP X (d) 30 (235, [some (.ref 35), some (.ref 32), none, none, some (.ref 37), none, some (.int l6), some (.int l7), some (.int l8), none, some (.int l10), none, none], [.int 0, .int s0], Wd f fl g gl hh v tx) P) ∧
    ((l9 = 11) → WP X (d) 30 (235, [some (.ref 35), some (.ref 32), none, none, some (.ref 37), none, some (.int l6), some (.int l7), some (.int l8), none, some (.int l10), none, none], [.int 1, .int s0], Wd f fl g gl hh v tx) P)) :
    WP X (d) 30 (223, [some (.ref 35), some (.ref 32), none, none, some (.ref 37), none, some (.int l6), some (.int l7), some (.int l8), some (.int l9), some (.int l10), none, none], [.int s0], Wd f fl g gl hh v tx) P := by
  refine WP.run hP_30 2 (c' := (227, [some (.ref 35), some (.ref 32), none, none, some (.ref 37), none, some (.int l6), some (.int l7), some (.int l8), some (.int l9), some (.int l10), none, none], [.int 11, .int l9, .int s0], Wd f fl g gl hh v tx)) rfl ?_
  refine WP.br hP_30 (q := ¬ l9 = 11) (t := 234) (f := 230) (L := [some (.ref 35), some (.ref 32), none, none, some (.ref 37), none, some (.int l6), some (.int l7), some (.int l8), some (.int l9), some (.int l10), none, none]) (st := [.int s0]) (w := Wd f fl g gl hh v tx) rfl (fun c1 => ?_) (fun c1 => ?_)
  · have h2 := h.1 c1
    refine WP.run hP_30 1 (c' := (235, [some (.ref 35), some (.ref 32), none, none, some (.ref 37), none, some (.int l6), some (.int l7), some (.int l8), none, some (.int l10), none, none], [.int 0, .int s0], Wd f fl g gl hh v tx)) rfl ?_
    exact h2
  · have h3 := h.2 (Classical.not_not.mp c1)
    refine WP.run hP_30 2 (c' := (235, [some (.ref 35), some (.ref 32), none, none, some (.ref 37), none, some (.int l6), some (.int l7), some (.int l8), some (.int l9), some (.int l10), none, none], [.int 1, .int s0], Wd f fl g gl hh v tx)) rfl ?_
    refine WP.clr hP_30 (pc := 235) rfl ?_
    exact h3

set_option maxRecDepth 20000 in
theorem b_yma_value_35_32_37_235 (X : mm_X) (d : Nat) (f : Nat → Int32) (fl : Nat → Int64) (g : Nat → Nat → Int32) (gl : Nat → Nat → Int64) (hh : Nat → Nat → Option Nat) (v : Nat → Value) (tx : mm_W) (l6 : Int32) (l7 : Int32) (l8 : Int32) (l10 : Int32) (s0 : Int32) (s1 : Int32)  (P : Option Value → mm_W → Prop)
    (h : ((¬ s1 = s0) → WP X (d) 30 (243, [some (.ref 35), some (.ref 32), none, none, some (.ref 37), none, some (.int l6), some (.int l7), some (.int l8), none, some (.int l10), none, none], [.int 0], Wd f fl g gl hh v tx) P) ∧
    ((s1 = s0) → WP X (d) 30 (243, [some (.ref 35), some (.ref 32), none, none, some (.ref 37), none, some (.int l6), some (.int l7), some (.int l8), none, some (.int l10), none, none], [.int 1], Wd f fl g gl hh v tx) P)) :
    WP X (d) 30 (235, [some (.ref 35), some (.ref 32), none, none, some (.ref 37), none, some (.int l6), some (.int l7), some (.int l8), none, some (.int l10), none, none], [.int s0, .int s1], Wd f fl g gl hh v tx) P := by
  refine WP.br hP_30 (q := ¬ s1 = s0) (t := 242) (f := 238) (L := [some (.ref 35), some (.ref 32), none, none, some (.ref 37), none, some (.int l6), some (.int l7), some (.int l8), none, some (.int l10), none, none]) (st := []) (w := Wd f fl g gl hh v tx) rfl (fun c1 => ?_) (fun c1 => ?_)
  · have h2 := h.1 c1
    refine WP.run hP_30 1 (c' := (243, [some (.ref 35), some (.ref 32), none, none, some (.ref 37), none, some (.int l6), some (.int l7), some (.int l8), none, some (.int l10), none, none], [.int 0], Wd f fl g gl hh v tx)) rfl ?_
    exact h2
  · have h3 := h.2 (Classical.not_not.mp c1)
    refine WP.run hP_30 2 (c' := (243, [some (.ref 35), some (.ref 32), none, none, some (.ref 37), none, some (.int l6), some (.int l7), some (.int l8), none, some (.int l10), none, none], [.int 1], Wd f fl g gl hh v tx)) rfl ?_
    exact h3

set_option maxRecDepth 20000 in
theorem b_yma_value_35_32_37_243 (X : mm_X) (d : Nat) (f : Nat → Int32) (fl : Nat → Int64) (g : Nat → Nat → Int32) (gl : Nat → Nat → Int64) (hh : Nat → Nat → Option Nat) (v : Nat → Value) (tx : mm_W) (l6 : Int32) (l7 : Int32) (l8 : Int32) (l10 : Int32) (s0 : Int32)  (P : Option Value → mm_W → Prop)
    (h : ((s0 = 0) → WP X (d) 30 (264, [some (.ref 35), some (.ref 32), none, none, some (.ref 37), none, some (.int l6), some (.int l7), none, none, none, some (.int s0), none], [.int l8], Wd f fl g gl hh v tx) P) ∧
    ((¬ s0 = 0) → WP X (d) 30 (264, [some (.ref 35), some (.ref 32), none, none, some (.ref 37), none, some (.int l6), some (.int l7), none, none, none, some (.int s0), none], [.int (if l8 < (l10 - (1 : Int32)) then (l10 - (1 : Int32)) else l8)], Wd f fl g gl hh v tx) P)) :
    WP X (d) 30 (243, [some (.ref 35), some (.ref 32), none, none, some (.ref 37), none, some (.int l6), some (.int l7), some (.int l8), none, some (.int l10), none, none], [.int s0], Wd f fl g gl hh v tx) P := by
  refine WP.run hP_30 2 (c' := (247, [some (.ref 35), some (.ref 32), none, none, some (.ref 37), none, some (.int l6), some (.int l7), some (.int l8), none, some (.int l10), some (.int s0), none], [.int s0], Wd f fl g gl hh v tx)) rfl ?_
  refine WP.br hP_30 (q := s0 = 0) (t := 262) (f := 250) (L := [some (.ref 35), some (.ref 32), none, none, some (.ref 37), none, some (.int l6), some (.int l7), some (.int l8), none, some (.int l10), some (.int s0), none]) (st := []) (w := Wd f fl g gl hh v tx) rfl (fun c1 => ?_) (fun c1 => ?_)
  · have h2 := h.1 c1
    refine WP.run hP_30 1 (c' := (264, [some (.ref 35), some (.ref 32), none, none, some (.ref 37), none, some (.int l6), some (.int l7), some (.int l8), none, none, some (.int s0), none], [.int l8], Wd f fl g gl hh v tx)) rfl ?_
    refine WP.clr hP_30 (pc := 264) rfl ?_
    exact h2
  · have h3 := h.2 c1
    refine WP.run hP_30 6 (c' := (264, [some (.ref 35), some (.ref 32), none, none, some (.ref 37), none, some (.int l6), some (.int l7), some (.int l8), none, some (.int l10), some (.int s0), none], [.int (if l8 < (l10 - (1 : Int32)) then (l10 - (1 : Int32)) else l8)], Wd f fl g gl hh v tx)) rfl ?_
    refine WP.clr hP_30 (pc := 264) rfl ?_
    exact h3

set_option maxRecDepth 20000 in
theorem b_yma_value_35_32_37_264 (X : mm_X) (d : Nat) (f : Nat → Int32) (fl : Nat → Int64) (g : Nat → Nat → Int32) (gl : Nat → Nat → Int64) (hh : Nat → Nat → Option Nat) (v : Nat → Value) (tx : mm_W) (l6 : Int32) (l7 : Int32) (l11 : Int32) (s0 : Int32)  (P : Option Value → mm_W → Prop)
    (h : ((l11 = 0) → WP X (d) 30 (47, [some (.ref 35), some (.ref 32), none, none, some (.ref 37), none, some (.int l6), some (.int (l7 - (1 : Int32))), some (.int (s0 + (1 : Int32))), none, none, none, none], [], Wd f fl g gl hh v tx) P) ∧
    ((¬ l11 = 0) → WP X (d) 30 (47, [some (.ref 35), some (.ref 32), none, none, some (.ref 37), none, some (.int l6), some (.int l7), some (.int (s0 + (1 : Int32))), none, none, none, none], [], Wd f fl g gl hh v tx) P)) :
    WP X (d) 30 (264, [some (.ref 35), some (.ref 32), none, none, some (.ref 37), none, some (.int l6), some (.int l7), none, none, none, some (.int l11), none], [.int s0], Wd f fl g gl hh v tx) P := by
  refine WP.run hP_30 2 (c' := (268, [some (.ref 35), some (.ref 32), none, none, some (.ref 37), none, some (.int l6), some (.int l7), some (.int s0), none, none, some (.int l11), none], [.int l11], Wd f fl g gl hh v tx)) rfl ?_
  refine WP.br hP_30 (q := l11 = 0) (t := 276) (f := 271) (L := [some (.ref 35), some (.ref 32), none, none, some (.ref 37), none, some (.int l6), some (.int l7), some (.int s0), none, none, some (.int l11), none]) (st := []) (w := Wd f fl g gl hh v tx) rfl (fun c1 => ?_) (fun c1 => ?_)
  · have h2 := h.1 c1
    refine WP.run hP_30 3 (c' := (280, [some (.ref 35), some (.ref 32), none, none, some (.ref 37), none, some (.int l6), some (.int l7), some (.int s0), none, none, none, none], [.int (l7 - (1 : Int32))], Wd f fl g gl hh v tx)) rfl ?_
    refine WP.run hP_30 2 (c' := (346, [some (.ref 35), some (.ref 32), none, none, some (.ref 37), none, some (.int l6), some (.int (l7 - (1 : Int32))), some (.int s0), none, none, none, none], [], Wd f fl g gl hh v tx)) rfl ?_
    refine WP.run hP_30 2 (c' := (47, [some (.ref 35), some (.ref 32), none, none, some (.ref 37), none, some (.int l6), some (.int (l7 - (1 : Int32))), some (.int (s0 + (1 : Int32))), none, none, none, none], [], Wd f fl g gl hh v tx)) rfl ?_
    exact h2
  · have h3 := h.2 c1
    refine WP.run hP_30 4 (c' := (346, [some (.ref 35), some (.ref 32), none, none, some (.ref 37), none, some (.int l6), some (.int l7), some (.int s0), none, none, none, none], [], Wd f fl g gl hh v tx)) rfl ?_
    refine WP.run hP_30 2 (c' := (47, [some (.ref 35), some (.ref 32), none, none, some (.ref 37), none, some (.int l6), some (.int l7), some (.int (s0 + (1 : Int32))), none, none, none, none], [], Wd f fl g gl hh v tx)) rfl ?_
    exact h3
