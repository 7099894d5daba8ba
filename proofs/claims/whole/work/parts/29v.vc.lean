set_option maxRecDepth 20000 in
theorem b_x_facesOf_0 (X : mm_X) (d : Nat) (f : Nat → Int32) (fl : Nat → Int64) (g : Nat → Nat → Int32) (gl : Nat → Nat → Int64) (hh : Nat → Nat → Option Nat) (v : Nat → Value) (tx : mm_W) (p0 : Int32)  (P : Option Value → mm_W → Prop)
    (h : P (some (.int ((p0 / (10 : Int32)) - ((p0 / (10 : Int32)) / (4 : Int32)) * (4 : Int32)))) (Wd f fl g gl hh v tx)) :
    WP X (d) 111 (0, [some (.int p0)], [], Wd f fl g gl hh v tx) P := by
  refine WP.run hP_111 5 (c' := (6, [some (.int p0)], [.int ((p0 / (10 : Int32)) - ((p0 / (10 : Int32)) / (4 : Int32)) * (4 : Int32))], Wd f fl g gl hh v tx)) rfl ?_
  exact WP.retI hP_111 rfl rfl h

set_option maxRecDepth 20000 in
theorem b_x_cellOf_0 (X : mm_X) (d : Nat) (f : Nat → Int32) (fl : Nat → Int64) (g : Nat → Nat → Int32) (gl : Nat → Nat → Int64) (hh : Nat → Nat → Option Nat) (v : Nat → Value) (tx : mm_W) (p0 : Int32)  (P : Option Value → mm_W → Prop)
    (h : P (some (.int (p0 / (40 : Int32)))) (Wd f fl g gl hh v tx)) :
    WP X (d) 110 (0, [some (.int p0)], [], Wd f fl g gl hh v tx) P := by
  refine WP.run hP_110 3 (c' := (4, [some (.int p0)], [.int (p0 / (40 : Int32))], Wd f fl g gl hh v tx)) rfl ?_
  exact WP.retI hP_110 rfl rfl h

set_option maxRecDepth 20000 in
theorem b_x_powderOf_0 (X : mm_X) (d : Nat) (f : Nat → Int32) (fl : Nat → Int64) (g : Nat → Nat → Int32) (gl : Nat → Nat → Int64) (hh : Nat → Nat → Option Nat) (v : Nat → Value) (tx : mm_W) (p0 : Int32)  (P : Option Value → mm_W → Prop)
    (h : P (some (.int (p0 - (p0 / (10 : Int32)) * (10 : Int32)))) (Wd f fl g gl hh v tx)) :
    WP X (d) 112 (0, [some (.int p0)], [], Wd f fl g gl hh v tx) P := by
  refine WP.run hP_112 3 (c' := (4, [some (.int p0)], [.int (p0 - (p0 / (10 : Int32)) * (10 : Int32))], Wd f fl g gl hh v tx)) rfl ?_
  exact WP.retI hP_112 rfl rfl h

set_option maxRecDepth 20000 in
theorem b_x_refused_0 (X : mm_X) (d : Nat) (f : Nat → Int32) (fl : Nat → Int64) (g : Nat → Nat → Int32) (gl : Nat → Nat → Int64) (hh : Nat → Nat → Option Nat) (v : Nat → Value) (tx : mm_W) (p0 : Int32)  (P : Option Value → mm_W → Prop)
    (h : ((0 ≤ (-p0) ∧ (-p0) < (7 : Int32)) → ((¬ ((-p0) < 0 ∨ 7 ≤ (-p0).toNatClampNeg)) ∧ ((¬ ((-p0) < 0 ∨ 7 ≤ (-p0).toNatClampNeg)) ∧ P (some (.int p0)) (Wd (va_up f 18 p0) fl (va_up g 55 (upd (g 55) ((-p0).toNatClampNeg) (((g 55) (-p0).toNatClampNeg) + (1 : Int32)))) gl hh v tx)))) ∧
    ((¬ (0 ≤ (-p0) ∧ (-p0) < (7 : Int32))) → P (some (.int p0)) (Wd (va_up f 18 p0) fl g gl hh v tx))) :
    WP X (d + 1) 101 (0, [some (.ref 0), some (.int p0), none], [], Wd f fl g gl hh v tx) P := by
  refine WP.run hP_101 10 (c' := (14, [some (.ref 0), some (.int p0), some (.int (-p0))], [.int 7, .int (-p0)], Wd (va_up f 18 p0) fl g gl hh v tx)) rfl ?_
  refine WP.call hP_101 hP_99 (as := [.int (-p0), .int 7]) (pc' := 17) (L' := [some (.ref 0), some (.int p0), some (.int (-p0))]) (st' := []) (w1 := Wd (va_up f 18 p0) fl g gl hh v tx) rfl ⟨Nat.le_of_ble_eq_true rfl, Nat.le_of_ble_eq_true rfl⟩ rfl (b_within_m X (d) (va_up f 18 p0) fl g gl hh v tx (-p0) 7 _ ?_)
  refine ⟨fun c1 => ?_, fun c1 => ?_⟩
  · have h2 := h.1 c1
    refine WP.run hP_101 5 (c' := (26, [some (.ref 0), some (.int p0), some (.int (-p0))], [.int (-p0), .ref 55, .int (-p0), .ref 55], Wd (va_up f 18 p0) fl g gl hh v tx)) rfl ?_
    refine WP.of (fun _ _ => Ex.iald hP_101 rfl (Wa_55 _ _ _ _ _ _ _) h2.1) ?_
    have h3 := h2.2
    refine WP.run hP_101 2 (c' := (29, [some (.ref 0), some (.int p0), some (.int (-p0))], [.int (((g 55) (-p0).toNatClampNeg) + (1 : Int32)), .int (-p0), .ref 55], Wd (va_up f 18 p0) fl g gl hh v tx)) rfl ?_
    refine WP.of (fun _ _ => Ex.iast hP_101 (w2 := Wd (va_up f 18 p0) fl (va_up g 55 (upd (g 55) ((-p0).toNatClampNeg) (((g 55) (-p0).toNatClampNeg) + (1 : Int32)))) gl hh v tx) rfl (Wa_55 _ _ _ _ _ _ _) h3.1 (Ws_55 _ _ _ _ _ _ _ _)) ?_
    have h4 := h3.2
    refine WP.run hP_101 1 (c' := (31, [none, some (.int p0), none], [.int p0], Wd (va_up f 18 p0) fl (va_up g 55 (upd (g 55) ((-p0).toNatClampNeg) (((g 55) (-p0).toNatClampNeg) + (1 : Int32)))) gl hh v tx)) rfl ?_
    exact WP.retI hP_101 rfl rfl h4
  · have h5 := h.2 c1
    refine WP.run hP_101 2 (c' := (31, [none, some (.int p0), none], [.int p0], Wd (va_up f 18 p0) fl g gl hh v tx)) rfl ?_
    exact WP.retI hP_101 rfl rfl h5

set_option maxRecDepth 20000 in
theorem b_x_accepted_0 (X : mm_X) (d : Nat) (f : Nat → Int32) (fl : Nat → Int64) (g : Nat → Nat → Int32) (gl : Nat → Nat → Int64) (hh : Nat → Nat → Option Nat) (v : Nat → Value) (tx : mm_W) (p0 : Int32)  (P : Option Value → mm_W → Prop)
    (h : P (some (.int p0)) (Wd (va_up f 18 0) fl g gl hh v tx)) :
    WP X (d) 100 (0, [some (.ref 0), some (.int p0)], [], Wd f fl g gl hh v tx) P := by
  refine WP.run hP_100 4 (c' := (6, [some (.ref 0), some (.int p0)], [.int p0], Wd (va_up f 18 0) fl g gl hh v tx)) rfl ?_
  exact WP.retI hP_100 rfl rfl h

set_option maxRecDepth 20000 in
theorem b_x_ship_0 (X : mm_X) (d : Nat) (f : Nat → Int32) (fl : Nat → Int64) (g : Nat → Nat → Int32) (gl : Nat → Nat → Int64) (hh : Nat → Nat → Option Nat) (v : Nat → Value) (tx : mm_W) (p0 : Int32) (p1 : Int32) (p2 : Int32)  (P : Option Value → mm_W → Prop)
    (h : ((0 ≤ p0 ∧ p0 < (25 : Int32)) → (((0 ≤ p1 ∧ p1 < (4 : Int32)) → (((0 ≤ p2 ∧ p2 < (10 : Int32)) → ((((f 68) < 3) → ((¬ ((f 68) < 0 ∨ 3 ≤ (f 68).toNatClampNeg)) ∧ P (some (.int (((f 68) + (1 : Int32)) - (1 : Int32)))) (Wd (va_up (va_up (va_up f 68 ((f 68) + (1 : Int32))) 78 0) 18 0) fl (va_up g 5 (upd (g 5) ((f 68).toNatClampNeg) ((((p0 * (4 : Int32)) + p1) * (10 : Int32)) + p2))) gl hh v tx))) ∧
          ((¬ ((f 68) < 3)) → P (some (.int (-5))) (Wd (va_up f 18 (-5 : Int32)) fl (va_up g 55 (upd (g 55) (5) (((g 55) 5) + (1 : Int32)))) gl hh v tx)))) ∧
        ((¬ (0 ≤ p2 ∧ p2 < (10 : Int32))) → P (some (.int (-1))) (Wd (va_up f 18 (-1 : Int32)) fl (va_up g 55 (upd (g 55) (1) (((g 55) 1) + (1 : Int32)))) gl hh v tx)))) ∧
      ((¬ (0 ≤ p1 ∧ p1 < (4 : Int32))) → P (some (.int (-1))) (Wd (va_up f 18 (-1 : Int32)) fl (va_up g 55 (upd (g 55) (1) (((g 55) 1) + (1 : Int32)))) gl hh v tx)))) ∧
    ((¬ (0 ≤ p0 ∧ p0 < (25 : Int32))) → P (some (.int (-1))) (Wd (va_up f 18 (-1 : Int32)) fl (va_up g 55 (upd (g 55) (1) (((g 55) 1) + (1 : Int32)))) gl hh v tx))) :
    WP X (d + 2) 60 (0, [some (.ref 0), some (.int p0), some (.int p1), some (.int p2)], [], Wd f fl g gl hh v tx) P := by
  refine WP.run hP_60 2 (c' := (3, [some (.ref 0), some (.int p0), some (.int p1), some (.int p2)], [.int 25, .int p0], Wd f fl g gl hh v tx)) rfl ?_
  refine WP.call hP_60 hP_99 (as := [.int p0, .int 25]) (pc' := 6) (L' := [some (.ref 0), some (.int p0), some (.int p1), some (.int p2)]) (st' := []) (w1 := Wd f fl g gl hh v tx) rfl ⟨Nat.le_of_ble_eq_true rfl, Nat.le_of_ble_eq_true rfl⟩ rfl (b_within_m X (d + 1) f fl g gl hh v tx p0 25 _ ?_)
  refine ⟨fun c1 => ?_, fun c1 => ?_⟩
  · have h2 := h.1 c1
    refine WP.run hP_60 3 (c' := (11, [some (.ref 0), some (.int p0), some (.int p1), some (.int p2)], [.int 4, .int p1], Wd f fl g gl hh v tx)) rfl ?_
    refine WP.call hP_60 hP_99 (as := [.int p1, .int 4]) (pc' := 14) (L' := [some (.ref 0), some (.int p0), some (.int p1), some (.int p2)]) (st' := []) (w1 := Wd f fl g gl hh v tx) rfl ⟨Nat.le_of_ble_eq_true rfl, Nat.le_of_ble_eq_true rfl⟩ rfl (b_within_m X (d + 1) f fl g gl hh v tx p1 4 _ ?_)
    refine ⟨fun c3 => ?_, fun c3 => ?_⟩
    · have h4 := h2.1 c3
      refine WP.run hP_60 3 (c' := (20, [some (.ref 0), some (.int p0), some (.int p1), some (.int p2)], [.int 10, .int p2], Wd f fl g gl hh v tx)) rfl ?_
      refine WP.call hP_60 hP_99 (as := [.int p2, .int 10]) (pc' := 23) (L' := [some (.ref 0), some (.int p0), some (.int p1), some (.int p2)]) (st' := []) (w1 := Wd f fl g gl hh v tx) rfl ⟨Nat.le_of_ble_eq_true rfl, Nat.le_of_ble_eq_true rfl⟩ rfl (b_within_m X (d + 1) f fl g gl hh v tx p2 10 _ ?_)
      refine ⟨fun c5 => ?_, fun c5 => ?_⟩
      · have h6 := h4.1 c5
        refine WP.run hP_60 5 (c' := (40, [some (.ref 0), some (.int p0), some (.int p1), some (.int p2)], [.int 3, .int (f 68)], Wd f fl g gl hh v tx)) rfl ?_
        refine WP.br hP_60 (q := (f 68) < 3) (t := 50) (f := 43) (L := [some (.ref 0), some (.int p0), some (.int p1), some (.int p2)]) (st := []) (w := Wd f fl g gl hh v tx) rfl (fun c7 => ?_) (fun c7 => ?_)
        · have h8 := h6.1 c7
          refine WP.run hP_60 15 (c' := (74, [some (.ref 0), some (.int p0), some (.int p1), some (.int p2)], [.int ((((p0 * (4 : Int32)) + p1) * (10 : Int32)) + p2), .int (f 68), .ref 5], Wd f fl g gl hh v tx)) rfl ?_
          refine WP.of (fun _ _ => Ex.iast hP_60 (w2 := Wd f fl (va_up g 5 (upd (g 5) ((f 68).toNatClampNeg) ((((p0 * (4 : Int32)) + p1) * (10 : Int32)) + p2))) gl hh v tx) rfl (Wa_5 _ _ _ _ _ _ _) h8.1 (Ws_5 _ _ _ _ _ _ _ _)) ?_
          have h9 := h8.2
          refine WP.run hP_60 17 (c' := (106, [some (.ref 0), some (.int p0), some (.int p1), some (.int p2)], [.int (((f 68) + (1 : Int32)) - (1 : Int32)), .ref 0], Wd (va_up (va_up f 68 ((f 68) + (1 : Int32))) 78 0) fl (va_up g 5 (upd (g 5) ((f 68).toNatClampNeg) ((((p0 * (4 : Int32)) + p1) * (10 : Int32)) + p2))) gl hh v tx)) rfl ?_
          refine WP.call hP_60 hP_100 (as := [.ref 0, .int (((f 68) + (1 : Int32)) - (1 : Int32))]) (pc' := 109) (L' := [some (.ref 0), some (.int p0), some (.int p1), some (.int p2)]) (st' := []) (w1 := Wd (va_up (va_up f 68 ((f 68) + (1 : Int32))) 78 0) fl (va_up g 5 (upd (g 5) ((f 68).toNatClampNeg) ((((p0 * (4 : Int32)) + p1) * (10 : Int32)) + p2))) gl hh v tx) rfl ⟨Nat.le_of_ble_eq_true rfl, Nat.le_of_ble_eq_true rfl⟩ rfl (b_x_accepted_0 X (d + 1) (va_up (va_up f 68 ((f 68) + (1 : Int32))) 78 0) fl (va_up g 5 (upd (g 5) ((f 68).toNatClampNeg) ((((p0 * (4 : Int32)) + p1) * (10 : Int32)) + p2))) gl hh v tx (((f 68) + (1 : Int32)) - (1 : Int32)) _ ?_)
          exact WP.retI hP_60 rfl rfl h9
        · have h10 := h6.2 c7
          refine WP.run hP_60 2 (c' := (46, [some (.ref 0), some (.int p0), some (.int p1), some (.int p2)], [.int (-5), .ref 0], Wd f fl g gl hh v tx)) rfl ?_
          refine WP.call hP_60 hP_101 (as := [.ref 0, .int (-5)]) (pc' := 49) (L' := [some (.ref 0), some (.int p0), some (.int p1), some (.int p2)]) (st' := []) (w1 := Wd f fl g gl hh v tx) rfl ⟨Nat.le_of_ble_eq_true rfl, Nat.le_of_ble_eq_true rfl⟩ rfl (b_x_refused_0 X (d) f fl g gl hh v tx (-5) _ ?_)
          refine ⟨fun c11 => ?_, fun c => absurd c (by decide)⟩
          refine ⟨by decide, ?_⟩
          refine ⟨by decide, ?_⟩
          exact WP.retI hP_60 rfl rfl h10
      · have h12 := h4.2 c5
        refine WP.run hP_60 3 (c' := (28, [some (.ref 0), none, none, none], [.int (-1), .ref 0], Wd f fl g gl hh v tx)) rfl ?_
        refine WP.call hP_60 hP_101 (as := [.ref 0, .int (-1)]) (pc' := 31) (L' := [some (.ref 0), none, none, none]) (st' := []) (w1 := Wd f fl g gl hh v tx) rfl ⟨Nat.le_of_ble_eq_true rfl, Nat.le_of_ble_eq_true rfl⟩ rfl (b_x_refused_0 X (d) f fl g gl hh v tx (-1) _ ?_)
        refine ⟨fun c13 => ?_, fun c => absurd c (by decide)⟩
        refine ⟨by decide, ?_⟩
        refine ⟨by decide, ?_⟩
        exact WP.retI hP_60 rfl rfl h12
    · have h14 := h2.2 c3
      refine WP.run hP_60 3 (c' := (28, [some (.ref 0), none, none, none], [.int (-1), .ref 0], Wd f fl g gl hh v tx)) rfl ?_
      refine WP.call hP_60 hP_101 (as := [.ref 0, .int (-1)]) (pc' := 31) (L' := [some (.ref 0), none, none, none]) (st' := []) (w1 := Wd f fl g gl hh v tx) rfl ⟨Nat.le_of_ble_eq_true rfl, Nat.le_of_ble_eq_true rfl⟩ rfl (b_x_refused_0 X (d) f fl g gl hh v tx (-1) _ ?_)
      refine ⟨fun c15 => ?_, fun c => absurd c (by decide)⟩
      refine ⟨by decide, ?_⟩
      refine ⟨by decide, ?_⟩
      exact WP.retI hP_60 rfl rfl h14
  · have h16 := h.2 c1
    refine WP.run hP_60 3 (c' := (28, [some (.ref 0), none, none, none], [.int (-1), .ref 0], Wd f fl g gl hh v tx)) rfl ?_
    refine WP.call hP_60 hP_101 (as := [.ref 0, .int (-1)]) (pc' := 31) (L' := [some (.ref 0), none, none, none]) (st' := []) (w1 := Wd f fl g gl hh v tx) rfl ⟨Nat.le_of_ble_eq_true rfl, Nat.le_of_ble_eq_true rfl⟩ rfl (b_x_refused_0 X (d) f fl g gl hh v tx (-1) _ ?_)
    refine ⟨fun c17 => ?_, fun c => absurd c (by decide)⟩
    refine ⟨by decide, ?_⟩
    refine ⟨by decide, ?_⟩
    exact WP.retI hP_60 rfl rfl h16

set_option maxRecDepth 20000 in
theorem b_x_detail_0 (X : mm_X) (d : Nat) (f : Nat → Int32) (fl : Nat → Int64) (g : Nat → Nat → Int32) (gl : Nat → Nat → Int64) (hh : Nat → Nat → Option Nat) (v : Nat → Value) (tx : mm_W) (p0 : Int32) (p1 : Int32)  (P : Option Value → mm_W → Prop)
    (h : ((p1 = 0) → P (some (.int (p0 / (40 : Int32)))) (Wd f fl g gl hh v tx)) ∧
    ((¬ p1 = 0) → (((p1 = 1) → P (some (.int ((p0 / (10 : Int32)) - ((p0 / (10 : Int32)) / (4 : Int32)) * (4 : Int32)))) (Wd f fl g gl hh v tx)) ∧
      ((¬ p1 = 1) → (((p1 = 2) → P (some (.int (p0 - (p0 / (10 : Int32)) * (10 : Int32)))) (Wd f fl g gl hh v tx)) ∧
        ((¬ p1 = 2) → P (some (.int (-1))) (Wd f fl g gl hh v tx))))))) :
    WP X (d + 1) 113 (0, [some (.int p0), some (.int p1)], [], Wd f fl g gl hh v tx) P := by
  refine WP.run hP_113 1 (c' := (1, [some (.int p0), some (.int p1)], [.int p1], Wd f fl g gl hh v tx)) rfl ?_
  refine WP.run hP_113 1 (c' := (mm_sw p1 0 [28, 33, 38] 43, [some (.int p0), some (.int p1)], [], Wd f fl g gl hh v tx)) rfl ?_
  refine WP.sw (lo' := 1) rfl (fun c1 => ?_) (fun c1 => ?_)
  · have h2 := h.1 c1
    refine WP.run hP_113 1 (c' := (29, [some (.int p0), none], [.int p0], Wd f fl g gl hh v tx)) rfl ?_
    refine WP.call hP_113 hP_110 (as := [.int p0]) (pc' := 32) (L' := [some (.int p0), none]) (st' := []) (w1 := Wd f fl g gl hh v tx) rfl ⟨Nat.le_of_ble_eq_true rfl, Nat.le_of_ble_eq_true rfl⟩ rfl (b_x_cellOf_0 X (d) f fl g gl hh v tx p0 _ ?_)
    exact WP.retI hP_113 rfl rfl h2
  · have h3 := h.2 c1
    refine WP.sw (lo' := 2) rfl (fun c4 => ?_) (fun c4 => ?_)
    · have h5 := h3.1 c4
      refine WP.run hP_113 1 (c' := (34, [some (.int p0), none], [.int p0], Wd f fl g gl hh v tx)) rfl ?_
      refine WP.call hP_113 hP_111 (as := [.int p0]) (pc' := 37) (L' := [some (.int p0), none]) (st' := []) (w1 := Wd f fl g gl hh v tx) rfl ⟨Nat.le_of_ble_eq_true rfl, Nat.le_of_ble_eq_true rfl⟩ rfl (b_x_facesOf_0 X (d) f fl g gl hh v tx p0 _ ?_)
      exact WP.retI hP_113 rfl rfl h5
    · have h6 := h3.2 c4
      refine WP.sw (lo' := 3) rfl (fun c7 => ?_) (fun c7 => ?_)
      · have h8 := h6.1 c7
        refine WP.run hP_113 1 (c' := (39, [some (.int p0), none], [.int p0], Wd f fl g gl hh v tx)) rfl ?_
        refine WP.call hP_113 hP_112 (as := [.int p0]) (pc' := 42) (L' := [some (.int p0), none]) (st' := []) (w1 := Wd f fl g gl hh v tx) rfl ⟨Nat.le_of_ble_eq_true rfl, Nat.le_of_ble_eq_true rfl⟩ rfl (b_x_powderOf_0 X (d) f fl g gl hh v tx p0 _ ?_)
        exact WP.retI hP_113 rfl rfl h8
      · have h9 := h6.2 c7
        show WP X _ 113 (43, [some (.int p0), some (.int p1)], [], Wd f fl g gl hh v tx) P
        refine WP.run hP_113 1 (c' := (44, [none, none], [.int (-1)], Wd f fl g gl hh v tx)) rfl ?_
        exact WP.retI hP_113 rfl rfl h9

set_option maxRecDepth 20000 in
theorem b_x_of_0 (X : mm_X) (d : Nat) (f : Nat → Int32) (fl : Nat → Int64) (g : Nat → Nat → Int32) (gl : Nat → Nat → Int64) (hh : Nat → Nat → Option Nat) (v : Nat → Value) (tx : mm_W) (p0 : Int32) (p1 : Int32)  (P : Option Value → mm_W → Prop)
    (h : ((0 ≤ p0 ∧ p0 < (f 68)) → ((¬ (p0 < 0 ∨ 3 ≤ p0.toNatClampNeg)) ∧ (((p1 = 0) → P (some (.int (((g 5) p0.toNatClampNeg) / (40 : Int32)))) (Wd f fl g gl hh v tx)) ∧
      ((¬ p1 = 0) → (((p1 = 1) → P (some (.int ((((g 5) p0.toNatClampNeg) / (10 : Int32)) - ((((g 5) p0.toNatClampNeg) / (10 : Int32)) / (4 : Int32)) * (4 : Int32)))) (Wd f fl g gl hh v tx)) ∧
        ((¬ p1 = 1) → (((p1 = 2) → P (some (.int (((g 5) p0.toNatClampNeg) - (((g 5) p0.toNatClampNeg) / (10 : Int32)) * (10 : Int32)))) (Wd f fl g gl hh v tx)) ∧
          ((¬ p1 = 2) → P (some (.int (-1))) (Wd f fl g gl hh v tx))))))))) ∧
    ((¬ (0 ≤ p0 ∧ p0 < (f 68))) → P (some (.int (-1))) (Wd f fl g gl hh v tx))) :
    WP X (d + 2) 61 (0, [some (.ref 0), some (.int p0), some (.int p1)], [], Wd f fl g gl hh v tx) P := by
  refine WP.run hP_61 4 (c' := (8, [some (.ref 0), some (.int p0), some (.int p1)], [.int (f 68), .int p0], Wd f fl g gl hh v tx)) rfl ?_
  refine WP.call hP_61 hP_99 (as := [.int p0, .int (f 68)]) (pc' := 11) (L' := [some (.ref 0), some (.int p0), some (.int p1)]) (st' := []) (w1 := Wd f fl g gl hh v tx) rfl ⟨Nat.le_of_ble_eq_true rfl, Nat.le_of_ble_eq_true rfl⟩ rfl (b_within_m X (d + 1) f fl g gl hh v tx p0 (f 68) _ ?_)
  refine ⟨fun c1 => ?_, fun c1 => ?_⟩
  · have h2 := h.1 c1
    refine WP.run hP_61 5 (c' := (22, [some (.ref 0), some (.int p0), some (.int p1)], [.int p0, .ref 5], Wd f fl g gl hh v tx)) rfl ?_
    refine WP.of (fun _ _ => Ex.iald hP_61 rfl (Wa_5 _ _ _ _ _ _ _) h2.1) ?_
    have h3 := h2.2
    refine WP.run hP_61 1 (c' := (24, [some (.ref 0), some (.int p0), some (.int p1)], [.int p1, .int ((g 5) p0.toNatClampNeg)], Wd f fl g gl hh v tx)) rfl ?_
    refine WP.call hP_61 hP_113 (as := [.int ((g 5) p0.toNatClampNeg), .int p1]) (pc' := 27) (L' := [some (.ref 0), some (.int p0), some (.int p1)]) (st' := []) (w1 := Wd f fl g gl hh v tx) rfl ⟨Nat.le_of_ble_eq_true rfl, Nat.le_of_ble_eq_true rfl⟩ rfl (b_x_detail_0 X (d) f fl g gl hh v tx ((g 5) p0.toNatClampNeg) p1 _ ?_)
    refine ⟨fun c4 => ?_, fun c4 => ?_⟩
    · have h5 := h3.1 c4
      refine WP.run hP_61 1 (c' := (31, [some (.ref 0), some (.int p0), some (.int p1)], [.int (((g 5) p0.toNatClampNeg) / (40 : Int32))], Wd f fl g gl hh v tx)) rfl ?_
      exact WP.retI hP_61 rfl rfl h5
    · have h6 := h3.2 c4
      refine ⟨fun c7 => ?_, fun c7 => ?_⟩
      · have h8 := h6.1 c7
        refine WP.run hP_61 1 (c' := (31, [some (.ref 0), some (.int p0), some (.int p1)], [.int ((((g 5) p0.toNatClampNeg) / (10 : Int32)) - ((((g 5) p0.toNatClampNeg) / (10 : Int32)) / (4 : Int32)) * (4 : Int32))], Wd f fl g gl hh v tx)) rfl ?_
        exact WP.retI hP_61 rfl rfl h8
      · have h9 := h6.2 c7
        refine ⟨fun c10 => ?_, fun c10 => ?_⟩
        · have h11 := h9.1 c10
          refine WP.run hP_61 1 (c' := (31, [some (.ref 0), some (.int p0), some (.int p1)], [.int (((g 5) p0.toNatClampNeg) - (((g 5) p0.toNatClampNeg) / (10 : Int32)) * (10 : Int32))], Wd f fl g gl hh v tx)) rfl ?_
          exact WP.retI hP_61 rfl rfl h11
        · have h12 := h9.2 c10
          refine WP.run hP_61 1 (c' := (31, [some (.ref 0), some (.int p0), some (.int p1)], [.int (-1)], Wd f fl g gl hh v tx)) rfl ?_
          exact WP.retI hP_61 rfl rfl h12
  · have h13 := h.2 c1
    refine WP.run hP_61 2 (c' := (31, [none, none, none], [.int (-1)], Wd f fl g gl hh v tx)) rfl ?_
    exact WP.retI hP_61 rfl rfl h13

set_option maxRecDepth 20000 in
theorem b_x_line_0 (X : mm_X) (d : Nat) (f : Nat → Int32) (fl : Nat → Int64) (g : Nat → Nat → Int32) (gl : Nat → Nat → Int64) (hh : Nat → Nat → Option Nat) (v : Nat → Value) (tx : mm_W) (p0 : Int32)  (P : Option Value → mm_W → Prop)
    (h : ((0 ≤ p0 ∧ p0 < (f 70)) → P (some (.int ((((f 71) >>> (((2 : Int32) * (((f 70) - (1 : Int32)) - p0)) &&& (31 : Int32))) : Int32) &&& (3 : Int32)))) (Wd f fl g gl hh v tx)) ∧
    ((¬ (0 ≤ p0 ∧ p0 < (f 70))) → P (some (.int (-1))) (Wd f fl g gl hh v tx))) :
    WP X (d + 1) 63 (0, [some (.ref 0), some (.int p0)], [], Wd f fl g gl hh v tx) P := by
  refine WP.run hP_63 4 (c' := (8, [some (.ref 0), some (.int p0)], [.int (f 70), .int p0], Wd f fl g gl hh v tx)) rfl ?_
  refine WP.call hP_63 hP_99 (as := [.int p0, .int (f 70)]) (pc' := 11) (L' := [some (.ref 0), some (.int p0)]) (st' := []) (w1 := Wd f fl g gl hh v tx) rfl ⟨Nat.le_of_ble_eq_true rfl, Nat.le_of_ble_eq_true rfl⟩ rfl (b_within_m X (d) f fl g gl hh v tx p0 (f 70) _ ?_)
  refine ⟨fun c1 => ?_, fun c1 => ?_⟩
  · have h2 := h.1 c1
    refine WP.run hP_63 17 (c' := (41, [some (.ref 0), some (.int p0)], [.int ((((f 71) >>> (((2 : Int32) * (((f 70) - (1 : Int32)) - p0)) &&& (31 : Int32))) : Int32) &&& (3 : Int32))], Wd f fl g gl hh v tx)) rfl ?_
    exact WP.retI hP_63 rfl rfl h2
  · have h3 := h.2 c1
    refine WP.run hP_63 2 (c' := (41, [none, none], [.int (-1)], Wd f fl g gl hh v tx)) rfl ?_
    exact WP.retI hP_63 rfl rfl h3

set_option maxRecDepth 20000 in
theorem b_x_terms_0 (X : mm_X) (d : Nat) (f : Nat → Int32) (fl : Nat → Int64) (g : Nat → Nat → Int32) (gl : Nat → Nat → Int64) (hh : Nat → Nat → Option Nat) (v : Nat → Value) (tx : mm_W) (p0 : Int32) (p1 : Int32)  (P : Option Value → mm_W → Prop)
    (h : ((0 ≤ p0 ∧ p0 < (3 : Int32)) → (((¬ p0 = 0) → (((¬ p0 = 1) → WP X (d + 2) 64 (36, [some (.ref 0), some (.int p0), some (.int p1), none, none], [.int 9], Wd f fl g gl hh v tx) P) ∧
        ((p0 = 1) → WP X (d + 2) 64 (36, [some (.ref 0), some (.int p0), some (.int p1), none, none], [.int 10], Wd f fl g gl hh v tx) P))) ∧
      ((p0 = 0) → WP X (d + 2) 64 (36, [some (.ref 0), some (.int p0), some (.int p1), none, none], [.int 999], Wd f fl g gl hh v tx) P))) ∧
    ((¬ (0 ≤ p0 ∧ p0 < (3 : Int32))) → P (some (.int (-1))) (Wd (va_up f 18 (-1 : Int32)) fl (va_up g 55 (upd (g 55) (1) (((g 55) 1) + (1 : Int32)))) gl hh v tx))) :
    WP X (d + 2) 64 (0, [some (.ref 0), some (.int p0), some (.int p1), none, none], [], Wd f fl g gl hh v tx) P := by
  refine WP.run hP_64 2 (c' := (2, [some (.ref 0), some (.int p0), some (.int p1), none, none], [.int 3, .int p0], Wd f fl g gl hh v tx)) rfl ?_
  refine WP.call hP_64 hP_99 (as := [.int p0, .int 3]) (pc' := 5) (L' := [some (.ref 0), some (.int p0), some (.int p1), none, none]) (st' := []) (w1 := Wd f fl g gl hh v tx) rfl ⟨Nat.le_of_ble_eq_true rfl, Nat.le_of_ble_eq_true rfl⟩ rfl (b_within_m X (d + 1) f fl g gl hh v tx p0 3 _ ?_)
  refine ⟨fun c1 => ?_, fun c1 => ?_⟩
  · have h2 := h.1 c1
    refine WP.run hP_64 2 (c' := (15, [some (.ref 0), some (.int p0), some (.int p1), none, none], [.int p0], Wd f fl g gl hh v tx)) rfl ?_
    refine WP.br hP_64 (q := ¬ p0 = 0) (t := 24) (f := 18) (L := [some (.ref 0), some (.int p0), some (.int p1), none, none]) (st := []) (w := Wd f fl g gl hh v tx) rfl (fun c3 => ?_) (fun c3 => ?_)
    · have h4 := h2.1 c3
      refine WP.run hP_64 2 (c' := (26, [some (.ref 0), some (.int p0), some (.int p1), none, none], [.int 1, .int p0], Wd f fl g gl hh v tx)) rfl ?_
      refine WP.br hP_64 (q := ¬ p0 = 1) (t := 34) (f := 29) (L := [some (.ref 0), some (.int p0), some (.int p1), none, none]) (st := []) (w := Wd f fl g gl hh v tx) rfl (fun c5 => ?_) (fun c5 => ?_)
      · have h6 := h4.1 c5
        refine WP.run hP_64 1 (c' := (36, [some (.ref 0), some (.int p0), some (.int p1), none, none], [.int 9], Wd f fl g gl hh v tx)) rfl ?_
        exact h6
      · have h7 := h4.2 (Classical.not_not.mp c5)
        refine WP.run hP_64 2 (c' := (36, [some (.ref 0), some (.int p0), some (.int p1), none, none], [.int 10], Wd f fl g gl hh v tx)) rfl ?_
        exact h7
    · have h8 := h2.2 (Classical.not_not.mp c3)
      refine WP.run hP_64 2 (c' := (36, [some (.ref 0), some (.int p0), some (.int p1), none, none], [.int 999], Wd f fl g gl hh v tx)) rfl ?_
      exact h8
  · have h9 := h.2 c1
    refine WP.run hP_64 3 (c' := (10, [some (.ref 0), some (.int p0), some (.int p1), none, none], [.int (-1), .ref 0], Wd f fl g gl hh v tx)) rfl ?_
    refine WP.call hP_64 hP_101 (as := [.ref 0, .int (-1)]) (pc' := 13) (L' := [some (.ref 0), some (.int p0), some (.int p1), none, none]) (st' := []) (w1 := Wd f fl g gl hh v tx) rfl ⟨Nat.le_of_ble_eq_true rfl, Nat.le_of_ble_eq_true rfl⟩ rfl (b_x_refused_0 X (d) f fl g gl hh v tx (-1) _ ?_)
    refine ⟨fun c10 => ?_, fun c => absurd c (by decide)⟩
    refine ⟨by decide, ?_⟩
    refine ⟨by decide, ?_⟩
    exact WP.retI hP_64 rfl rfl h9

set_option maxRecDepth 20000 in
theorem b_x_terms_36 (X : mm_X) (d : Nat) (f : Nat → Int32) (fl : Nat → Int64) (g : Nat → Nat → Int32) (gl : Nat → Nat → Int64) (hh : Nat → Nat → Option Nat) (v : Nat → Value) (tx : mm_W) (l1 : Int32) (l2 : Int32) (s0 : Int32)  (P : Option Value → mm_W → Prop)
    (h : ((l2 < 0) → P (some (.int (-1))) (Wd (va_up f 18 (-1 : Int32)) fl (va_up g 55 (upd (g 55) (1) (((g 55) 1) + (1 : Int32)))) gl hh v tx)) ∧
    ((¬ (l2 < 0)) → (((l2 ≤ s0) → ((¬ (l1 < 0 ∨ 3 ≤ l1.toNatClampNeg)) ∧ ((¬ (l1 < 0 ∨ 3 ≤ l1.toNatClampNeg)) ∧ P (some (.int ((g 8) l1.toNatClampNeg))) (Wd (va_up (va_up f 78 0) 18 0) fl (va_up g 8 (upd (g 8) (l1.toNatClampNeg) l2)) gl hh v tx)))) ∧
      ((¬ (l2 ≤ s0)) → P (some (.int (-1))) (Wd (va_up f 18 (-1 : Int32)) fl (va_up g 55 (upd (g 55) (1) (((g 55) 1) + (1 : Int32)))) gl hh v tx))))) :
    WP X (d + 2) 64 (36, [some (.ref 0), some (.int l1), some (.int l2), none, none], [.int s0], Wd f fl g gl hh v tx) P := by
  refine WP.run hP_64 2 (c' := (38, [some (.ref 0), some (.int l1), some (.int l2), some (.int s0), none], [.int l2], Wd f fl g gl hh v tx)) rfl ?_
  refine WP.br hP_64 (q := l2 < 0) (t := 46) (f := 41) (L := [some (.ref 0), some (.int l1), some (.int l2), some (.int s0), none]) (st := []) (w := Wd f fl g gl hh v tx) rfl (fun c1 => ?_) (fun c1 => ?_)
  · have h2 := h.1 c1
    refine WP.run hP_64 2 (c' := (48, [some (.ref 0), none, none, none, none], [.int (-1), .ref 0], Wd f fl g gl hh v tx)) rfl ?_
    refine WP.call hP_64 hP_101 (as := [.ref 0, .int (-1)]) (pc' := 51) (L' := [some (.ref 0), none, none, none, none]) (st' := []) (w1 := Wd f fl g gl hh v tx) rfl ⟨Nat.le_of_ble_eq_true rfl, Nat.le_of_ble_eq_true rfl⟩ rfl (b_x_refused_0 X (d) f fl g gl hh v tx (-1) _ ?_)
    refine ⟨fun c3 => ?_, fun c => absurd c (by decide)⟩
    refine ⟨by decide, ?_⟩
    refine ⟨by decide, ?_⟩
    exact WP.retI hP_64 rfl rfl h2
  · have h4 := h.2 c1
    refine WP.run hP_64 2 (c' := (43, [some (.ref 0), some (.int l1), some (.int l2), some (.int s0), none], [.int s0, .int l2], Wd f fl g gl hh v tx)) rfl ?_
    refine WP.br hP_64 (q := l2 ≤ s0) (t := 52) (f := 46) (L := [some (.ref 0), some (.int l1), some (.int l2), some (.int s0), none]) (st := []) (w := Wd f fl g gl hh v tx) rfl (fun c5 => ?_) (fun c5 => ?_)
    · have h6 := h4.1 c5
      refine WP.run hP_64 4 (c' := (60, [some (.ref 0), some (.int l1), some (.int l2), none, none], [.int l1, .ref 8], Wd f fl g gl hh v tx)) rfl ?_
      refine WP.of (fun _ _ => Ex.iald hP_64 rfl (Wa_8 _ _ _ _ _ _ _) h6.1) ?_
      have h7 := h6.2
      refine WP.run hP_64 6 (c' := (72, [some (.ref 0), some (.int l1), some (.int l2), none, some (.int ((g 8) l1.toNatClampNeg))], [.int l2, .int l1, .ref 8], Wd f fl g gl hh v tx)) rfl ?_
      refine WP.of (fun _ _ => Ex.iast hP_64 (w2 := Wd f fl (va_up g 8 (upd (g 8) (l1.toNatClampNeg) l2)) gl hh v tx) rfl (Wa_8 _ _ _ _ _ _ _) h7.1 (Ws_8 _ _ _ _ _ _ _ _)) ?_
      have h8 := h7.2
      refine WP.run hP_64 6 (c' := (84, [some (.ref 0), some (.int l1), some (.int l2), none, some (.int ((g 8) l1.toNatClampNeg))], [.int ((g 8) l1.toNatClampNeg), .ref 0], Wd (va_up f 78 0) fl (va_up g 8 (upd (g 8) (l1.toNatClampNeg) l2)) gl hh v tx)) rfl ?_
      refine WP.call hP_64 hP_100 (as := [.ref 0, .int ((g 8) l1.toNatClampNeg)]) (pc' := 87) (L' := [some (.ref 0), some (.int l1), some (.int l2), none, some (.int ((g 8) l1.toNatClampNeg))]) (st' := []) (w1 := Wd (va_up f 78 0) fl (va_up g 8 (upd (g 8) (l1.toNatClampNeg) l2)) gl hh v tx) rfl ⟨Nat.le_of_ble_eq_true rfl, Nat.le_of_ble_eq_true rfl⟩ rfl (b_x_accepted_0 X (d + 1) (va_up f 78 0) fl (va_up g 8 (upd (g 8) (l1.toNatClampNeg) l2)) gl hh v tx ((g 8) l1.toNatClampNeg) _ ?_)
      exact WP.retI hP_64 rfl rfl h8
    · have h9 := h4.2 c5
      refine WP.run hP_64 2 (c' := (48, [some (.ref 0), none, none, none, none], [.int (-1), .ref 0], Wd f fl g gl hh v tx)) rfl ?_
      refine WP.call hP_64 hP_101 (as := [.ref 0, .int (-1)]) (pc' := 51) (L' := [some (.ref 0), none, none, none, none]) (st' := []) (w1 := Wd f fl g gl hh v tx) rfl ⟨Nat.le_of_ble_eq_true rfl, Nat.le_of_ble_eq_true rfl⟩ rfl (b_x_refused_0 X (d) f fl g gl hh v tx (-1) _ ?_)
      refine ⟨fun c10 => ?_, fun c => absurd c (by decide)⟩
      refine ⟨by decide, ?_⟩
      refine ⟨by decide, ?_⟩
      exact WP.retI hP_64 rfl rfl h9

set_option maxRecDepth 20000 in
theorem b_x_force_0 (X : mm_X) (d : Nat) (f : Nat → Int32) (fl : Nat → Int64) (g : Nat → Nat → Int32) (gl : Nat → Nat → Int64) (hh : Nat → Nat → Option Nat) (v : Nat → Value) (tx : mm_W) (p0 : Int32)  (P : Option Value → mm_W → Prop)
    (h : ((p0 < (-1)) → P (some (.int (-2))) (Wd (va_up f 18 (-2 : Int32)) fl (va_up g 55 (upd (g 55) (2) (((g 55) 2) + (1 : Int32)))) gl hh v tx)) ∧
    ((¬ (p0 < (-1))) → (((p0 < (f 74)) → P (some (.int (f 76))) (Wd (va_up (va_up f 76 p0) 18 0) fl g gl hh v tx)) ∧
      ((¬ (p0 < (f 74))) → P (some (.int (-2))) (Wd (va_up f 18 (-2 : Int32)) fl (va_up g 55 (upd (g 55) (2) (((g 55) 2) + (1 : Int32)))) gl hh v tx))))) :
    WP X (d + 2) 73 (0, [some (.ref 0), some (.int p0), none], [], Wd f fl g gl hh v tx) P := by
  refine WP.run hP_73 2 (c' := (2, [some (.ref 0), some (.int p0), none], [.int (-1), .int p0], Wd f fl g gl hh v tx)) rfl ?_
  refine WP.br hP_73 (q := p0 < (-1)) (t := 16) (f := 5) (L := [some (.ref 0), some (.int p0), none]) (st := []) (w := Wd f fl g gl hh v tx) rfl (fun c1 => ?_) (fun c1 => ?_)
  · have h2 := h.1 c1
    refine WP.run hP_73 2 (c' := (19, [some (.ref 0), none, none], [.int (-2), .ref 0], Wd f fl g gl hh v tx)) rfl ?_
    refine WP.call hP_73 hP_101 (as := [.ref 0, .int (-2)]) (pc' := 22) (L' := [some (.ref 0), none, none]) (st' := []) (w1 := Wd f fl g gl hh v tx) rfl ⟨Nat.le_of_ble_eq_true rfl, Nat.le_of_ble_eq_true rfl⟩ rfl (b_x_refused_0 X (d) f fl g gl hh v tx (-2) _ ?_)
    refine ⟨fun c3 => ?_, fun c => absurd c (by decide)⟩
    refine ⟨by decide, ?_⟩
    refine ⟨by decide, ?_⟩
    exact WP.retI hP_73 rfl rfl h2
  · have h4 := h.2 c1
    refine WP.run hP_73 4 (c' := (13, [some (.ref 0), some (.int p0), none], [.int (f 74), .int p0], Wd f fl g gl hh v tx)) rfl ?_
    refine WP.br hP_73 (q := p0 < (f 74)) (t := 23) (f := 16) (L := [some (.ref 0), some (.int p0), none]) (st := []) (w := Wd f fl g gl hh v tx) rfl (fun c5 => ?_) (fun c5 => ?_)
    · have h6 := h4.1 c5
      refine WP.run hP_73 3 (c' := (30, [some (.ref 0), some (.int p0), none], [.int (f 76)], Wd f fl g gl hh v tx)) rfl ?_
      refine WP.run hP_73 7 (c' := (41, [some (.ref 0), some (.int p0), some (.int (f 76))], [.int (f 76), .ref 0], Wd (va_up f 76 p0) fl g gl hh v tx)) rfl ?_
      refine WP.call hP_73 hP_100 (as := [.ref 0, .int (f 76)]) (pc' := 44) (L' := [some (.ref 0), some (.int p0), some (.int (f 76))]) (st' := []) (w1 := Wd (va_up f 76 p0) fl g gl hh v tx) rfl ⟨Nat.le_of_ble_eq_true rfl, Nat.le_of_ble_eq_true rfl⟩ rfl (b_x_accepted_0 X (d + 1) (va_up f 76 p0) fl g gl hh v tx (f 76) _ ?_)
      exact WP.retI hP_73 rfl rfl h6
    · have h7 := h4.2 c5
      refine WP.run hP_73 2 (c' := (19, [some (.ref 0), none, none], [.int (-2), .ref 0], Wd f fl g gl hh v tx)) rfl ?_
      refine WP.call hP_73 hP_101 (as := [.ref 0, .int (-2)]) (pc' := 22) (L' := [some (.ref 0), none, none]) (st' := []) (w1 := Wd f fl g gl hh v tx) rfl ⟨Nat.le_of_ble_eq_true rfl, Nat.le_of_ble_eq_true rfl⟩ rfl (b_x_refused_0 X (d) f fl g gl hh v tx (-2) _ ?_)
      refine ⟨fun c8 => ?_, fun c => absurd c (by decide)⟩
      refine ⟨by decide, ?_⟩
      refine ⟨by decide, ?_⟩
      exact WP.retI hP_73 rfl rfl h7

set_option maxRecDepth 20000 in
theorem b_x_seen_0 (X : mm_X) (d : Nat) (f : Nat → Int32) (fl : Nat → Int64) (g : Nat → Nat → Int32) (gl : Nat → Nat → Int64) (hh : Nat → Nat → Option Nat) (v : Nat → Value) (tx : mm_W) (p0 : Int32)  (P : Option Value → mm_W → Prop)
    (h : ((0 ≤ p0 ∧ p0 < (6 : Int32)) → ((((f 72) < 6) → ((¬ ((f 72) < 0 ∨ 6 ≤ (f 72).toNatClampNeg)) ∧ P (some (.int ((f 72) + (1 : Int32)))) (Wd (va_up (va_up f 72 ((f 72) + (1 : Int32))) 18 0) fl (va_up g 6 (upd (g 6) ((f 72).toNatClampNeg) p0)) gl hh v tx))) ∧
      ((¬ ((f 72) < 6)) → P (some (.int (-5))) (Wd (va_up f 18 (-5 : Int32)) fl (va_up g 55 (upd (g 55) (5) (((g 55) 5) + (1 : Int32)))) gl hh v tx)))) ∧
    ((¬ (0 ≤ p0 ∧ p0 < (6 : Int32))) → P (some (.int (-1))) (Wd (va_up f 18 (-1 : Int32)) fl (va_up g 55 (upd (g 55) (1) (((g 55) 1) + (1 : Int32)))) gl hh v tx))) :
    WP X (d + 2) 88 (0, [some (.ref 0), some (.int p0)], [], Wd f fl g gl hh v tx) P := by
  refine WP.run hP_88 2 (c' := (3, [some (.ref 0), some (.int p0)], [.int 6, .int p0], Wd f fl g gl hh v tx)) rfl ?_
  refine WP.call hP_88 hP_99 (as := [.int p0, .int 6]) (pc' := 6) (L' := [some (.ref 0), some (.int p0)]) (st' := []) (w1 := Wd f fl g gl hh v tx) rfl ⟨Nat.le_of_ble_eq_true rfl, Nat.le_of_ble_eq_true rfl⟩ rfl (b_within_m X (d + 1) f fl g gl hh v tx p0 6 _ ?_)
  refine ⟨fun c1 => ?_, fun c1 => ?_⟩
  · have h2 := h.1 c1
    refine WP.run hP_88 5 (c' := (24, [some (.ref 0), some (.int p0)], [.int 6, .int (f 72)], Wd f fl g gl hh v tx)) rfl ?_
    refine WP.br hP_88 (q := (f 72) < 6) (t := 34) (f := 27) (L := [some (.ref 0), some (.int p0)]) (st := []) (w := Wd f fl g gl hh v tx) rfl (fun c3 => ?_) (fun c3 => ?_)
    · have h4 := h2.1 c3
      refine WP.run hP_88 7 (c' := (49, [some (.ref 0), some (.int p0)], [.int p0, .int (f 72), .ref 6], Wd f fl g gl hh v tx)) rfl ?_
      refine WP.of (fun _ _ => Ex.iast hP_88 (w2 := Wd f fl (va_up g 6 (upd (g 6) ((f 72).toNatClampNeg) p0)) gl hh v tx) rfl (Wa_6 _ _ _ _ _ _ _) h4.1 (Ws_6 _ _ _ _ _ _ _ _)) ?_
      have h5 := h4.2
      refine WP.run hP_88 11 (c' := (71, [some (.ref 0), some (.int p0)], [.int ((f 72) + (1 : Int32)), .ref 0], Wd (va_up f 72 ((f 72) + (1 : Int32))) fl (va_up g 6 (upd (g 6) ((f 72).toNatClampNeg) p0)) gl hh v tx)) rfl ?_
      refine WP.call hP_88 hP_100 (as := [.ref 0, .int ((f 72) + (1 : Int32))]) (pc' := 74) (L' := [some (.ref 0), some (.int p0)]) (st' := []) (w1 := Wd (va_up f 72 ((f 72) + (1 : Int32))) fl (va_up g 6 (upd (g 6) ((f 72).toNatClampNeg) p0)) gl hh v tx) rfl ⟨Nat.le_of_ble_eq_true rfl, Nat.le_of_ble_eq_true rfl⟩ rfl (b_x_accepted_0 X (d + 1) (va_up f 72 ((f 72) + (1 : Int32))) fl (va_up g 6 (upd (g 6) ((f 72).toNatClampNeg) p0)) gl hh v tx ((f 72) + (1 : Int32)) _ ?_)
      exact WP.retI hP_88 rfl rfl h5
    · have h6 := h2.2 c3
      refine WP.run hP_88 2 (c' := (30, [some (.ref 0), some (.int p0)], [.int (-5), .ref 0], Wd f fl g gl hh v tx)) rfl ?_
      refine WP.call hP_88 hP_101 (as := [.ref 0, .int (-5)]) (pc' := 33) (L' := [some (.ref 0), some (.int p0)]) (st' := []) (w1 := Wd f fl g gl hh v tx) rfl ⟨Nat.le_of_ble_eq_true rfl, Nat.le_of_ble_eq_true rfl⟩ rfl (b_x_refused_0 X (d) f fl g gl hh v tx (-5) _ ?_)
      refine ⟨fun c7 => ?_, fun c => absurd c (by decide)⟩
      refine ⟨by decide, ?_⟩
      refine ⟨by decide, ?_⟩
      exact WP.retI hP_88 rfl rfl h6
  · have h8 := h.2 c1
    refine WP.run hP_88 3 (c' := (11, [some (.ref 0), some (.int p0)], [.int (-1), .ref 0], Wd f fl g gl hh v tx)) rfl ?_
    refine WP.call hP_88 hP_101 (as := [.ref 0, .int (-1)]) (pc' := 14) (L' := [some (.ref 0), some (.int p0)]) (st' := []) (w1 := Wd f fl g gl hh v tx) rfl ⟨Nat.le_of_ble_eq_true rfl, Nat.le_of_ble_eq_true rfl⟩ rfl (b_x_refused_0 X (d) f fl g gl hh v tx (-1) _ ?_)
    refine ⟨fun c9 => ?_, fun c => absurd c (by decide)⟩
    refine ⟨by decide, ?_⟩
    refine ⟨by decide, ?_⟩
    exact WP.retI hP_88 rfl rfl h8

set_option maxRecDepth 20000 in
theorem b_x_forget_0 (X : mm_X) (d : Nat) (f : Nat → Int32) (fl : Nat → Int64) (g : Nat → Nat → Int32) (gl : Nat → Nat → Int64) (hh : Nat → Nat → Option Nat) (v : Nat → Value) (tx : mm_W)   (P : Option Value → mm_W → Prop)
    (h : P (some (.int (f 72))) (Wd (va_up f 72 0) fl g gl hh v tx)) :
    WP X (d) 89 (0, [some (.ref 0), none], [], Wd f fl g gl hh v tx) P := by
  refine WP.run hP_89 9 (c' := (17, [some (.ref 0), some (.int (f 72))], [.int (f 72)], Wd (va_up f 72 0) fl g gl hh v tx)) rfl ?_
  exact WP.retI hP_89 rfl rfl h

set_option maxRecDepth 20000 in
theorem b_x_drawn_0 (X : mm_X) (d : Nat) (f : Nat → Int32) (fl : Nat → Int64) (g : Nat → Nat → Int32) (gl : Nat → Nat → Int64) (hh : Nat → Nat → Option Nat) (v : Nat → Value) (tx : mm_W) (p0 : Int32) (p1 : Int32)  (P : Option Value → mm_W → Prop)
    (h : ((0 ≤ p0 ∧ p0 < (f 1220)) → ((¬ (p0 < 0 ∨ 3 ≤ p0.toNatClampNeg)) ∧ (((p1 = 0) → P (some (.int (((g 23) p0.toNatClampNeg) / (40 : Int32)))) (Wd f fl g gl hh v tx)) ∧
      ((¬ p1 = 0) → (((p1 = 1) → P (some (.int ((((g 23) p0.toNatClampNeg) / (10 : Int32)) - ((((g 23) p0.toNatClampNeg) / (10 : Int32)) / (4 : Int32)) * (4 : Int32)))) (Wd f fl g gl hh v tx)) ∧
        ((¬ p1 = 1) → (((p1 = 2) → P (some (.int (((g 23) p0.toNatClampNeg) - (((g 23) p0.toNatClampNeg) / (10 : Int32)) * (10 : Int32)))) (Wd f fl g gl hh v tx)) ∧
          ((¬ p1 = 2) → P (some (.int (-1))) (Wd f fl g gl hh v tx))))))))) ∧
    ((¬ (0 ≤ p0 ∧ p0 < (f 1220))) → P (some (.int (-1))) (Wd f fl g gl hh v tx))) :
    WP X (d + 2) 94 (0, [some (.ref 0), some (.int p0), some (.int p1)], [], Wd f fl g gl hh v tx) P := by
  refine WP.run hP_94 4 (c' := (8, [some (.ref 0), some (.int p0), some (.int p1)], [.int (f 1220), .int p0], Wd f fl g gl hh v tx)) rfl ?_
  refine WP.call hP_94 hP_99 (as := [.int p0, .int (f 1220)]) (pc' := 11) (L' := [some (.ref 0), some (.int p0), some (.int p1)]) (st' := []) (w1 := Wd f fl g gl hh v tx) rfl ⟨Nat.le_of_ble_eq_true rfl, Nat.le_of_ble_eq_true rfl⟩ rfl (b_within_m X (d + 1) f fl g gl hh v tx p0 (f 1220) _ ?_)
  refine ⟨fun c1 => ?_, fun c1 => ?_⟩
  · have h2 := h.1 c1
    refine WP.run hP_94 5 (c' := (22, [some (.ref 0), some (.int p0), some (.int p1)], [.int p0, .ref 23], Wd f fl g gl hh v tx)) rfl ?_
    refine WP.of (fun _ _ => Ex.iald hP_94 rfl (Wa_23 _ _ _ _ _ _ _) h2.1) ?_
    have h3 := h2.2
    refine WP.run hP_94 1 (c' := (24, [some (.ref 0), some (.int p0), some (.int p1)], [.int p1, .int ((g 23) p0.toNatClampNeg)], Wd f fl g gl hh v tx)) rfl ?_
    refine WP.call hP_94 hP_113 (as := [.int ((g 23) p0.toNatClampNeg), .int p1]) (pc' := 27) (L' := [some (.ref 0), some (.int p0), some (.int p1)]) (st' := []) (w1 := Wd f fl g gl hh v tx) rfl ⟨Nat.le_of_ble_eq_true rfl, Nat.le_of_ble_eq_true rfl⟩ rfl (b_x_detail_0 X (d) f fl g gl hh v tx ((g 23) p0.toNatClampNeg) p1 _ ?_)
    refine ⟨fun c4 => ?_, fun c4 => ?_⟩
    · have h5 := h3.1 c4
      refine WP.run hP_94 1 (c' := (31, [some (.ref 0), some (.int p0), some (.int p1)], [.int (((g 23) p0.toNatClampNeg) / (40 : Int32))], Wd f fl g gl hh v tx)) rfl ?_
      exact WP.retI hP_94 rfl rfl h5
    · have h6 := h3.2 c4
      refine ⟨fun c7 => ?_, fun c7 => ?_⟩
      · have h8 := h6.1 c7
        refine WP.run hP_94 1 (c' := (31, [some (.ref 0), some (.int p0), some (.int p1)], [.int ((((g 23) p0.toNatClampNeg) / (10 : Int32)) - ((((g 23) p0.toNatClampNeg) / (10 : Int32)) / (4 : Int32)) * (4 : Int32))], Wd f fl g gl hh v tx)) rfl ?_
        exact WP.retI hP_94 rfl rfl h8
      · have h9 := h6.2 c7
        refine ⟨fun c10 => ?_, fun c10 => ?_⟩
        · have h11 := h9.1 c10
          refine WP.run hP_94 1 (c' := (31, [some (.ref 0), some (.int p0), some (.int p1)], [.int (((g 23) p0.toNatClampNeg) - (((g 23) p0.toNatClampNeg) / (10 : Int32)) * (10 : Int32))], Wd f fl g gl hh v tx)) rfl ?_
          exact WP.retI hP_94 rfl rfl h11
        · have h12 := h9.2 c10
          refine WP.run hP_94 1 (c' := (31, [some (.ref 0), some (.int p0), some (.int p1)], [.int (-1)], Wd f fl g gl hh v tx)) rfl ?_
          exact WP.retI hP_94 rfl rfl h12
  · have h13 := h.2 c1
    refine WP.run hP_94 2 (c' := (31, [none, none, none], [.int (-1)], Wd f fl g gl hh v tx)) rfl ?_
    exact WP.retI hP_94 rfl rfl h13

set_option maxRecDepth 20000 in
theorem b_x_count_0 (X : mm_X) (d : Nat) (f : Nat → Int32) (fl : Nat → Int64) (g : Nat → Nat → Int32) (gl : Nat → Nat → Int64) (hh : Nat → Nat → Option Nat) (v : Nat → Value) (tx : mm_W) (p0 : Int32)  (P : Option Value → mm_W → Prop)
    (h : ((p0 = 0) → P (some (.int (f 64))) (Wd f fl g gl hh v tx)) ∧
    ((¬ p0 = 0) → (((p0 = 1) → P (some (.int (f 68))) (Wd f fl g gl hh v tx)) ∧
      ((¬ p0 = 1) → (((p0 = 2) → P (some (.int (f 70))) (Wd f fl g gl hh v tx)) ∧
        ((¬ p0 = 2) → (((p0 = 3) → P (some (.int (f 72))) (Wd f fl g gl hh v tx)) ∧
          ((¬ p0 = 3) → (((p0 = 4) → P (some (.int (f 74))) (Wd f fl g gl hh v tx)) ∧
            ((¬ p0 = 4) → (((p0 = 5) → P (some (.int (f 78))) (Wd f fl g gl hh v tx)) ∧
              ((¬ p0 = 5) → (((p0 = 6) → P (some (.int (f 6))) (Wd f fl g gl hh v tx)) ∧
                ((¬ p0 = 6) → (((p0 = 7) → P (some (.int ((g 55) 1))) (Wd f fl g gl hh v tx)) ∧
                  ((¬ p0 = 7) → (((p0 = 8) → P (some (.int ((g 55) 2))) (Wd f fl g gl hh v tx)) ∧
                    ((¬ p0 = 8) → (((p0 = 9) → P (some (.int ((g 55) 3))) (Wd f fl g gl hh v tx)) ∧
                      ((¬ p0 = 9) → (((p0 = 10) → P (some (.int ((g 55) 5))) (Wd f fl g gl hh v tx)) ∧
                        ((¬ p0 = 10) → (((p0 = 11) → P (some (.int ((g 55) 6))) (Wd f fl g gl hh v tx)) ∧
                          ((¬ p0 = 11) → (((p0 = 12) → P (some (.int (f 76))) (Wd f fl g gl hh v tx)) ∧
                            ((¬ p0 = 12) → (((p0 = 13) → P (some (.int ((g 8) 0))) (Wd f fl g gl hh v tx)) ∧
                              ((¬ p0 = 13) → (((p0 = 14) → P (some (.int ((g 8) 1))) (Wd f fl g gl hh v tx)) ∧
                                ((¬ p0 = 14) → (((p0 = 15) → P (some (.int ((g 8) 2))) (Wd f fl g gl hh v tx)) ∧
                                  ((¬ p0 = 15) → P (some (.int (-1))) (Wd f fl g gl hh v tx))))))))))))))))))))))))))))))))) :
    WP X (d) 97 (0, [some (.ref 0), some (.int p0)], [], Wd f fl g gl hh v tx) P := by
  refine WP.run hP_97 1 (c' := (1, [some (.ref 0), some (.int p0)], [.int p0], Wd f fl g gl hh v tx)) rfl ?_
  refine WP.run hP_97 1 (c' := (mm_sw p0 0 [80, 88, 96, 104, 112, 120, 128, 133, 140, 147, 154, 161, 169, 177, 187, 197] 207, [some (.ref 0), some (.int p0)], [], Wd f fl g gl hh v tx)) rfl ?_
  refine WP.sw (lo' := 1) rfl (fun c1 => ?_) (fun c1 => ?_)
  · have h2 := h.1 c1
    refine WP.run hP_97 3 (c' := (87, [some (.ref 0), none], [.int (f 64)], Wd f fl g gl hh v tx)) rfl ?_
    exact WP.retI hP_97 rfl rfl h2
  · have h3 := h.2 c1
    refine WP.sw (lo' := 2) rfl (fun c4 => ?_) (fun c4 => ?_)
    · have h5 := h3.1 c4
      refine WP.run hP_97 3 (c' := (95, [some (.ref 0), none], [.int (f 68)], Wd f fl g gl hh v tx)) rfl ?_
      exact WP.retI hP_97 rfl rfl h5
    · have h6 := h3.2 c4
      refine WP.sw (lo' := 3) rfl (fun c7 => ?_) (fun c7 => ?_)
      · have h8 := h6.1 c7
        refine WP.run hP_97 3 (c' := (103, [some (.ref 0), none], [.int (f 70)], Wd f fl g gl hh v tx)) rfl ?_
        exact WP.retI hP_97 rfl rfl h8
      · have h9 := h6.2 c7
        refine WP.sw (lo' := 4) rfl (fun c10 => ?_) (fun c10 => ?_)
        · have h11 := h9.1 c10
          refine WP.run hP_97 3 (c' := (111, [some (.ref 0), none], [.int (f 72)], Wd f fl g gl hh v tx)) rfl ?_
          exact WP.retI hP_97 rfl rfl h11
        · have h12 := h9.2 c10
          refine WP.sw (lo' := 5) rfl (fun c13 => ?_) (fun c13 => ?_)
          · have h14 := h12.1 c13
            refine WP.run hP_97 3 (c' := (119, [some (.ref 0), none], [.int (f 74)], Wd f fl g gl hh v tx)) rfl ?_
            exact WP.retI hP_97 rfl rfl h14
          · have h15 := h12.2 c13
            refine WP.sw (lo' := 6) rfl (fun c16 => ?_) (fun c16 => ?_)
            · have h17 := h15.1 c16
              refine WP.run hP_97 3 (c' := (127, [some (.ref 0), none], [.int (f 78)], Wd f fl g gl hh v tx)) rfl ?_
              exact WP.retI hP_97 rfl rfl h17
            · have h18 := h15.2 c16
              refine WP.sw (lo' := 7) rfl (fun c19 => ?_) (fun c19 => ?_)
              · have h20 := h18.1 c19
                refine WP.run hP_97 2 (c' := (132, [some (.ref 0), none], [.int (f 6)], Wd f fl g gl hh v tx)) rfl ?_
                exact WP.retI hP_97 rfl rfl h20
              · have h21 := h18.2 c19
                refine WP.sw (lo' := 8) rfl (fun c22 => ?_) (fun c22 => ?_)
                · have h23 := h21.1 c22
                  refine WP.run hP_97 3 (c' := (138, [some (.ref 0), none], [.int 1, .ref 55], Wd f fl g gl hh v tx)) rfl ?_
                  refine WP.of (fun _ _ => Ex.iald hP_97 rfl (Wa_55 _ _ _ _ _ _ _) (by decide)) ?_
                  show WP X _ 97 (139, [some (.ref 0), none], [.int ((g 55) 1)], Wd f fl g gl hh v tx) P
                  exact WP.retI hP_97 rfl rfl h23
                · have h24 := h21.2 c22
                  refine WP.sw (lo' := 9) rfl (fun c25 => ?_) (fun c25 => ?_)
                  · have h26 := h24.1 c25
                    refine WP.run hP_97 3 (c' := (145, [some (.ref 0), none], [.int 2, .ref 55], Wd f fl g gl hh v tx)) rfl ?_
                    refine WP.of (fun _ _ => Ex.iald hP_97 rfl (Wa_55 _ _ _ _ _ _ _) (by decide)) ?_
                    show WP X _ 97 (146, [some (.ref 0), none], [.int ((g 55) 2)], Wd f fl g gl hh v tx) P
                    exact WP.retI hP_97 rfl rfl h26
                  · have h27 := h24.2 c25
                    refine WP.sw (lo' := 10) rfl (fun c28 => ?_) (fun c28 => ?_)
                    · have h29 := h27.1 c28
                      refine WP.run hP_97 3 (c' := (152, [some (.ref 0), none], [.int 3, .ref 55], Wd f fl g gl hh v tx)) rfl ?_
                      refine WP.of (fun _ _ => Ex.iald hP_97 rfl (Wa_55 _ _ _ _ _ _ _) (by decide)) ?_
                      show WP X _ 97 (153, [some (.ref 0), none], [.int ((g 55) 3)], Wd f fl g gl hh v tx) P
                      exact WP.retI hP_97 rfl rfl h29
                    · have h30 := h27.2 c28
                      refine WP.sw (lo' := 11) rfl (fun c31 => ?_) (fun c31 => ?_)
                      · have h32 := h30.1 c31
                        refine WP.run hP_97 3 (c' := (159, [some (.ref 0), none], [.int 5, .ref 55], Wd f fl g gl hh v tx)) rfl ?_
                        refine WP.of (fun _ _ => Ex.iald hP_97 rfl (Wa_55 _ _ _ _ _ _ _) (by decide)) ?_
                        show WP X _ 97 (160, [some (.ref 0), none], [.int ((g 55) 5)], Wd f fl g gl hh v tx) P
                        exact WP.retI hP_97 rfl rfl h32
                      · have h33 := h30.2 c31
                        refine WP.sw (lo' := 12) rfl (fun c34 => ?_) (fun c34 => ?_)
                        · have h35 := h33.1 c34
                          refine WP.run hP_97 3 (c' := (167, [some (.ref 0), none], [.int 6, .ref 55], Wd f fl g gl hh v tx)) rfl ?_
                          refine WP.of (fun _ _ => Ex.iald hP_97 rfl (Wa_55 _ _ _ _ _ _ _) (by decide)) ?_
                          show WP X _ 97 (168, [some (.ref 0), none], [.int ((g 55) 6)], Wd f fl g gl hh v tx) P
                          exact WP.retI hP_97 rfl rfl h35
                        · have h36 := h33.2 c34
                          refine WP.sw (lo' := 13) rfl (fun c37 => ?_) (fun c37 => ?_)
                          · have h38 := h36.1 c37
                            refine WP.run hP_97 3 (c' := (176, [some (.ref 0), none], [.int (f 76)], Wd f fl g gl hh v tx)) rfl ?_
                            exact WP.retI hP_97 rfl rfl h38
                          · have h39 := h36.2 c37
                            refine WP.sw (lo' := 14) rfl (fun c40 => ?_) (fun c40 => ?_)
                            · have h41 := h39.1 c40
                              refine WP.run hP_97 4 (c' := (185, [some (.ref 0), none], [.int 0, .ref 8], Wd f fl g gl hh v tx)) rfl ?_
                              refine WP.of (fun _ _ => Ex.iald hP_97 rfl (Wa_8 _ _ _ _ _ _ _) (by decide)) ?_
                              show WP X _ 97 (186, [some (.ref 0), none], [.int ((g 8) 0)], Wd f fl g gl hh v tx) P
                              exact WP.retI hP_97 rfl rfl h41
                            · have h42 := h39.2 c40
                              refine WP.sw (lo' := 15) rfl (fun c43 => ?_) (fun c43 => ?_)
                              · have h44 := h42.1 c43
                                refine WP.run hP_97 4 (c' := (195, [some (.ref 0), none], [.int 1, .ref 8], Wd f fl g gl hh v tx)) rfl ?_
                                refine WP.of (fun _ _ => Ex.iald hP_97 rfl (Wa_8 _ _ _ _ _ _ _) (by decide)) ?_
                                show WP X _ 97 (196, [some (.ref 0), none], [.int ((g 8) 1)], Wd f fl g gl hh v tx) P
                                exact WP.retI hP_97 rfl rfl h44
                              · have h45 := h42.2 c43
                                refine WP.sw (lo' := 16) rfl (fun c46 => ?_) (fun c46 => ?_)
                                · have h47 := h45.1 c46
                                  refine WP.run hP_97 4 (c' := (205, [some (.ref 0), none], [.int 2, .ref 8], Wd f fl g gl hh v tx)) rfl ?_
                                  refine WP.of (fun _ _ => Ex.iald hP_97 rfl (Wa_8 _ _ _ _ _ _ _) (by decide)) ?_
                                  show WP X _ 97 (206, [some (.ref 0), none], [.int ((g 8) 2)], Wd f fl g gl hh v tx) P
                                  exact WP.retI hP_97 rfl rfl h47
                                · have h48 := h45.2 c46
                                  show WP X _ 97 (207, [some (.ref 0), some (.int p0)], [], Wd f fl g gl hh v tx) P
                                  refine WP.run hP_97 1 (c' := (208, [none, none], [.int (-1)], Wd f fl g gl hh v tx)) rfl ?_
                                  exact WP.retI hP_97 rfl rfl h48

set_option maxRecDepth 20000 in
theorem b_m_refuses_0 (X : mm_X) (d : Nat) (f : Nat → Int32) (fl : Nat → Int64) (g : Nat → Nat → Int32) (gl : Nat → Nat → Int64) (hh : Nat → Nat → Option Nat) (v : Nat → Value) (tx : mm_W) (p0 : Int32)  (P : Option Value → mm_W → Prop)
    (h : (¬ ((-p0) < 0 ∨ 7 ≤ (-p0).toNatClampNeg)) ∧ ((¬ ((-p0) < 0 ∨ 7 ≤ (-p0).toNatClampNeg)) ∧ P (some (.int p0)) (Wd (va_up f 4736 p0) fl (va_up g 75 (upd (g 75) ((-p0).toNatClampNeg) (((g 75) (-p0).toNatClampNeg) + (1 : Int32)))) gl hh v tx))) :
    WP X (d) 119 (0, [some (.ref 74), some (.int p0)], [], Wd f fl g gl hh v tx) P := by
  refine WP.run hP_119 8 (c' := (12, [some (.ref 74), some (.int p0)], [.int (-p0), .ref 75, .int (-p0), .ref 75], Wd (va_up f 4736 p0) fl g gl hh v tx)) rfl ?_
  refine WP.of (fun _ _ => Ex.iald hP_119 rfl (Wa_75 _ _ _ _ _ _ _) h.1) ?_
  have h1 := h.2
  refine WP.run hP_119 2 (c' := (15, [some (.ref 74), some (.int p0)], [.int (((g 75) (-p0).toNatClampNeg) + (1 : Int32)), .int (-p0), .ref 75], Wd (va_up f 4736 p0) fl g gl hh v tx)) rfl ?_
  refine WP.of (fun _ _ => Ex.iast hP_119 (w2 := Wd (va_up f 4736 p0) fl (va_up g 75 (upd (g 75) ((-p0).toNatClampNeg) (((g 75) (-p0).toNatClampNeg) + (1 : Int32)))) gl hh v tx) rfl (Wa_75 _ _ _ _ _ _ _) h1.1 (Ws_75 _ _ _ _ _ _ _ _)) ?_
  have h2 := h1.2
  refine WP.run hP_119 1 (c' := (17, [some (.ref 74), some (.int p0)], [.int p0], Wd (va_up f 4736 p0) fl (va_up g 75 (upd (g 75) ((-p0).toNatClampNeg) (((g 75) (-p0).toNatClampNeg) + (1 : Int32)))) gl hh v tx)) rfl ?_
  exact WP.retI hP_119 rfl rfl h2

set_option maxRecDepth 20000 in
theorem b_m_good_0 (X : mm_X) (d : Nat) (f : Nat → Int32) (fl : Nat → Int64) (g : Nat → Nat → Int32) (gl : Nat → Nat → Int64) (hh : Nat → Nat → Option Nat) (v : Nat → Value) (tx : mm_W) (p0 : Int32)  (P : Option Value → mm_W → Prop)
    (h : P (some (.int p0)) (Wd (va_up f 4736 0) fl g gl hh v tx)) :
    WP X (d) 120 (0, [some (.ref 74), some (.int p0)], [], Wd f fl g gl hh v tx) P := by
  refine WP.run hP_120 4 (c' := (6, [some (.ref 74), some (.int p0)], [.int p0], Wd (va_up f 4736 0) fl g gl hh v tx)) rfl ?_
  exact WP.retI hP_120 rfl rfl h

set_option maxRecDepth 20000 in
theorem b_m_settled_0 (X : mm_X) (d : Nat) (f : Nat → Int32) (fl : Nat → Int64) (g : Nat → Nat → Int32) (gl : Nat → Nat → Int64) (hh : Nat → Nat → Option Nat) (v : Nat → Value) (tx : mm_W) (p0 : Int32)  (P : Option Value → mm_W → Prop)
    (h : P (some (.int p0)) (Wd (va_up (va_up f 4777 0) 4736 0) fl g gl hh v tx)) :
    WP X (d + 1) 121 (0, [some (.ref 74), some (.int p0)], [], Wd f fl g gl hh v tx) P := by
  refine WP.run hP_121 5 (c' := (7, [some (.ref 74), some (.int p0)], [.int p0, .ref 74], Wd (va_up f 4777 0) fl g gl hh v tx)) rfl ?_
  refine WP.call hP_121 hP_120 (as := [.ref 74, .int p0]) (pc' := 10) (L' := [some (.ref 74), some (.int p0)]) (st' := []) (w1 := Wd (va_up f 4777 0) fl g gl hh v tx) rfl ⟨Nat.le_of_ble_eq_true rfl, Nat.le_of_ble_eq_true rfl⟩ rfl (b_m_good_0 X (d) (va_up f 4777 0) fl g gl hh v tx p0 _ ?_)
  exact WP.retI hP_121 rfl rfl h

set_option maxRecDepth 20000 in
theorem b_m_signMany_0 (X : mm_X) (d : Nat) (f : Nat → Int32) (fl : Nat → Int64) (g : Nat → Nat → Int32) (gl : Nat → Nat → Int64) (hh : Nat → Nat → Option Nat) (v : Nat → Value) (tx : mm_W)   (P : Option Value → mm_W → Prop)
    (h : P (some (.int ((g 76) 55))) (Wd f fl g gl hh v tx)) :
    WP X (d) 129 (0, [some (.ref 74)], [], Wd f fl g gl hh v tx) P := by
  refine WP.run hP_129 3 (c' := (6, [some (.ref 74)], [.int 55, .ref 76], Wd f fl g gl hh v tx)) rfl ?_
  refine WP.of (fun _ _ => Ex.iald hP_129 rfl (Wa_76 _ _ _ _ _ _ _) (by decide)) ?_
  show WP X _ 129 (7, [some (.ref 74)], [.int ((g 76) 55)], Wd f fl g gl hh v tx) P
  exact WP.retI hP_129 rfl rfl h

set_option maxRecDepth 20000 in
theorem b_m_size_0 (X : mm_X) (d : Nat) (f : Nat → Int32) (fl : Nat → Int64) (g : Nat → Nat → Int32) (gl : Nat → Nat → Int64) (hh : Nat → Nat → Option Nat) (v : Nat → Value) (tx : mm_W)   (P : Option Value → mm_W → Prop)
    (h : P (some (.int ((g 76) 12))) (Wd f fl g gl hh v tx)) :
    WP X (d) 130 (0, [some (.ref 74)], [], Wd f fl g gl hh v tx) P := by
  refine WP.run hP_130 3 (c' := (6, [some (.ref 74)], [.int 12, .ref 76], Wd f fl g gl hh v tx)) rfl ?_
  refine WP.of (fun _ _ => Ex.iald hP_130 rfl (Wa_76 _ _ _ _ _ _ _) (by decide)) ?_
  show WP X _ 130 (7, [some (.ref 74)], [.int ((g 76) 12)], Wd f fl g gl hh v tx) P
  exact WP.retI hP_130 rfl rfl h

set_option maxRecDepth 20000 in
theorem b_m_isShip_0 (X : mm_X) (d : Nat) (f : Nat → Int32) (fl : Nat → Int64) (g : Nat → Nat → Int32) (gl : Nat → Nat → Int64) (hh : Nat → Nat → Option Nat) (v : Nat → Value) (tx : mm_W) (p0 : Int32)  (P : Option Value → mm_W → Prop)
    (h : (((0 : Int32) ≤ p0 ∧ p0 ≤ (((g 76) 56) - (1 : Int32))) → P (some (.int 1)) (Wd f fl g gl hh v tx)) ∧
    ((¬ ((0 : Int32) ≤ p0 ∧ p0 ≤ (((g 76) 56) - (1 : Int32)))) → P (some (.int 0)) (Wd f fl g gl hh v tx))) :
    WP X (d + 1) 132 (0, [some (.ref 74), some (.int p0)], [], Wd f fl g gl hh v tx) P := by
  refine WP.run hP_132 5 (c' := (8, [some (.ref 74), some (.int p0)], [.int 56, .ref 76, .int 0, .int p0], Wd f fl g gl hh v tx)) rfl ?_
  refine WP.of (fun _ _ => Ex.iald hP_132 rfl (Wa_76 _ _ _ _ _ _ _) (by decide)) ?_
  show WP X _ 132 (9, [some (.ref 74), some (.int p0)], [.int ((g 76) 56), .int 0, .int p0], Wd f fl g gl hh v tx) P
  refine WP.run hP_132 2 (c' := (11, [some (.ref 74), some (.int p0)], [.int (((g 76) 56) - (1 : Int32)), .int 0, .int p0], Wd f fl g gl hh v tx)) rfl ?_
  refine WP.call hP_132 hP_116 (as := [.int p0, .int 0, .int (((g 76) 56) - (1 : Int32))]) (pc' := 14) (L' := [some (.ref 74), some (.int p0)]) (st' := []) (w1 := Wd f fl g gl hh v tx) rfl ⟨Nat.le_of_ble_eq_true rfl, Nat.le_of_ble_eq_true rfl⟩ rfl (b_lies_m X (d) f fl g gl hh v tx p0 0 (((g 76) 56) - (1 : Int32)) _ ?_)
  refine ⟨fun c1 => ?_, fun c1 => ?_⟩
  · have h2 := h.1 c1
    exact WP.ret hP_132 (r := some (.int 1)) (w' := Wd f fl g gl hh v tx) rfl h2
  · have h3 := h.2 c1
    exact WP.ret hP_132 (r := some (.int 0)) (w' := Wd f fl g gl hh v tx) rfl h3

set_option maxRecDepth 20000 in
theorem b_m_ship_0 (X : mm_X) (d : Nat) (f : Nat → Int32) (fl : Nat → Int64) (g : Nat → Nat → Int32) (gl : Nat → Nat → Int64) (hh : Nat → Nat → Option Nat) (v : Nat → Value) (tx : mm_W) (p0 : Int32) (p1 : Int32) (p2 : Int32)  (P : Option Value → mm_W → Prop)
    (h : (((0 : Int32) ≤ p0 ∧ p0 ≤ (24 : Int32)) → ((((0 : Int32) ≤ p1 ∧ p1 ≤ (3 : Int32)) → ((((0 : Int32) ≤ p2 ∧ p2 ≤ (9 : Int32)) → (((¬ ((g 76) 56) = 3) → ((¬ (((13 : Int32) + ((g 76) 56)) < 0 ∨ 5667 ≤ ((13 : Int32) + ((g 76) 56)).toNatClampNeg)) ∧ ((¬ (((16 : Int32) + ((g 76) 56)) < 0 ∨ 5667 ≤ ((16 : Int32) + ((g 76) 56)).toNatClampNeg)) ∧ ((¬ (((19 : Int32) + ((g 76) 56)) < 0 ∨ 5667 ≤ ((19 : Int32) + ((g 76) 56)).toNatClampNeg)) ∧ P (some (.int ((g 76) 56))) (Wd (va_up (va_up f 4777 0) 4736 0) fl (va_up (va_up (va_up (va_up g 76 (upd (g 76) (((13 : Int32) + ((g 76) 56)).toNatClampNeg) p0)) 76 (upd (upd (g 76) (((13 : Int32) + ((g 76) 56)).toNatClampNeg) p0) (((16 : Int32) + ((g 76) 56)).toNatClampNeg) p1)) 76 (upd (upd (upd (g 76) (((13 : Int32) + ((g 76) 56)).toNatClampNeg) p0) (((16 : Int32) + ((g 76) 56)).toNatClampNeg) p1) (((19 : Int32) + ((g 76) 56)).toNatClampNeg) p2)) 76 (upd (upd (upd (upd (g 76) (((13 : Int32) + ((g 76) 56)).toNatClampNeg) p0) (((16 : Int32) + ((g 76) 56)).toNatClampNeg) p1) (((19 : Int32) + ((g 76) 56)).toNatClampNeg) p2) 56 (((upd (upd (upd (g 76) (((13 : Int32) + ((g 76) 56)).toNatClampNeg) p0) (((16 : Int32) + ((g 76) 56)).toNatClampNeg) p1) (((19 : Int32) + ((g 76) 56)).toNatClampNeg) p2) 56) + (1 : Int32)))) gl hh v tx))))) ∧
          ((((g 76) 56) = 3) → P (some (.int (-5))) (Wd (va_up f 4736 (-5 : Int32)) fl (va_up g 75 (upd (g 75) (5) (((g 75) 5) + (1 : Int32)))) gl hh v tx)))) ∧
        ((¬ ((0 : Int32) ≤ p2 ∧ p2 ≤ (9 : Int32))) → P (some (.int (-1))) (Wd (va_up f 4736 (-1 : Int32)) fl (va_up g 75 (upd (g 75) (1) (((g 75) 1) + (1 : Int32)))) gl hh v tx)))) ∧
      ((¬ ((0 : Int32) ≤ p1 ∧ p1 ≤ (3 : Int32))) → P (some (.int (-1))) (Wd (va_up f 4736 (-1 : Int32)) fl (va_up g 75 (upd (g 75) (1) (((g 75) 1) + (1 : Int32)))) gl hh v tx)))) ∧
    ((¬ ((0 : Int32) ≤ p0 ∧ p0 ≤ (24 : Int32))) → P (some (.int (-1))) (Wd (va_up f 4736 (-1 : Int32)) fl (va_up g 75 (upd (g 75) (1) (((g 75) 1) + (1 : Int32)))) gl hh v tx))) :
    WP X (d + 2) 139 (0, [some (.ref 74), some (.int p0), some (.int p1), some (.int p2), none], [], Wd f fl g gl hh v tx) P := by
  refine WP.run hP_139 3 (c' := (4, [some (.ref 74), some (.int p0), some (.int p1), some (.int p2), none], [.int 24, .int 0, .int p0], Wd f fl g gl hh v tx)) rfl ?_
  refine WP.call hP_139 hP_116 (as := [.int p0, .int 0, .int 24]) (pc' := 7) (L' := [some (.ref 74), some (.int p0), some (.int p1), some (.int p2), none]) (st' := []) (w1 := Wd f fl g gl hh v tx) rfl ⟨Nat.le_of_ble_eq_true rfl, Nat.le_of_ble_eq_true rfl⟩ rfl (b_lies_m X (d + 1) f fl g gl hh v tx p0 0 24 _ ?_)
  refine ⟨fun c1 => ?_, fun c1 => ?_⟩
  · have h2 := h.1 c1
    refine WP.run hP_139 4 (c' := (13, [some (.ref 74), some (.int p0), some (.int p1), some (.int p2), none], [.int 3, .int 0, .int p1], Wd f fl g gl hh v tx)) rfl ?_
    refine WP.call hP_139 hP_116 (as := [.int p1, .int 0, .int 3]) (pc' := 16) (L' := [some (.ref 74), some (.int p0), some (.int p1), some (.int p2), none]) (st' := []) (w1 := Wd f fl g gl hh v tx) rfl ⟨Nat.le_of_ble_eq_true rfl, Nat.le_of_ble_eq_true rfl⟩ rfl (b_lies_m X (d + 1) f fl g gl hh v tx p1 0 3 _ ?_)
    refine ⟨fun c3 => ?_, fun c3 => ?_⟩
    · have h4 := h2.1 c3
      refine WP.run hP_139 4 (c' := (23, [some (.ref 74), some (.int p0), some (.int p1), some (.int p2), none], [.int 9, .int 0, .int p2], Wd f fl g gl hh v tx)) rfl ?_
      refine WP.call hP_139 hP_116 (as := [.int p2, .int 0, .int 9]) (pc' := 26) (L' := [some (.ref 74), some (.int p0), some (.int p1), some (.int p2), none]) (st' := []) (w1 := Wd f fl g gl hh v tx) rfl ⟨Nat.le_of_ble_eq_true rfl, Nat.le_of_ble_eq_true rfl⟩ rfl (b_lies_m X (d + 1) f fl g gl hh v tx p2 0 9 _ ?_)
      refine ⟨fun c5 => ?_, fun c5 => ?_⟩
      · have h6 := h4.1 c5
        refine WP.run hP_139 4 (c' := (41, [some (.ref 74), some (.int p0), some (.int p1), some (.int p2), none], [.int 56, .ref 76], Wd f fl g gl hh v tx)) rfl ?_
        refine WP.of (fun _ _ => Ex.iald hP_139 rfl (Wa_76 _ _ _ _ _ _ _) (by decide)) ?_
        show WP X _ 139 (42, [some (.ref 74), some (.int p0), some (.int p1), some (.int p2), none], [.int ((g 76) 56)], Wd f fl g gl hh v tx) P
        refine WP.run hP_139 3 (c' := (47, [some (.ref 74), some (.int p0), some (.int p1), some (.int p2), some (.int ((g 76) 56))], [.int 3, .int ((g 76) 56)], Wd f fl g gl hh v tx)) rfl ?_
        refine WP.br hP_139 (q := ¬ ((g 76) 56) = 3) (t := 57) (f := 50) (L := [some (.ref 74), some (.int p0), some (.int p1), some (.int p2), some (.int ((g 76) 56))]) (st := []) (w := Wd f fl g gl hh v tx) rfl (fun c7 => ?_) (fun c7 => ?_)
        · have h8 := h6.1 c7
          refine WP.run hP_139 6 (c' := (67, [some (.ref 74), some (.int p0), some (.int p1), some (.int p2), some (.int ((g 76) 56))], [.int p0, .int ((13 : Int32) + ((g 76) 56)), .ref 76], Wd f fl g gl hh v tx)) rfl ?_
          refine WP.of (fun _ _ => Ex.iast hP_139 (w2 := Wd f fl (va_up g 76 (upd (g 76) (((13 : Int32) + ((g 76) 56)).toNatClampNeg) p0)) gl hh v tx) rfl (Wa_76 _ _ _ _ _ _ _) h8.1 (Ws_76 _ _ _ _ _ _ _ _)) ?_
          have h9 := h8.2
          refine WP.run hP_139 6 (c' := (78, [some (.ref 74), some (.int p0), some (.int p1), some (.int p2), some (.int ((g 76) 56))], [.int p1, .int ((16 : Int32) + ((g 76) 56)), .ref 76], Wd f fl (va_up g 76 (upd (g 76) (((13 : Int32) + ((g 76) 56)).toNatClampNeg) p0)) gl hh v tx)) rfl ?_
          refine WP.of (fun _ _ => Ex.iast hP_139 (w2 := Wd f fl (va_up (va_up g 76 (upd (g 76) (((13 : Int32) + ((g 76) 56)).toNatClampNeg) p0)) 76 (upd (upd (g 76) (((13 : Int32) + ((g 76) 56)).toNatClampNeg) p0) (((16 : Int32) + ((g 76) 56)).toNatClampNeg) p1)) gl hh v tx) rfl (Wa_76 _ _ _ _ _ _ _) h9.1 (Ws_76 _ _ _ _ _ _ _ _)) ?_
          have h10 := h9.2
          refine WP.run hP_139 6 (c' := (89, [some (.ref 74), some (.int p0), some (.int p1), some (.int p2), some (.int ((g 76) 56))], [.int p2, .int ((19 : Int32) + ((g 76) 56)), .ref 76], Wd f fl (va_up (va_up g 76 (upd (g 76) (((13 : Int32) + ((g 76) 56)).toNatClampNeg) p0)) 76 (upd (upd (g 76) (((13 : Int32) + ((g 76) 56)).toNatClampNeg) p0) (((16 : Int32) + ((g 76) 56)).toNatClampNeg) p1)) gl hh v tx)) rfl ?_
          refine WP.of (fun _ _ => Ex.iast hP_139 (w2 := Wd f fl (va_up (va_up (va_up g 76 (upd (g 76) (((13 : Int32) + ((g 76) 56)).toNatClampNeg) p0)) 76 (upd (upd (g 76) (((13 : Int32) + ((g 76) 56)).toNatClampNeg) p0) (((16 : Int32) + ((g 76) 56)).toNatClampNeg) p1)) 76 (upd (upd (upd (g 76) (((13 : Int32) + ((g 76) 56)).toNatClampNeg) p0) (((16 : Int32) + ((g 76) 56)).toNatClampNeg) p1) (((19 : Int32) + ((g 76) 56)).toNatClampNeg) p2)) gl hh v tx) rfl (Wa_76 _ _ _ _ _ _ _) h10.1 (Ws_76 _ _ _ _ _ _ _ _)) ?_
          have h11 := h10.2
          refine WP.run hP_139 4 (c' := (97, [some (.ref 74), some (.int p0), some (.int p1), some (.int p2), some (.int ((g 76) 56))], [.int 56, .ref 76, .int 56, .ref 76], Wd f fl (va_up (va_up (va_up g 76 (upd (g 76) (((13 : Int32) + ((g 76) 56)).toNatClampNeg) p0)) 76 (upd (upd (g 76) (((13 : Int32) + ((g 76) 56)).toNatClampNeg) p0) (((16 : Int32) + ((g 76) 56)).toNatClampNeg) p1)) 76 (upd (upd (upd (g 76) (((13 : Int32) + ((g 76) 56)).toNatClampNeg) p0) (((16 : Int32) + ((g 76) 56)).toNatClampNeg) p1) (((19 : Int32) + ((g 76) 56)).toNatClampNeg) p2)) gl hh v tx)) rfl ?_
          refine WP.of (fun _ _ => Ex.iald hP_139 rfl (Wa_76 _ _ _ _ _ _ _) (by decide)) ?_
          show WP X _ 139 (98, [some (.ref 74), some (.int p0), some (.int p1), some (.int p2), some (.int ((g 76) 56))], [.int ((upd (upd (upd (g 76) (((13 : Int32) + ((g 76) 56)).toNatClampNeg) p0) (((16 : Int32) + ((g 76) 56)).toNatClampNeg) p1) (((19 : Int32) + ((g 76) 56)).toNatClampNeg) p2) 56), .int 56, .ref 76], Wd f fl (va_up (va_up (va_up g 76 (upd (g 76) (((13 : Int32) + ((g 76) 56)).toNatClampNeg) p0)) 76 (upd (upd (g 76) (((13 : Int32) + ((g 76) 56)).toNatClampNeg) p0) (((16 : Int32) + ((g 76) 56)).toNatClampNeg) p1)) 76 (upd (upd (upd (g 76) (((13 : Int32) + ((g 76) 56)).toNatClampNeg) p0) (((16 : Int32) + ((g 76) 56)).toNatClampNeg) p1) (((19 : Int32) + ((g 76) 56)).toNatClampNeg) p2)) gl hh v tx) P
          refine WP.run hP_139 2 (c' := (100, [some (.ref 74), some (.int p0), some (.int p1), some (.int p2), some (.int ((g 76) 56))], [.int (((upd (upd (upd (g 76) (((13 : Int32) + ((g 76) 56)).toNatClampNeg) p0) (((16 : Int32) + ((g 76) 56)).toNatClampNeg) p1) (((19 : Int32) + ((g 76) 56)).toNatClampNeg) p2) 56) + (1 : Int32)), .int 56, .ref 76], Wd f fl (va_up (va_up (va_up g 76 (upd (g 76) (((13 : Int32) + ((g 76) 56)).toNatClampNeg) p0)) 76 (upd (upd (g 76) (((13 : Int32) + ((g 76) 56)).toNatClampNeg) p0) (((16 : Int32) + ((g 76) 56)).toNatClampNeg) p1)) 76 (upd (upd (upd (g 76) (((13 : Int32) + ((g 76) 56)).toNatClampNeg) p0) (((16 : Int32) + ((g 76) 56)).toNatClampNeg) p1) (((19 : Int32) + ((g 76) 56)).toNatClampNeg) p2)) gl hh v tx)) rfl ?_
          refine WP.of (fun _ _ => Ex.iast hP_139 (w2 := Wd f fl (va_up (va_up (va_up (va_up g 76 (upd (g 76) (((13 : Int32) + ((g 76) 56)).toNatClampNeg) p0)) 76 (upd (upd (g 76) (((13 : Int32) + ((g 76) 56)).toNatClampNeg) p0) (((16 : Int32) + ((g 76) 56)).toNatClampNeg) p1)) 76 (upd (upd (upd (g 76) (((13 : Int32) + ((g 76) 56)).toNatClampNeg) p0) (((16 : Int32) + ((g 76) 56)).toNatClampNeg) p1) (((19 : Int32) + ((g 76) 56)).toNatClampNeg) p2)) 76 (upd (upd (upd (upd (g 76) (((13 : Int32) + ((g 76) 56)).toNatClampNeg) p0) (((16 : Int32) + ((g 76) 56)).toNatClampNeg) p1) (((19 : Int32) + ((g 76) 56)).toNatClampNeg) p2) 56 (((upd (upd (upd (g 76) (((13 : Int32) + ((g 76) 56)).toNatClampNeg) p0) (((16 : Int32) + ((g 76) 56)).toNatClampNeg) p1) (((19 : Int32) + ((g 76) 56)).toNatClampNeg) p2) 56) + (1 : Int32)))) gl hh v tx) rfl (Wa_76 _ _ _ _ _ _ _) (by decide) (Ws_76 _ _ _ _ _ _ _ _)) ?_
          refine WP.run hP_139 2 (c' := (104, [some (.ref 74), some (.int p0), some (.int p1), some (.int p2), some (.int ((g 76) 56))], [.int ((g 76) 56), .ref 74], Wd f fl (va_up (va_up (va_up (va_up g 76 (upd (g 76) (((13 : Int32) + ((g 76) 56)).toNatClampNeg) p0)) 76 (upd (upd (g 76) (((13 : Int32) + ((g 76) 56)).toNatClampNeg) p0) (((16 : Int32) + ((g 76) 56)).toNatClampNeg) p1)) 76 (upd (upd (upd (g 76) (((13 : Int32) + ((g 76) 56)).toNatClampNeg) p0) (((16 : Int32) + ((g 76) 56)).toNatClampNeg) p1) (((19 : Int32) + ((g 76) 56)).toNatClampNeg) p2)) 76 (upd (upd (upd (upd (g 76) (((13 : Int32) + ((g 76) 56)).toNatClampNeg) p0) (((16 : Int32) + ((g 76) 56)).toNatClampNeg) p1) (((19 : Int32) + ((g 76) 56)).toNatClampNeg) p2) 56 (((upd (upd (upd (g 76) (((13 : Int32) + ((g 76) 56)).toNatClampNeg) p0) (((16 : Int32) + ((g 76) 56)).toNatClampNeg) p1) (((19 : Int32) + ((g 76) 56)).toNatClampNeg) p2) 56) + (1 : Int32)))) gl hh v tx)) rfl ?_
          refine WP.call hP_139 hP_121 (as := [.ref 74, .int ((g 76) 56)]) (pc' := 107) (L' := [some (.ref 74), some (.int p0), some (.int p1), some (.int p2), some (.int ((g 76) 56))]) (st' := []) (w1 := Wd f fl (va_up (va_up (va_up (va_up g 76 (upd (g 76) (((13 : Int32) + ((g 76) 56)).toNatClampNeg) p0)) 76 (upd (upd (g 76) (((13 : Int32) + ((g 76) 56)).toNatClampNeg) p0) (((16 : Int32) + ((g 76) 56)).toNatClampNeg) p1)) 76 (upd (upd (upd (g 76) (((13 : Int32) + ((g 76) 56)).toNatClampNeg) p0) (((16 : Int32) + ((g 76) 56)).toNatClampNeg) p1) (((19 : Int32) + ((g 76) 56)).toNatClampNeg) p2)) 76 (upd (upd (upd (upd (g 76) (((13 : Int32) + ((g 76) 56)).toNatClampNeg) p0) (((16 : Int32) + ((g 76) 56)).toNatClampNeg) p1) (((19 : Int32) + ((g 76) 56)).toNatClampNeg) p2) 56 (((upd (upd (upd (g 76) (((13 : Int32) + ((g 76) 56)).toNatClampNeg) p0) (((16 : Int32) + ((g 76) 56)).toNatClampNeg) p1) (((19 : Int32) + ((g 76) 56)).toNatClampNeg) p2) 56) + (1 : Int32)))) gl hh v tx) rfl ⟨Nat.le_of_ble_eq_true rfl, Nat.le_of_ble_eq_true rfl⟩ rfl (b_m_settled_0 X (d) f fl (va_up (va_up (va_up (va_up g 76 (upd (g 76) (((13 : Int32) + ((g 76) 56)).toNatClampNeg) p0)) 76 (upd (upd (g 76) (((13 : Int32) + ((g 76) 56)).toNatClampNeg) p0) (((16 : Int32) + ((g 76) 56)).toNatClampNeg) p1)) 76 (upd (upd (upd (g 76) (((13 : Int32) + ((g 76) 56)).toNatClampNeg) p0) (((16 : Int32) + ((g 76) 56)).toNatClampNeg) p1) (((19 : Int32) + ((g 76) 56)).toNatClampNeg) p2)) 76 (upd (upd (upd (upd (g 76) (((13 : Int32) + ((g 76) 56)).toNatClampNeg) p0) (((16 : Int32) + ((g 76) 56)).toNatClampNeg) p1) (((19 : Int32) + ((g 76) 56)).toNatClampNeg) p2) 56 (((upd (upd (upd (g 76) (((13 : Int32) + ((g 76) 56)).toNatClampNeg) p0) (((16 : Int32) + ((g 76) 56)).toNatClampNeg) p1) (((19 : Int32) + ((g 76) 56)).toNatClampNeg) p2) 56) + (1 : Int32)))) gl hh v tx ((g 76) 56) _ ?_)
          exact WP.retI hP_139 rfl rfl h11
        · have h12 := h6.2 (Classical.not_not.mp c7)
          refine WP.run hP_139 2 (c' := (53, [some (.ref 74), some (.int p0), some (.int p1), some (.int p2), some (.int ((g 76) 56))], [.int (-5), .ref 74], Wd f fl g gl hh v tx)) rfl ?_
          refine WP.call hP_139 hP_119 (as := [.ref 74, .int (-5)]) (pc' := 56) (L' := [some (.ref 74), some (.int p0), some (.int p1), some (.int p2), some (.int ((g 76) 56))]) (st' := []) (w1 := Wd f fl g gl hh v tx) rfl ⟨Nat.le_of_ble_eq_true rfl, Nat.le_of_ble_eq_true rfl⟩ rfl (b_m_refuses_0 X (d + 1) f fl g gl hh v tx (-5) _ ?_)
          refine ⟨by decide, ?_⟩
          refine ⟨by decide, ?_⟩
          exact WP.retI hP_139 rfl rfl h12
      · have h13 := h4.2 c5
        refine WP.run hP_139 3 (c' := (31, [some (.ref 74), none, none, none, none], [.int (-1), .ref 74], Wd f fl g gl hh v tx)) rfl ?_
        refine WP.call hP_139 hP_119 (as := [.ref 74, .int (-1)]) (pc' := 34) (L' := [some (.ref 74), none, none, none, none]) (st' := []) (w1 := Wd f fl g gl hh v tx) rfl ⟨Nat.le_of_ble_eq_true rfl, Nat.le_of_ble_eq_true rfl⟩ rfl (b_m_refuses_0 X (d + 1) f fl g gl hh v tx (-1) _ ?_)
        refine ⟨by decide, ?_⟩
        refine ⟨by decide, ?_⟩
        exact WP.retI hP_139 rfl rfl h13
    · have h14 := h2.2 c3
      refine WP.run hP_139 3 (c' := (31, [some (.ref 74), none, none, none, none], [.int (-1), .ref 74], Wd f fl g gl hh v tx)) rfl ?_
      refine WP.call hP_139 hP_119 (as := [.ref 74, .int (-1)]) (pc' := 34) (L' := [some (.ref 74), none, none, none, none]) (st' := []) (w1 := Wd f fl g gl hh v tx) rfl ⟨Nat.le_of_ble_eq_true rfl, Nat.le_of_ble_eq_true rfl⟩ rfl (b_m_refuses_0 X (d + 1) f fl g gl hh v tx (-1) _ ?_)
      refine ⟨by decide, ?_⟩
      refine ⟨by decide, ?_⟩
      exact WP.retI hP_139 rfl rfl h14
  · have h15 := h.2 c1
    refine WP.run hP_139 3 (c' := (31, [some (.ref 74), none, none, none, none], [.int (-1), .ref 74], Wd f fl g gl hh v tx)) rfl ?_
    refine WP.call hP_139 hP_119 (as := [.ref 74, .int (-1)]) (pc' := 34) (L' := [some (.ref 74), none, none, none, none]) (st' := []) (w1 := Wd f fl g gl hh v tx) rfl ⟨Nat.le_of_ble_eq_true rfl, Nat.le_of_ble_eq_true rfl⟩ rfl (b_m_refuses_0 X (d + 1) f fl g gl hh v tx (-1) _ ?_)
    refine ⟨by decide, ?_⟩
    refine ⟨by decide, ?_⟩
    exact WP.retI hP_139 rfl rfl h15

set_option maxRecDepth 20000 in
theorem b_m_of_0 (X : mm_X) (d : Nat) (f : Nat → Int32) (fl : Nat → Int64) (g : Nat → Nat → Int32) (gl : Nat → Nat → Int64) (hh : Nat → Nat → Option Nat) (v : Nat → Value) (tx : mm_W) (p0 : Int32) (p1 : Int32)  (P : Option Value → mm_W → Prop)
    (h : (((0 : Int32) ≤ p0 ∧ p0 ≤ (((g 76) 56) - (1 : Int32))) → (((p1 = 0) → ((¬ (((13 : Int32) + p0) < 0 ∨ 5667 ≤ ((13 : Int32) + p0).toNatClampNeg)) ∧ P (some (.int ((g 76) ((13 : Int32) + p0).toNatClampNeg))) (Wd f fl g gl hh v tx))) ∧
      ((¬ p1 = 0) → (((p1 = 1) → ((¬ (((16 : Int32) + p0) < 0 ∨ 5667 ≤ ((16 : Int32) + p0).toNatClampNeg)) ∧ P (some (.int ((g 76) ((16 : Int32) + p0).toNatClampNeg))) (Wd f fl g gl hh v tx))) ∧
        ((¬ p1 = 1) → (((p1 = 2) → ((¬ (((19 : Int32) + p0) < 0 ∨ 5667 ≤ ((19 : Int32) + p0).toNatClampNeg)) ∧ P (some (.int ((g 76) ((19 : Int32) + p0).toNatClampNeg))) (Wd f fl g gl hh v tx))) ∧
          ((¬ p1 = 2) → P (some (.int (-1))) (Wd f fl g gl hh v tx)))))))) ∧
    ((¬ ((0 : Int32) ≤ p0 ∧ p0 ≤ (((g 76) 56) - (1 : Int32)))) → P (some (.int (-1))) (Wd f fl g gl hh v tx))) :
    WP X (d + 2) 140 (0, [some (.ref 74), some (.int p0), some (.int p1)], [], Wd f fl g gl hh v tx) P := by
  refine WP.run hP_140 2 (c' := (2, [some (.ref 74), some (.int p0), some (.int p1)], [.int p0, .ref 74], Wd f fl g gl hh v tx)) rfl ?_
  refine WP.call hP_140 hP_132 (as := [.ref 74, .int p0]) (pc' := 5) (L' := [some (.ref 74), some (.int p0), some (.int p1)]) (st' := []) (w1 := Wd f fl g gl hh v tx) rfl ⟨Nat.le_of_ble_eq_true rfl, Nat.le_of_ble_eq_true rfl⟩ rfl (b_m_isShip_0 X (d) f fl g gl hh v tx p0 _ ?_)
  refine ⟨fun c1 => ?_, fun c1 => ?_⟩
  · have h2 := h.1 c1
    refine WP.run hP_140 2 (c' := (11, [some (.ref 74), some (.int p0), some (.int p1)], [.int p1], Wd f fl g gl hh v tx)) rfl ?_
    refine WP.run hP_140 1 (c' := (mm_sw p1 0 [36, 46, 56] 66, [some (.ref 74), some (.int p0), some (.int p1)], [], Wd f fl g gl hh v tx)) rfl ?_
    refine WP.sw (lo' := 1) rfl (fun c3 => ?_) (fun c3 => ?_)
    · have h4 := h2.1 c3
      refine WP.run hP_140 5 (c' := (44, [some (.ref 74), some (.int p0), none], [.int ((13 : Int32) + p0), .ref 76], Wd f fl g gl hh v tx)) rfl ?_
      refine WP.of (fun _ _ => Ex.iald hP_140 rfl (Wa_76 _ _ _ _ _ _ _) h4.1) ?_
      have h5 := h4.2
      exact WP.retI hP_140 rfl rfl h5
    · have h6 := h2.2 c3
      refine WP.sw (lo' := 2) rfl (fun c7 => ?_) (fun c7 => ?_)
      · have h8 := h6.1 c7
        refine WP.run hP_140 5 (c' := (54, [some (.ref 74), some (.int p0), none], [.int ((16 : Int32) + p0), .ref 76], Wd f fl g gl hh v tx)) rfl ?_
        refine WP.of (fun _ _ => Ex.iald hP_140 rfl (Wa_76 _ _ _ _ _ _ _) h8.1) ?_
        have h9 := h8.2
        exact WP.retI hP_140 rfl rfl h9
      · have h10 := h6.2 c7
        refine WP.sw (lo' := 3) rfl (fun c11 => ?_) (fun c11 => ?_)
        · have h12 := h10.1 c11
          refine WP.run hP_140 5 (c' := (64, [some (.ref 74), some (.int p0), none], [.int ((19 : Int32) + p0), .ref 76], Wd f fl g gl hh v tx)) rfl ?_
          refine WP.of (fun _ _ => Ex.iald hP_140 rfl (Wa_76 _ _ _ _ _ _ _) h12.1) ?_
          have h13 := h12.2
          exact WP.retI hP_140 rfl rfl h13
        · have h14 := h10.2 c11
          show WP X _ 140 (66, [some (.ref 74), some (.int p0), some (.int p1)], [], Wd f fl g gl hh v tx) P
          refine WP.run hP_140 1 (c' := (67, [none, none, none], [.int (-1)], Wd f fl g gl hh v tx)) rfl ?_
          exact WP.retI hP_140 rfl rfl h14
  · have h15 := h.2 c1
    refine WP.run hP_140 2 (c' := (9, [some (.ref 74), some (.int p0), some (.int p1)], [.int (-1)], Wd f fl g gl hh v tx)) rfl ?_
    exact WP.retI hP_140 rfl rfl h15

set_option maxRecDepth 20000 in
theorem b_m_line_0 (X : mm_X) (d : Nat) (f : Nat → Int32) (fl : Nat → Int64) (g : Nat → Nat → Int32) (gl : Nat → Nat → Int64) (hh : Nat → Nat → Option Nat) (v : Nat → Value) (tx : mm_W) (p0 : Int32)  (P : Option Value → mm_W → Prop)
    (h : (((0 : Int32) ≤ p0 ∧ p0 ≤ (((g 76) 12) - (1 : Int32))) → ((¬ (((0 : Int32) + p0) < 0 ∨ 5667 ≤ ((0 : Int32) + p0).toNatClampNeg)) ∧ P (some (.int ((g 76) ((0 : Int32) + p0).toNatClampNeg))) (Wd f fl g gl hh v tx))) ∧
    ((¬ ((0 : Int32) ≤ p0 ∧ p0 ≤ (((g 76) 12) - (1 : Int32)))) → P (some (.int (-1))) (Wd f fl g gl hh v tx))) :
    WP X (d + 1) 142 (0, [some (.ref 74), some (.int p0)], [], Wd f fl g gl hh v tx) P := by
  refine WP.run hP_142 3 (c' := (3, [some (.ref 74), some (.int p0)], [.ref 74, .int 0, .int p0], Wd f fl g gl hh v tx)) rfl ?_
  refine WP.call hP_142 hP_130 (as := [.ref 74]) (pc' := 6) (L' := [some (.ref 74), some (.int p0)]) (st' := [.int 0, .int p0]) (w1 := Wd f fl g gl hh v tx) rfl ⟨Nat.le_of_ble_eq_true rfl, Nat.le_of_ble_eq_true rfl⟩ rfl (b_m_size_0 X (d) f fl g gl hh v tx  _ ?_)
  refine WP.run hP_142 2 (c' := (8, [some (.ref 74), some (.int p0)], [.int (((g 76) 12) - (1 : Int32)), .int 0, .int p0], Wd f fl g gl hh v tx)) rfl ?_
  refine WP.call hP_142 hP_116 (as := [.int p0, .int 0, .int (((g 76) 12) - (1 : Int32))]) (pc' := 11) (L' := [some (.ref 74), some (.int p0)]) (st' := []) (w1 := Wd f fl g gl hh v tx) rfl ⟨Nat.le_of_ble_eq_true rfl, Nat.le_of_ble_eq_true rfl⟩ rfl (b_lies_m X (d) f fl g gl hh v tx p0 0 (((g 76) 12) - (1 : Int32)) _ ?_)
  refine ⟨fun c1 => ?_, fun c1 => ?_⟩
  · have h2 := h.1 c1
    refine WP.run hP_142 6 (c' := (21, [some (.ref 74), some (.int p0)], [.int ((0 : Int32) + p0), .ref 76], Wd f fl g gl hh v tx)) rfl ?_
    refine WP.of (fun _ _ => Ex.iald hP_142 rfl (Wa_76 _ _ _ _ _ _ _) h2.1) ?_
    have h3 := h2.2
    refine WP.run hP_142 1 (c' := (26, [some (.ref 74), some (.int p0)], [.int ((g 76) ((0 : Int32) + p0).toNatClampNeg)], Wd f fl g gl hh v tx)) rfl ?_
    exact WP.retI hP_142 rfl rfl h3
  · have h4 := h.2 c1
    refine WP.run hP_142 2 (c' := (26, [none, none], [.int (-1)], Wd f fl g gl hh v tx)) rfl ?_
    exact WP.retI hP_142 rfl rfl h4

set_option maxRecDepth 20000 in
theorem b_m_isTerm_0 (X : mm_X) (d : Nat) (f : Nat → Int32) (fl : Nat → Int64) (g : Nat → Nat → Int32) (gl : Nat → Nat → Int64) (hh : Nat → Nat → Option Nat) (v : Nat → Value) (tx : mm_W) (p0 : Int32) (p1 : Int32)  (P : Option Value → mm_W → Prop)
    (h : ((p0 = 0) → ((((0 : Int32) ≤ p1 ∧ p1 ≤ (999 : Int32)) → P (some (.int 1)) (Wd f fl g gl hh v tx)) ∧
      ((¬ ((0 : Int32) ≤ p1 ∧ p1 ≤ (999 : Int32))) → P (some (.int 0)) (Wd f fl g gl hh v tx)))) ∧
    ((¬ p0 = 0) → (((p0 = 1) → ((((0 : Int32) ≤ p1 ∧ p1 ≤ (10 : Int32)) → P (some (.int 1)) (Wd f fl g gl hh v tx)) ∧
        ((¬ ((0 : Int32) ≤ p1 ∧ p1 ≤ (10 : Int32))) → P (some (.int 0)) (Wd f fl g gl hh v tx)))) ∧
      ((¬ p0 = 1) → (((p0 = 2) → ((((0 : Int32) ≤ p1 ∧ p1 ≤ (9 : Int32)) → P (some (.int 1)) (Wd f fl g gl hh v tx)) ∧
          ((¬ ((0 : Int32) ≤ p1 ∧ p1 ≤ (9 : Int32))) → P (some (.int 0)) (Wd f fl g gl hh v tx)))) ∧
        ((¬ p0 = 2) → P (some (.int 0)) (Wd f fl g gl hh v tx))))))) :
    WP X (d + 1) 143 (0, [some (.int p0), some (.int p1)], [], Wd f fl g gl hh v tx) P := by
  refine WP.run hP_143 1 (c' := (1, [some (.int p0), some (.int p1)], [.int p0], Wd f fl g gl hh v tx)) rfl ?_
  refine WP.run hP_143 1 (c' := (mm_sw p0 0 [28, 37, 45] 53, [some (.int p0), some (.int p1)], [], Wd f fl g gl hh v tx)) rfl ?_
  refine WP.sw (lo' := 1) rfl (fun c1 => ?_) (fun c1 => ?_)
  · have h2 := h.1 c1
    refine WP.run hP_143 3 (c' := (33, [none, some (.int p1)], [.int 999, .int 0, .int p1], Wd f fl g gl hh v tx)) rfl ?_
    refine WP.call hP_143 hP_116 (as := [.int p1, .int 0, .int 999]) (pc' := 36) (L' := [none, some (.int p1)]) (st' := []) (w1 := Wd f fl g gl hh v tx) rfl ⟨Nat.le_of_ble_eq_true rfl, Nat.le_of_ble_eq_true rfl⟩ rfl (b_lies_m X (d) f fl g gl hh v tx p1 0 999 _ ?_)
    refine ⟨fun c3 => ?_, fun c3 => ?_⟩
    · have h4 := h2.1 c3
      exact WP.ret hP_143 (r := some (.int 1)) (w' := Wd f fl g gl hh v tx) rfl h4
    · have h5 := h2.2 c3
      exact WP.ret hP_143 (r := some (.int 0)) (w' := Wd f fl g gl hh v tx) rfl h5
  · have h6 := h.2 c1
    refine WP.sw (lo' := 2) rfl (fun c7 => ?_) (fun c7 => ?_)
    · have h8 := h6.1 c7
      refine WP.run hP_143 3 (c' := (41, [none, some (.int p1)], [.int 10, .int 0, .int p1], Wd f fl g gl hh v tx)) rfl ?_
      refine WP.call hP_143 hP_116 (as := [.int p1, .int 0, .int 10]) (pc' := 44) (L' := [none, some (.int p1)]) (st' := []) (w1 := Wd f fl g gl hh v tx) rfl ⟨Nat.le_of_ble_eq_true rfl, Nat.le_of_ble_eq_true rfl⟩ rfl (b_lies_m X (d) f fl g gl hh v tx p1 0 10 _ ?_)
      refine ⟨fun c9 => ?_, fun c9 => ?_⟩
      · have h10 := h8.1 c9
        exact WP.ret hP_143 (r := some (.int 1)) (w' := Wd f fl g gl hh v tx) rfl h10
      · have h11 := h8.2 c9
        exact WP.ret hP_143 (r := some (.int 0)) (w' := Wd f fl g gl hh v tx) rfl h11
    · have h12 := h6.2 c7
      refine WP.sw (lo' := 3) rfl (fun c13 => ?_) (fun c13 => ?_)
      · have h14 := h12.1 c13
        refine WP.run hP_143 3 (c' := (49, [none, some (.int p1)], [.int 9, .int 0, .int p1], Wd f fl g gl hh v tx)) rfl ?_
        refine WP.call hP_143 hP_116 (as := [.int p1, .int 0, .int 9]) (pc' := 52) (L' := [none, some (.int p1)]) (st' := []) (w1 := Wd f fl g gl hh v tx) rfl ⟨Nat.le_of_ble_eq_true rfl, Nat.le_of_ble_eq_true rfl⟩ rfl (b_lies_m X (d) f fl g gl hh v tx p1 0 9 _ ?_)
        refine ⟨fun c15 => ?_, fun c15 => ?_⟩
        · have h16 := h14.1 c15
          exact WP.ret hP_143 (r := some (.int 1)) (w' := Wd f fl g gl hh v tx) rfl h16
        · have h17 := h14.2 c15
          exact WP.ret hP_143 (r := some (.int 0)) (w' := Wd f fl g gl hh v tx) rfl h17
      · have h18 := h12.2 c13
        show WP X _ 143 (53, [some (.int p0), some (.int p1)], [], Wd f fl g gl hh v tx) P
        refine WP.run hP_143 1 (c' := (54, [none, none], [.int 0], Wd f fl g gl hh v tx)) rfl ?_
        exact WP.ret hP_143 (r := some (.int 0)) (w' := Wd f fl g gl hh v tx) rfl h18

set_option maxRecDepth 20000 in
theorem b_m_termAt_0 (X : mm_X) (d : Nat) (f : Nat → Int32) (fl : Nat → Int64) (g : Nat → Nat → Int32) (gl : Nat → Nat → Int64) (hh : Nat → Nat → Option Nat) (v : Nat → Value) (tx : mm_W) (p0 : Int32)  (P : Option Value → mm_W → Prop)
    (h : ((¬ p0 = 0) → (((¬ p0 = 1) → P (some (.int 54)) (Wd f fl g gl hh v tx)) ∧
      ((p0 = 1) → P (some (.int 53)) (Wd f fl g gl hh v tx)))) ∧
    ((p0 = 0) → P (some (.int 22)) (Wd f fl g gl hh v tx))) :
    WP X (d) 144 (0, [some (.int p0)], [], Wd f fl g gl hh v tx) P := by
  refine WP.run hP_144 1 (c' := (1, [some (.int p0)], [.int p0], Wd f fl g gl hh v tx)) rfl ?_
  refine WP.br hP_144 (q := ¬ p0 = 0) (t := 9) (f := 4) (L := [some (.int p0)]) (st := []) (w := Wd f fl g gl hh v tx) rfl (fun c1 => ?_) (fun c1 => ?_)
  · have h2 := h.1 c1
    refine WP.run hP_144 2 (c' := (11, [some (.int p0)], [.int 1, .int p0], Wd f fl g gl hh v tx)) rfl ?_
    refine WP.br hP_144 (q := ¬ p0 = 1) (t := 19) (f := 14) (L := [some (.int p0)]) (st := []) (w := Wd f fl g gl hh v tx) rfl (fun c3 => ?_) (fun c3 => ?_)
    · have h4 := h2.1 c3
      refine WP.run hP_144 1 (c' := (21, [none], [.int 54], Wd f fl g gl hh v tx)) rfl ?_
      exact WP.retI hP_144 rfl rfl h4
    · have h5 := h2.2 (Classical.not_not.mp c3)
      refine WP.run hP_144 2 (c' := (21, [some (.int p0)], [.int 53], Wd f fl g gl hh v tx)) rfl ?_
      exact WP.retI hP_144 rfl rfl h5
  · have h6 := h.2 (Classical.not_not.mp c1)
    refine WP.run hP_144 2 (c' := (21, [some (.int p0)], [.int 22], Wd f fl g gl hh v tx)) rfl ?_
    exact WP.retI hP_144 rfl rfl h6

set_option maxRecDepth 20000 in
theorem b_m_terms_0 (X : mm_X) (d : Nat) (f : Nat → Int32) (fl : Nat → Int64) (g : Nat → Nat → Int32) (gl : Nat → Nat → Int64) (hh : Nat → Nat → Option Nat) (v : Nat → Value) (tx : mm_W) (p0 : Int32) (p1 : Int32)  (P : Option Value → mm_W → Prop)
    (h : WP X (d) 143 (0, [some (.int p0), some (.int p1)], [], Wd f fl g gl hh v tx) (fun rv w2 => WP X (d + 1) 145 (5, [some (.ref 74), some (.int p0), some (.int p1), none], rv.toList ++ [], w2) P)) :
    WP X (d + 1) 145 (0, [some (.ref 74), some (.int p0), some (.int p1), none], [], Wd f fl g gl hh v tx) P := by
  refine WP.run hP_145 2 (c' := (2, [some (.ref 74), some (.int p0), some (.int p1), none], [.int p1, .int p0], Wd f fl g gl hh v tx)) rfl ?_
  refine WP.call hP_145 hP_143 (as := [.int p0, .int p1]) (pc' := 5) (L' := [some (.ref 74), some (.int p0), some (.int p1), none]) (st' := []) (w1 := Wd f fl g gl hh v tx) rfl ⟨Nat.le_of_ble_eq_true rfl, Nat.le_of_ble_eq_true rfl⟩ rfl ?_
  exact h

set_option maxRecDepth 20000 in
theorem b_m_terms_5 (X : mm_X) (d : Nat) (f : Nat → Int32) (fl : Nat → Int64) (g : Nat → Nat → Int32) (gl : Nat → Nat → Int64) (hh : Nat → Nat → Option Nat) (v : Nat → Value) (tx : mm_W) (l1 : Int32) (l2 : Int32) (s0 : Int32)  (P : Option Value → mm_W → Prop)
    (h : ((¬ s0 = 0) → (((¬ l1 = 0) → (((¬ l1 = 1) → (((¬ l1 = 0) → (((¬ l1 = 1) → P (some (.int ((g 76) 54))) (Wd (va_up (va_up f 4777 0) 4736 0) fl (va_up g 76 (upd (g 76) 54 l2)) gl hh v tx)) ∧
            ((l1 = 1) → P (some (.int ((g 76) 54))) (Wd (va_up (va_up f 4777 0) 4736 0) fl (va_up g 76 (upd (g 76) 53 l2)) gl hh v tx)))) ∧
          ((l1 = 0) → P (some (.int ((g 76) 54))) (Wd (va_up (va_up f 4777 0) 4736 0) fl (va_up g 76 (upd (g 76) 22 l2)) gl hh v tx)))) ∧
        ((l1 = 1) → (((¬ l1 = 0) → (((¬ l1 = 1) → P (some (.int ((g 76) 53))) (Wd (va_up (va_up f 4777 0) 4736 0) fl (va_up g 76 (upd (g 76) 54 l2)) gl hh v tx)) ∧
            ((l1 = 1) → P (some (.int ((g 76) 53))) (Wd (va_up (va_up f 4777 0) 4736 0) fl (va_up g 76 (upd (g 76) 53 l2)) gl hh v tx)))) ∧
          ((l1 = 0) → P (some (.int ((g 76) 53))) (Wd (va_up (va_up f 4777 0) 4736 0) fl (va_up g 76 (upd (g 76) 22 l2)) gl hh v tx)))))) ∧
      ((l1 = 0) → (((¬ l1 = 0) → (((¬ l1 = 1) → P (some (.int ((g 76) 22))) (Wd (va_up (va_up f 4777 0) 4736 0) fl (va_up g 76 (upd (g 76) 54 l2)) gl hh v tx)) ∧
          ((l1 = 1) → P (some (.int ((g 76) 22))) (Wd (va_up (va_up f 4777 0) 4736 0) fl (va_up g 76 (upd (g 76) 53 l2)) gl hh v tx)))) ∧
        ((l1 = 0) → P (some (.int ((g 76) 22))) (Wd (va_up (va_up f 4777 0) 4736 0) fl (va_up g 76 (upd (g 76) 22 l2)) gl hh v tx)))))) ∧
    ((s0 = 0) → P (some (.int (-1))) (Wd (va_up f 4736 (-1 : Int32)) fl (va_up g 75 (upd (g 75) (1) (((g 75) 1) + (1 : Int32)))) gl hh v tx))) :
    WP X (d + 2) 145 (5, [some (.ref 74), some (.int l1), some (.int l2), none], [.int s0], Wd f fl g gl hh v tx) P := by
  refine WP.br hP_145 (q := ¬ s0 = 0) (t := 14) (f := 8) (L := [some (.ref 74), some (.int l1), some (.int l2), none]) (st := []) (w := Wd f fl g gl hh v tx) rfl (fun c1 => ?_) (fun c1 => ?_)
  · have h2 := h.1 c1
    refine WP.run hP_145 3 (c' := (19, [some (.ref 74), some (.int l1), some (.int l2), none], [.int l1, .ref 76], Wd f fl g gl hh v tx)) rfl ?_
    refine WP.call hP_145 hP_144 (as := [.int l1]) (pc' := 22) (L' := [some (.ref 74), some (.int l1), some (.int l2), none]) (st' := [.ref 76]) (w1 := Wd f fl g gl hh v tx) rfl ⟨Nat.le_of_ble_eq_true rfl, Nat.le_of_ble_eq_true rfl⟩ rfl (b_m_termAt_0 X (d + 1) f fl g gl hh v tx l1 _ ?_)
    refine ⟨fun c3 => ?_, fun c3 => ?_⟩
    · have h4 := h2.1 c3
      refine ⟨fun c5 => ?_, fun c5 => ?_⟩
      · have h6 := h4.1 c5
        refine WP.of (fun _ _ => Ex.iald hP_145 rfl (Wa_76 _ _ _ _ _ _ _) (by decide)) ?_
        show WP X _ 145 (23, [some (.ref 74), some (.int l1), some (.int l2), none], [.int ((g 76) 54)], Wd f fl g gl hh v tx) P
        refine WP.run hP_145 4 (c' := (29, [some (.ref 74), some (.int l1), some (.int l2), some (.int ((g 76) 54))], [.int l1, .ref 76], Wd f fl g gl hh v tx)) rfl ?_
        refine WP.call hP_145 hP_144 (as := [.int l1]) (pc' := 32) (L' := [some (.ref 74), some (.int l1), some (.int l2), some (.int ((g 76) 54))]) (st' := [.ref 76]) (w1 := Wd f fl g gl hh v tx) rfl ⟨Nat.le_of_ble_eq_true rfl, Nat.le_of_ble_eq_true rfl⟩ rfl (b_m_termAt_0 X (d + 1) f fl g gl hh v tx l1 _ ?_)
        refine ⟨fun c7 => ?_, fun c7 => ?_⟩
        · have h8 := h6.1 c7
          refine ⟨fun c9 => ?_, fun c9 => ?_⟩
          · have h10 := h8.1 c9
            refine WP.run hP_145 1 (c' := (33, [some (.ref 74), some (.int l1), some (.int l2), some (.int ((g 76) 54))], [.int l2, .int 54, .ref 76], Wd f fl g gl hh v tx)) rfl ?_
            refine WP.of (fun _ _ => Ex.iast hP_145 (w2 := Wd f fl (va_up g 76 (upd (g 76) 54 l2)) gl hh v tx) rfl (Wa_76 _ _ _ _ _ _ _) (by decide) (Ws_76 _ _ _ _ _ _ _ _)) ?_
            refine WP.run hP_145 2 (c' := (36, [some (.ref 74), some (.int l1), some (.int l2), some (.int ((g 76) 54))], [.int ((g 76) 54), .ref 74], Wd f fl (va_up g 76 (upd (g 76) 54 l2)) gl hh v tx)) rfl ?_
            refine WP.call hP_145 hP_121 (as := [.ref 74, .int ((g 76) 54)]) (pc' := 39) (L' := [some (.ref 74), some (.int l1), some (.int l2), some (.int ((g 76) 54))]) (st' := []) (w1 := Wd f fl (va_up g 76 (upd (g 76) 54 l2)) gl hh v tx) rfl ⟨Nat.le_of_ble_eq_true rfl, Nat.le_of_ble_eq_true rfl⟩ rfl (b_m_settled_0 X (d) f fl (va_up g 76 (upd (g 76) 54 l2)) gl hh v tx ((g 76) 54) _ ?_)
            exact WP.retI hP_145 rfl rfl h10
          · have h11 := h8.2 c9
            refine WP.run hP_145 1 (c' := (33, [some (.ref 74), some (.int l1), some (.int l2), some (.int ((g 76) 54))], [.int l2, .int 53, .ref 76], Wd f fl g gl hh v tx)) rfl ?_
            refine WP.of (fun _ _ => Ex.iast hP_145 (w2 := Wd f fl (va_up g 76 (upd (g 76) 53 l2)) gl hh v tx) rfl (Wa_76 _ _ _ _ _ _ _) (by decide) (Ws_76 _ _ _ _ _ _ _ _)) ?_
            refine WP.run hP_145 2 (c' := (36, [some (.ref 74), some (.int l1), some (.int l2), some (.int ((g 76) 54))], [.int ((g 76) 54), .ref 74], Wd f fl (va_up g 76 (upd (g 76) 53 l2)) gl hh v tx)) rfl ?_
            refine WP.call hP_145 hP_121 (as := [.ref 74, .int ((g 76) 54)]) (pc' := 39) (L' := [some (.ref 74), some (.int l1), some (.int l2), some (.int ((g 76) 54))]) (st' := []) (w1 := Wd f fl (va_up g 76 (upd (g 76) 53 l2)) gl hh v tx) rfl ⟨Nat.le_of_ble_eq_true rfl, Nat.le_of_ble_eq_true rfl⟩ rfl (b_m_settled_0 X (d) f fl (va_up g 76 (upd (g 76) 53 l2)) gl hh v tx ((g 76) 54) _ ?_)
            exact WP.retI hP_145 rfl rfl h11
        · have h12 := h6.2 c7
          refine WP.run hP_145 1 (c' := (33, [some (.ref 74), some (.int l1), some (.int l2), some (.int ((g 76) 54))], [.int l2, .int 22, .ref 76], Wd f fl g gl hh v tx)) rfl ?_
          refine WP.of (fun _ _ => Ex.iast hP_145 (w2 := Wd f fl (va_up g 76 (upd (g 76) 22 l2)) gl hh v tx) rfl (Wa_76 _ _ _ _ _ _ _) (by decide) (Ws_76 _ _ _ _ _ _ _ _)) ?_
          refine WP.run hP_145 2 (c' := (36, [some (.ref 74), some (.int l1), some (.int l2), some (.int ((g 76) 54))], [.int ((g 76) 54), .ref 74], Wd f fl (va_up g 76 (upd (g 76) 22 l2)) gl hh v tx)) rfl ?_
          refine WP.call hP_145 hP_121 (as := [.ref 74, .int ((g 76) 54)]) (pc' := 39) (L' := [some (.ref 74), some (.int l1), some (.int l2), some (.int ((g 76) 54))]) (st' := []) (w1 := Wd f fl (va_up g 76 (upd (g 76) 22 l2)) gl hh v tx) rfl ⟨Nat.le_of_ble_eq_true rfl, Nat.le_of_ble_eq_true rfl⟩ rfl (b_m_settled_0 X (d) f fl (va_up g 76 (upd (g 76) 22 l2)) gl hh v tx ((g 76) 54) _ ?_)
          exact WP.retI hP_145 rfl rfl h12
      · have h13 := h4.2 c5
        refine WP.of (fun _ _ => Ex.iald hP_145 rfl (Wa_76 _ _ _ _ _ _ _) (by decide)) ?_
        show WP X _ 145 (23, [some (.ref 74), some (.int l1), some (.int l2), none], [.int ((g 76) 53)], Wd f fl g gl hh v tx) P
        refine WP.run hP_145 4 (c' := (29, [some (.ref 74), some (.int l1), some (.int l2), some (.int ((g 76) 53))], [.int l1, .ref 76], Wd f fl g gl hh v tx)) rfl ?_
        refine WP.call hP_145 hP_144 (as := [.int l1]) (pc' := 32) (L' := [some (.ref 74), some (.int l1), some (.int l2), some (.int ((g 76) 53))]) (st' := [.ref 76]) (w1 := Wd f fl g gl hh v tx) rfl ⟨Nat.le_of_ble_eq_true rfl, Nat.le_of_ble_eq_true rfl⟩ rfl (b_m_termAt_0 X (d + 1) f fl g gl hh v tx l1 _ ?_)
        refine ⟨fun c14 => ?_, fun c14 => ?_⟩
        · have h15 := h13.1 c14
          refine ⟨fun c16 => ?_, fun c16 => ?_⟩
          · have h17 := h15.1 c16
            refine WP.run hP_145 1 (c' := (33, [some (.ref 74), some (.int l1), some (.int l2), some (.int ((g 76) 53))], [.int l2, .int 54, .ref 76], Wd f fl g gl hh v tx)) rfl ?_
            refine WP.of (fun _ _ => Ex.iast hP_145 (w2 := Wd f fl (va_up g 76 (upd (g 76) 54 l2)) gl hh v tx) rfl (Wa_76 _ _ _ _ _ _ _) (by decide) (Ws_76 _ _ _ _ _ _ _ _)) ?_
            refine WP.run hP_145 2 (c' := (36, [some (.ref 74), some (.int l1), some (.int l2), some (.int ((g 76) 53))], [.int ((g 76) 53), .ref 74], Wd f fl (va_up g 76 (upd (g 76) 54 l2)) gl hh v tx)) rfl ?_
            refine WP.call hP_145 hP_121 (as := [.ref 74, .int ((g 76) 53)]) (pc' := 39) (L' := [some (.ref 74), some (.int l1), some (.int l2), some (.int ((g 76) 53))]) (st' := []) (w1 := Wd f fl (va_up g 76 (upd (g 76) 54 l2)) gl hh v tx) rfl ⟨Nat.le_of_ble_eq_true rfl, Nat.le_of_ble_eq_true rfl⟩ rfl (b_m_settled_0 X (d) f fl (va_up g 76 (upd (g 76) 54 l2)) gl hh v tx ((g 76) 53) _ ?_)
            exact WP.retI hP_145 rfl rfl h17
          · have h18 := h15.2 c16
            refine WP.run hP_145 1 (c' := (33, [some (.ref 74), some (.int l1), some (.int l2), some (.int ((g 76) 53))], [.int l2, .int 53, .ref 76], Wd f fl g gl hh v tx)) rfl ?_
            refine WP.of (fun _ _ => Ex.iast hP_145 (w2 := Wd f fl (va_up g 76 (upd (g 76) 53 l2)) gl hh v tx) rfl (Wa_76 _ _ _ _ _ _ _) (by decide) (Ws_76 _ _ _ _ _ _ _ _)) ?_
            refine WP.run hP_145 2 (c' := (36, [some (.ref 74), some (.int l1), some (.int l2), some (.int ((g 76) 53))], [.int ((g 76) 53), .ref 74], Wd f fl (va_up g 76 (upd (g 76) 53 l2)) gl hh v tx)) rfl ?_
            refine WP.call hP_145 hP_121 (as := [.ref 74, .int ((g 76) 53)]) (pc' := 39) (L' := [some (.ref 74), some (.int l1), some (.int l2), some (.int ((g 76) 53))]) (st' := []) (w1 := Wd f fl (va_up g 76 (upd (g 76) 53 l2)) gl hh v tx) rfl ⟨Nat.le_of_ble_eq_true rfl, Nat.le_of_ble_eq_true rfl⟩ rfl (b_m_settled_0 X (d) f fl (va_up g 76 (upd (g 76) 53 l2)) gl hh v tx ((g 76) 53) _ ?_)
            exact WP.retI hP_145 rfl rfl h18
        · have h19 := h13.2 c14
          refine WP.run hP_145 1 (c' := (33, [some (.ref 74), some (.int l1), some (.int l2), some (.int ((g 76) 53))], [.int l2, .int 22, .ref 76], Wd f fl g gl hh v tx)) rfl ?_
          refine WP.of (fun _ _ => Ex.iast hP_145 (w2 := Wd f fl (va_up g 76 (upd (g 76) 22 l2)) gl hh v tx) rfl (Wa_76 _ _ _ _ _ _ _) (by decide) (Ws_76 _ _ _ _ _ _ _ _)) ?_
          refine WP.run hP_145 2 (c' := (36, [some (.ref 74), some (.int l1), some (.int l2), some (.int ((g 76) 53))], [.int ((g 76) 53), .ref 74], Wd f fl (va_up g 76 (upd (g 76) 22 l2)) gl hh v tx)) rfl ?_
          refine WP.call hP_145 hP_121 (as := [.ref 74, .int ((g 76) 53)]) (pc' := 39) (L' := [some (.ref 74), some (.int l1), some (.int l2), some (.int ((g 76) 53))]) (st' := []) (w1 := Wd f fl (va_up g 76 (upd (g 76) 22 l2)) gl hh v tx) rfl ⟨Nat.le_of_ble_eq_true rfl, Nat.le_of_ble_eq_true rfl⟩ rfl (b_m_settled_0 X (d) f fl (va_up g 76 (upd (g 76) 22 l2)) gl hh v tx ((g 76) 53) _ ?_)
          exact WP.retI hP_145 rfl rfl h19
    · have h20 := h2.2 c3
      refine WP.of (fun _ _ => Ex.iald hP_145 rfl (Wa_76 _ _ _ _ _ _ _) (by decide)) ?_
      show WP X _ 145 (23, [some (.ref 74), some (.int l1), some (.int l2), none], [.int ((g 76) 22)], Wd f fl g gl hh v tx) P
      refine WP.run hP_145 4 (c' := (29, [some (.ref 74), some (.int l1), some (.int l2), some (.int ((g 76) 22))], [.int l1, .ref 76], Wd f fl g gl hh v tx)) rfl ?_
      refine WP.call hP_145 hP_144 (as := [.int l1]) (pc' := 32) (L' := [some (.ref 74), some (.int l1), some (.int l2), some (.int ((g 76) 22))]) (st' := [.ref 76]) (w1 := Wd f fl g gl hh v tx) rfl ⟨Nat.le_of_ble_eq_true rfl, Nat.le_of_ble_eq_true rfl⟩ rfl (b_m_termAt_0 X (d + 1) f fl g gl hh v tx l1 _ ?_)
      refine ⟨fun c21 => ?_, fun c21 => ?_⟩
      · have h22 := h20.1 c21
        refine ⟨fun c23 => ?_, fun c23 => ?_⟩
        · have h24 := h22.1 c23
          refine WP.run hP_145 1 (c' := (33, [some (.ref 74), some (.int l1), some (.int l2), some (.int ((g 76) 22))], [.int l2, .int 54, .ref 76], Wd f fl g gl hh v tx)) rfl ?_
          refine WP.of (fun _ _ => Ex.iast hP_145 (w2 := Wd f fl (va_up g 76 (upd (g 76) 54 l2)) gl hh v tx) rfl (Wa_76 _ _ _ _ _ _ _) (by decide) (Ws_76 _ _ _ _ _ _ _ _)) ?_
          refine WP.run hP_145 2 (c' := (36, [some (.ref 74), some (.int l1), some (.int l2), some (.int ((g 76) 22))], [.int ((g 76) 22), .ref 74], Wd f fl (va_up g 76 (upd (g 76) 54 l2)) gl hh v tx)) rfl ?_
          refine WP.call hP_145 hP_121 (as := [.ref 74, .int ((g 76) 22)]) (pc' := 39) (L' := [some (.ref 74), some (.int l1), some (.int l2), some (.int ((g 76) 22))]) (st' := []) (w1 := Wd f fl (va_up g 76 (upd (g 76) 54 l2)) gl hh v tx) rfl ⟨Nat.le_of_ble_eq_true rfl, Nat.le_of_ble_eq_true rfl⟩ rfl (b_m_settled_0 X (d) f fl (va_up g 76 (upd (g 76) 54 l2)) gl hh v tx ((g 76) 22) _ ?_)
          exact WP.retI hP_145 rfl rfl h24
        · have h25 := h22.2 c23
          refine WP.run hP_145 1 (c' := (33, [some (.ref 74), some (.int l1), some (.int l2), some (.int ((g 76) 22))], [.int l2, .int 53, .ref 76], Wd f fl g gl hh v tx)) rfl ?_
          refine WP.of (fun _ _ => Ex.iast hP_145 (w2 := Wd f fl (va_up g 76 (upd (g 76) 53 l2)) gl hh v tx) rfl (Wa_76 _ _ _ _ _ _ _) (by decide) (Ws_76 _ _ _ _ _ _ _ _)) ?_
          refine WP.run hP_145 2 (c' := (36, [some (.ref 74), some (.int l1), some (.int l2), some (.int ((g 76) 22))], [.int ((g 76) 22), .ref 74], Wd f fl (va_up g 76 (upd (g 76) 53 l2)) gl hh v tx)) rfl ?_
          refine WP.call hP_145 hP_121 (as := [.ref 74, .int ((g 76) 22)]) (pc' := 39) (L' := [some (.ref 74), some (.int l1), some (.int l2), some (.int ((g 76) 22))]) (st' := []) (w1 := Wd f fl (va_up g 76 (upd (g 76) 53 l2)) gl hh v tx) rfl ⟨Nat.le_of_ble_eq_true rfl, Nat.le_of_ble_eq_true rfl⟩ rfl (b_m_settled_0 X (d) f fl (va_up g 76 (upd (g 76) 53 l2)) gl hh v tx ((g 76) 22) _ ?_)
          exact WP.retI hP_145 rfl rfl h25
      · have h26 := h20.2 c21
        refine WP.run hP_145 1 (c' := (33, [some (.ref 74), some (.int l1), some (.int l2), some (.int ((g 76) 22))], [.int l2, .int 22, .ref 76], Wd f fl g gl hh v tx)) rfl ?_
        refine WP.of (fun _ _ => Ex.iast hP_145 (w2 := Wd f fl (va_up g 76 (upd (g 76) 22 l2)) gl hh v tx) rfl (Wa_76 _ _ _ _ _ _ _) (by decide) (Ws_76 _ _ _ _ _ _ _ _)) ?_
        refine WP.run hP_145 2 (c' := (36, [some (.ref 74), some (.int l1), some (.int l2), some (.int ((g 76) 22))], [.int ((g 76) 22), .ref 74], Wd f fl (va_up g 76 (upd (g 76) 22 l2)) gl hh v tx)) rfl ?_
        refine WP.call hP_145 hP_121 (as := [.ref 74, .int ((g 76) 22)]) (pc' := 39) (L' := [some (.ref 74), some (.int l1), some (.int l2), some (.int ((g 76) 22))]) (st' := []) (w1 := Wd f fl (va_up g 76 (upd (g 76) 22 l2)) gl hh v tx) rfl ⟨Nat.le_of_ble_eq_true rfl, Nat.le_of_ble_eq_true rfl⟩ rfl (b_m_settled_0 X (d) f fl (va_up g 76 (upd (g 76) 22 l2)) gl hh v tx ((g 76) 22) _ ?_)
        exact WP.retI hP_145 rfl rfl h26
  · have h27 := h.2 (Classical.not_not.mp c1)
    refine WP.run hP_145 2 (c' := (10, [some (.ref 74), some (.int l1), some (.int l2), none], [.int (-1), .ref 74], Wd f fl g gl hh v tx)) rfl ?_
    refine WP.call hP_145 hP_119 (as := [.ref 74, .int (-1)]) (pc' := 13) (L' := [some (.ref 74), some (.int l1), some (.int l2), none]) (st' := []) (w1 := Wd f fl g gl hh v tx) rfl ⟨Nat.le_of_ble_eq_true rfl, Nat.le_of_ble_eq_true rfl⟩ rfl (b_m_refuses_0 X (d + 1) f fl g gl hh v tx (-1) _ ?_)
    refine ⟨by decide, ?_⟩
    refine ⟨by decide, ?_⟩
    exact WP.retI hP_145 rfl rfl h27

set_option maxRecDepth 20000 in
theorem b_m_isLaw_0 (X : mm_X) (d : Nat) (f : Nat → Int32) (fl : Nat → Int64) (g : Nat → Nat → Int32) (gl : Nat → Nat → Int64) (hh : Nat → Nat → Option Nat) (v : Nat → Value) (tx : mm_W) (p0 : Int32)  (P : Option Value → mm_W → Prop)
    (h : (((-1 : Int32) ≤ p0 ∧ p0 ≤ (((g 76) 58) - (1 : Int32))) → P (some (.int 1)) (Wd f fl g gl hh v tx)) ∧
    ((¬ ((-1 : Int32) ≤ p0 ∧ p0 ≤ (((g 76) 58) - (1 : Int32)))) → P (some (.int 0)) (Wd f fl g gl hh v tx))) :
    WP X (d + 1) 176 (0, [some (.ref 74), some (.int p0)], [], Wd f fl g gl hh v tx) P := by
  refine WP.run hP_176 5 (c' := (8, [some (.ref 74), some (.int p0)], [.int 58, .ref 76, .int (-1), .int p0], Wd f fl g gl hh v tx)) rfl ?_
  refine WP.of (fun _ _ => Ex.iald hP_176 rfl (Wa_76 _ _ _ _ _ _ _) (by decide)) ?_
  show WP X _ 176 (9, [some (.ref 74), some (.int p0)], [.int ((g 76) 58), .int (-1), .int p0], Wd f fl g gl hh v tx) P
  refine WP.run hP_176 2 (c' := (11, [some (.ref 74), some (.int p0)], [.int (((g 76) 58) - (1 : Int32)), .int (-1), .int p0], Wd f fl g gl hh v tx)) rfl ?_
  refine WP.call hP_176 hP_116 (as := [.int p0, .int (-1), .int (((g 76) 58) - (1 : Int32))]) (pc' := 14) (L' := [some (.ref 74), some (.int p0)]) (st' := []) (w1 := Wd f fl g gl hh v tx) rfl ⟨Nat.le_of_ble_eq_true rfl, Nat.le_of_ble_eq_true rfl⟩ rfl (b_lies_m X (d) f fl g gl hh v tx p0 (-1) (((g 76) 58) - (1 : Int32)) _ ?_)
  refine ⟨fun c1 => ?_, fun c1 => ?_⟩
  · have h2 := h.1 c1
    exact WP.ret hP_176 (r := some (.int 1)) (w' := Wd f fl g gl hh v tx) rfl h2
  · have h3 := h.2 c1
    exact WP.ret hP_176 (r := some (.int 0)) (w' := Wd f fl g gl hh v tx) rfl h3

set_option maxRecDepth 20000 in
theorem b_m_force_0 (X : mm_X) (d : Nat) (f : Nat → Int32) (fl : Nat → Int64) (g : Nat → Nat → Int32) (gl : Nat → Nat → Int64) (hh : Nat → Nat → Option Nat) (v : Nat → Value) (tx : mm_W) (p0 : Int32)  (P : Option Value → mm_W → Prop)
    (h : (((-1 : Int32) ≤ p0 ∧ p0 ≤ (((g 76) 58) - (1 : Int32))) → P (some (.int ((g 76) 59))) (Wd (va_up f 4736 0) fl (va_up g 76 (upd (g 76) 59 p0)) gl hh v tx)) ∧
    ((¬ ((-1 : Int32) ≤ p0 ∧ p0 ≤ (((g 76) 58) - (1 : Int32)))) → P (some (.int (-2))) (Wd (va_up f 4736 (-2 : Int32)) fl (va_up g 75 (upd (g 75) (2) (((g 75) 2) + (1 : Int32)))) gl hh v tx))) :
    WP X (d + 2) 177 (0, [some (.ref 74), some (.int p0), none], [], Wd f fl g gl hh v tx) P := by
  refine WP.run hP_177 2 (c' := (2, [some (.ref 74), some (.int p0), none], [.int p0, .ref 74], Wd f fl g gl hh v tx)) rfl ?_
  refine WP.call hP_177 hP_176 (as := [.ref 74, .int p0]) (pc' := 5) (L' := [some (.ref 74), some (.int p0), none]) (st' := []) (w1 := Wd f fl g gl hh v tx) rfl ⟨Nat.le_of_ble_eq_true rfl, Nat.le_of_ble_eq_true rfl⟩ rfl (b_m_isLaw_0 X (d) f fl g gl hh v tx p0 _ ?_)
  refine ⟨fun c1 => ?_, fun c1 => ?_⟩
  · have h2 := h.1 c1
    refine WP.run hP_177 4 (c' := (21, [some (.ref 74), some (.int p0), none], [.int 59, .ref 76], Wd f fl g gl hh v tx)) rfl ?_
    refine WP.of (fun _ _ => Ex.iald hP_177 rfl (Wa_76 _ _ _ _ _ _ _) (by decide)) ?_
    show WP X _ 177 (22, [some (.ref 74), some (.int p0), none], [.int ((g 76) 59)], Wd f fl g gl hh v tx) P
    refine WP.run hP_177 5 (c' := (30, [some (.ref 74), some (.int p0), some (.int ((g 76) 59))], [.int p0, .int 59, .ref 76], Wd f fl g gl hh v tx)) rfl ?_
    refine WP.of (fun _ _ => Ex.iast hP_177 (w2 := Wd f fl (va_up g 76 (upd (g 76) 59 p0)) gl hh v tx) rfl (Wa_76 _ _ _ _ _ _ _) (by decide) (Ws_76 _ _ _ _ _ _ _ _)) ?_
    refine WP.run hP_177 2 (c' := (33, [some (.ref 74), some (.int p0), some (.int ((g 76) 59))], [.int ((g 76) 59), .ref 74], Wd f fl (va_up g 76 (upd (g 76) 59 p0)) gl hh v tx)) rfl ?_
    refine WP.call hP_177 hP_120 (as := [.ref 74, .int ((g 76) 59)]) (pc' := 36) (L' := [some (.ref 74), some (.int p0), some (.int ((g 76) 59))]) (st' := []) (w1 := Wd f fl (va_up g 76 (upd (g 76) 59 p0)) gl hh v tx) rfl ⟨Nat.le_of_ble_eq_true rfl, Nat.le_of_ble_eq_true rfl⟩ rfl (b_m_good_0 X (d + 1) f fl (va_up g 76 (upd (g 76) 59 p0)) gl hh v tx ((g 76) 59) _ ?_)
    exact WP.retI hP_177 rfl rfl h2
  · have h3 := h.2 c1
    refine WP.run hP_177 3 (c' := (11, [some (.ref 74), some (.int p0), none], [.int (-2), .ref 74], Wd f fl g gl hh v tx)) rfl ?_
    refine WP.call hP_177 hP_119 (as := [.ref 74, .int (-2)]) (pc' := 14) (L' := [some (.ref 74), some (.int p0), none]) (st' := []) (w1 := Wd f fl g gl hh v tx) rfl ⟨Nat.le_of_ble_eq_true rfl, Nat.le_of_ble_eq_true rfl⟩ rfl (b_m_refuses_0 X (d + 1) f fl g gl hh v tx (-2) _ ?_)
    refine ⟨by decide, ?_⟩
    refine ⟨by decide, ?_⟩
    exact WP.retI hP_177 rfl rfl h3

set_option maxRecDepth 20000 in
theorem b_m_seen_0 (X : mm_X) (d : Nat) (f : Nat → Int32) (fl : Nat → Int64) (g : Nat → Nat → Int32) (gl : Nat → Nat → Int64) (hh : Nat → Nat → Option Nat) (v : Nat → Value) (tx : mm_W) (p0 : Int32)  (P : Option Value → mm_W → Prop)
    (h : (((0 : Int32) ≤ p0 ∧ p0 ≤ (5 : Int32)) → (((¬ ((g 76) 57) = 6) → ((¬ (((47 : Int32) + ((g 76) 57)) < 0 ∨ 5667 ≤ ((47 : Int32) + ((g 76) 57)).toNatClampNeg)) ∧ P (some (.int (((g 76) 57) + (1 : Int32)))) (Wd (va_up f 4736 0) fl (va_up (va_up g 76 (upd (g 76) (((47 : Int32) + ((g 76) 57)).toNatClampNeg) p0)) 76 (upd (upd (g 76) (((47 : Int32) + ((g 76) 57)).toNatClampNeg) p0) 57 (((upd (g 76) (((47 : Int32) + ((g 76) 57)).toNatClampNeg) p0) 57) + (1 : Int32)))) gl hh v tx))) ∧
      ((((g 76) 57) = 6) → P (some (.int (-5))) (Wd (va_up f 4736 (-5 : Int32)) fl (va_up g 75 (upd (g 75) (5) (((g 75) 5) + (1 : Int32)))) gl hh v tx)))) ∧
    ((¬ ((0 : Int32) ≤ p0 ∧ p0 ≤ (5 : Int32))) → P (some (.int (-1))) (Wd (va_up f 4736 (-1 : Int32)) fl (va_up g 75 (upd (g 75) (1) (((g 75) 1) + (1 : Int32)))) gl hh v tx))) :
    WP X (d + 1) 228 (0, [some (.ref 74), some (.int p0), none], [], Wd f fl g gl hh v tx) P := by
  refine WP.run hP_228 3 (c' := (3, [some (.ref 74), some (.int p0), none], [.int 5, .int 0, .int p0], Wd f fl g gl hh v tx)) rfl ?_
  refine WP.call hP_228 hP_116 (as := [.int p0, .int 0, .int 5]) (pc' := 6) (L' := [some (.ref 74), some (.int p0), none]) (st' := []) (w1 := Wd f fl g gl hh v tx) rfl ⟨Nat.le_of_ble_eq_true rfl, Nat.le_of_ble_eq_true rfl⟩ rfl (b_lies_m X (d) f fl g gl hh v tx p0 0 5 _ ?_)
  refine ⟨fun c1 => ?_, fun c1 => ?_⟩
  · have h2 := h.1 c1
    refine WP.run hP_228 4 (c' := (21, [some (.ref 74), some (.int p0), none], [.int 57, .ref 76], Wd f fl g gl hh v tx)) rfl ?_
    refine WP.of (fun _ _ => Ex.iald hP_228 rfl (Wa_76 _ _ _ _ _ _ _) (by decide)) ?_
    show WP X _ 228 (22, [some (.ref 74), some (.int p0), none], [.int ((g 76) 57)], Wd f fl g gl hh v tx) P
    refine WP.run hP_228 3 (c' := (26, [some (.ref 74), some (.int p0), some (.int ((g 76) 57))], [.int 6, .int ((g 76) 57)], Wd f fl g gl hh v tx)) rfl ?_
    refine WP.br hP_228 (q := ¬ ((g 76) 57) = 6) (t := 36) (f := 29) (L := [some (.ref 74), some (.int p0), some (.int ((g 76) 57))]) (st := []) (w := Wd f fl g gl hh v tx) rfl (fun c3 => ?_) (fun c3 => ?_)
    · have h4 := h2.1 c3
      refine WP.run hP_228 6 (c' := (45, [some (.ref 74), some (.int p0), some (.int ((g 76) 57))], [.int p0, .int ((47 : Int32) + ((g 76) 57)), .ref 76], Wd f fl g gl hh v tx)) rfl ?_
      refine WP.of (fun _ _ => Ex.iast hP_228 (w2 := Wd f fl (va_up g 76 (upd (g 76) (((47 : Int32) + ((g 76) 57)).toNatClampNeg) p0)) gl hh v tx) rfl (Wa_76 _ _ _ _ _ _ _) h4.1 (Ws_76 _ _ _ _ _ _ _ _)) ?_
      have h5 := h4.2
      refine WP.run hP_228 4 (c' := (53, [some (.ref 74), some (.int p0), some (.int ((g 76) 57))], [.int 57, .ref 76, .int 57, .ref 76], Wd f fl (va_up g 76 (upd (g 76) (((47 : Int32) + ((g 76) 57)).toNatClampNeg) p0)) gl hh v tx)) rfl ?_
      refine WP.of (fun _ _ => Ex.iald hP_228 rfl (Wa_76 _ _ _ _ _ _ _) (by decide)) ?_
      show WP X _ 228 (54, [some (.ref 74), some (.int p0), some (.int ((g 76) 57))], [.int ((upd (g 76) (((47 : Int32) + ((g 76) 57)).toNatClampNeg) p0) 57), .int 57, .ref 76], Wd f fl (va_up g 76 (upd (g 76) (((47 : Int32) + ((g 76) 57)).toNatClampNeg) p0)) gl hh v tx) P
      refine WP.run hP_228 2 (c' := (56, [some (.ref 74), some (.int p0), some (.int ((g 76) 57))], [.int (((upd (g 76) (((47 : Int32) + ((g 76) 57)).toNatClampNeg) p0) 57) + (1 : Int32)), .int 57, .ref 76], Wd f fl (va_up g 76 (upd (g 76) (((47 : Int32) + ((g 76) 57)).toNatClampNeg) p0)) gl hh v tx)) rfl ?_
      refine WP.of (fun _ _ => Ex.iast hP_228 (w2 := Wd f fl (va_up (va_up g 76 (upd (g 76) (((47 : Int32) + ((g 76) 57)).toNatClampNeg) p0)) 76 (upd (upd (g 76) (((47 : Int32) + ((g 76) 57)).toNatClampNeg) p0) 57 (((upd (g 76) (((47 : Int32) + ((g 76) 57)).toNatClampNeg) p0) 57) + (1 : Int32)))) gl hh v tx) rfl (Wa_76 _ _ _ _ _ _ _) (by decide) (Ws_76 _ _ _ _ _ _ _ _)) ?_
      refine WP.run hP_228 4 (c' := (61, [some (.ref 74), some (.int p0), some (.int ((g 76) 57))], [.int (((g 76) 57) + (1 : Int32)), .ref 74], Wd f fl (va_up (va_up g 76 (upd (g 76) (((47 : Int32) + ((g 76) 57)).toNatClampNeg) p0)) 76 (upd (upd (g 76) (((47 : Int32) + ((g 76) 57)).toNatClampNeg) p0) 57 (((upd (g 76) (((47 : Int32) + ((g 76) 57)).toNatClampNeg) p0) 57) + (1 : Int32)))) gl hh v tx)) rfl ?_
      refine WP.call hP_228 hP_120 (as := [.ref 74, .int (((g 76) 57) + (1 : Int32))]) (pc' := 64) (L' := [some (.ref 74), some (.int p0), some (.int ((g 76) 57))]) (st' := []) (w1 := Wd f fl (va_up (va_up g 76 (upd (g 76) (((47 : Int32) + ((g 76) 57)).toNatClampNeg) p0)) 76 (upd (upd (g 76) (((47 : Int32) + ((g 76) 57)).toNatClampNeg) p0) 57 (((upd (g 76) (((47 : Int32) + ((g 76) 57)).toNatClampNeg) p0) 57) + (1 : Int32)))) gl hh v tx) rfl ⟨Nat.le_of_ble_eq_true rfl, Nat.le_of_ble_eq_true rfl⟩ rfl (b_m_good_0 X (d) f fl (va_up (va_up g 76 (upd (g 76) (((47 : Int32) + ((g 76) 57)).toNatClampNeg) p0)) 76 (upd (upd (g 76) (((47 : Int32) + ((g 76) 57)).toNatClampNeg) p0) 57 (((upd (g 76) (((47 : Int32) + ((g 76) 57)).toNatClampNeg) p0) 57) + (1 : Int32)))) gl hh v tx (((g 76) 57) + (1 : Int32)) _ ?_)
      exact WP.retI hP_228 rfl rfl h5
    · have h6 := h2.2 (Classical.not_not.mp c3)
      refine WP.run hP_228 2 (c' := (32, [some (.ref 74), some (.int p0), some (.int ((g 76) 57))], [.int (-5), .ref 74], Wd f fl g gl hh v tx)) rfl ?_
      refine WP.call hP_228 hP_119 (as := [.ref 74, .int (-5)]) (pc' := 35) (L' := [some (.ref 74), some (.int p0), some (.int ((g 76) 57))]) (st' := []) (w1 := Wd f fl g gl hh v tx) rfl ⟨Nat.le_of_ble_eq_true rfl, Nat.le_of_ble_eq_true rfl⟩ rfl (b_m_refuses_0 X (d) f fl g gl hh v tx (-5) _ ?_)
      refine ⟨by decide, ?_⟩
      refine ⟨by decide, ?_⟩
      exact WP.retI hP_228 rfl rfl h6
  · have h7 := h.2 c1
    refine WP.run hP_228 3 (c' := (11, [some (.ref 74), some (.int p0), none], [.int (-1), .ref 74], Wd f fl g gl hh v tx)) rfl ?_
    refine WP.call hP_228 hP_119 (as := [.ref 74, .int (-1)]) (pc' := 14) (L' := [some (.ref 74), some (.int p0), none]) (st' := []) (w1 := Wd f fl g gl hh v tx) rfl ⟨Nat.le_of_ble_eq_true rfl, Nat.le_of_ble_eq_true rfl⟩ rfl (b_m_refuses_0 X (d) f fl g gl hh v tx (-1) _ ?_)
    refine ⟨by decide, ?_⟩
    refine ⟨by decide, ?_⟩
    exact WP.retI hP_228 rfl rfl h7

set_option maxRecDepth 20000 in
theorem b_m_forget_0 (X : mm_X) (d : Nat) (f : Nat → Int32) (fl : Nat → Int64) (g : Nat → Nat → Int32) (gl : Nat → Nat → Int64) (hh : Nat → Nat → Option Nat) (v : Nat → Value) (tx : mm_W)   (P : Option Value → mm_W → Prop)
    (h : P (some (.int ((g 76) 57))) (Wd f fl (va_up g 76 (upd (g 76) 57 0)) gl hh v tx)) :
    WP X (d) 229 (0, [some (.ref 74), none], [], Wd f fl g gl hh v tx) P := by
  refine WP.run hP_229 3 (c' := (6, [some (.ref 74), none], [.int 57, .ref 76], Wd f fl g gl hh v tx)) rfl ?_
  refine WP.of (fun _ _ => Ex.iald hP_229 rfl (Wa_76 _ _ _ _ _ _ _) (by decide)) ?_
  show WP X _ 229 (7, [some (.ref 74), none], [.int ((g 76) 57)], Wd f fl g gl hh v tx) P
  refine WP.run hP_229 5 (c' := (15, [some (.ref 74), some (.int ((g 76) 57))], [.int 0, .int 57, .ref 76], Wd f fl g gl hh v tx)) rfl ?_
  refine WP.of (fun _ _ => Ex.iast hP_229 (w2 := Wd f fl (va_up g 76 (upd (g 76) 57 0)) gl hh v tx) rfl (Wa_76 _ _ _ _ _ _ _) (by decide) (Ws_76 _ _ _ _ _ _ _ _)) ?_
  refine WP.run hP_229 1 (c' := (17, [some (.ref 74), some (.int ((g 76) 57))], [.int ((g 76) 57)], Wd f fl (va_up g 76 (upd (g 76) 57 0)) gl hh v tx)) rfl ?_
  exact WP.retI hP_229 rfl rfl h

set_option maxRecDepth 20000 in
theorem b_m_drawn_0 (X : mm_X) (d : Nat) (f : Nat → Int32) (fl : Nat → Int64) (g : Nat → Nat → Int32) (gl : Nat → Nat → Int64) (hh : Nat → Nat → Option Nat) (v : Nat → Value) (tx : mm_W) (p0 : Int32) (p1 : Int32)  (P : Option Value → mm_W → Prop)
    (h : (((0 : Int32) ≤ p0 ∧ p0 ≤ ((f 4786) - (1 : Int32))) → ((((0 : Int32) ≤ p1 ∧ p1 ≤ (2 : Int32)) → (((¬ p1 = 0) → (((¬ p1 = 1) → ((¬ (((19 : Int32) + p0) < 0 ∨ 23 ≤ ((19 : Int32) + p0).toNatClampNeg)) ∧ P (some (.int ((g 99) ((19 : Int32) + p0).toNatClampNeg))) (Wd f fl g gl hh v tx))) ∧
          ((p1 = 1) → ((¬ (((16 : Int32) + p0) < 0 ∨ 23 ≤ ((16 : Int32) + p0).toNatClampNeg)) ∧ P (some (.int ((g 99) ((16 : Int32) + p0).toNatClampNeg))) (Wd f fl g gl hh v tx))))) ∧
        ((p1 = 0) → ((¬ (((13 : Int32) + p0) < 0 ∨ 23 ≤ ((13 : Int32) + p0).toNatClampNeg)) ∧ P (some (.int ((g 99) ((13 : Int32) + p0).toNatClampNeg))) (Wd f fl g gl hh v tx))))) ∧
      ((¬ ((0 : Int32) ≤ p1 ∧ p1 ≤ (2 : Int32))) → P (some (.int (-1))) (Wd f fl g gl hh v tx)))) ∧
    ((¬ ((0 : Int32) ≤ p0 ∧ p0 ≤ ((f 4786) - (1 : Int32)))) → P (some (.int (-1))) (Wd f fl g gl hh v tx))) :
    WP X (d + 1) 253 (0, [some (.ref 74), some (.int p0), some (.int p1)], [], Wd f fl g gl hh v tx) P := by
  refine WP.run hP_253 6 (c' := (8, [some (.ref 74), some (.int p0), some (.int p1)], [.int ((f 4786) - (1 : Int32)), .int 0, .int p0], Wd f fl g gl hh v tx)) rfl ?_
  refine WP.call hP_253 hP_116 (as := [.int p0, .int 0, .int ((f 4786) - (1 : Int32))]) (pc' := 11) (L' := [some (.ref 74), some (.int p0), some (.int p1)]) (st' := []) (w1 := Wd f fl g gl hh v tx) rfl ⟨Nat.le_of_ble_eq_true rfl, Nat.le_of_ble_eq_true rfl⟩ rfl (b_lies_m X (d) f fl g gl hh v tx p0 0 ((f 4786) - (1 : Int32)) _ ?_)
  refine ⟨fun c1 => ?_, fun c1 => ?_⟩
  · have h2 := h.1 c1
    refine WP.run hP_253 4 (c' := (17, [some (.ref 74), some (.int p0), some (.int p1)], [.int 2, .int 0, .int p1], Wd f fl g gl hh v tx)) rfl ?_
    refine WP.call hP_253 hP_116 (as := [.int p1, .int 0, .int 2]) (pc' := 20) (L' := [some (.ref 74), some (.int p0), some (.int p1)]) (st' := []) (w1 := Wd f fl g gl hh v tx) rfl ⟨Nat.le_of_ble_eq_true rfl, Nat.le_of_ble_eq_true rfl⟩ rfl (b_lies_m X (d) f fl g gl hh v tx p1 0 2 _ ?_)
    refine ⟨fun c3 => ?_, fun c3 => ?_⟩
    · have h4 := h2.1 c3
      refine WP.run hP_253 4 (c' := (30, [some (.ref 74), some (.int p0), some (.int p1)], [.int p1, .ref 99], Wd f fl g gl hh v tx)) rfl ?_
      refine WP.br hP_253 (q := ¬ p1 = 0) (t := 38) (f := 33) (L := [some (.ref 74), some (.int p0), some (.int p1)]) (st := [.ref 99]) (w := Wd f fl g gl hh v tx) rfl (fun c5 => ?_) (fun c5 => ?_)
      · have h6 := h4.1 c5
        refine WP.run hP_253 2 (c' := (40, [none, some (.int p0), some (.int p1)], [.int 1, .int p1, .ref 99], Wd f fl g gl hh v tx)) rfl ?_
        refine WP.br hP_253 (q := ¬ p1 = 1) (t := 48) (f := 43) (L := [none, some (.int p0), some (.int p1)]) (st := [.ref 99]) (w := Wd f fl g gl hh v tx) rfl (fun c7 => ?_) (fun c7 => ?_)
        · have h8 := h6.1 c7
          refine WP.run hP_253 1 (c' := (50, [none, some (.int p0), none], [.int 19, .ref 99], Wd f fl g gl hh v tx)) rfl ?_
          refine WP.run hP_253 2 (c' := (52, [none, some (.int p0), none], [.int ((19 : Int32) + p0), .ref 99], Wd f fl g gl hh v tx)) rfl ?_
          refine WP.of (fun _ _ => Ex.iald hP_253 rfl (Wa_99 _ _ _ _ _ _ _) h8.1) ?_
          have h9 := h8.2
          exact WP.retI hP_253 rfl rfl h9
        · have h10 := h6.2 (Classical.not_not.mp c7)
          refine WP.run hP_253 4 (c' := (52, [none, some (.int p0), none], [.int ((16 : Int32) + p0), .ref 99], Wd f fl g gl hh v tx)) rfl ?_
          refine WP.of (fun _ _ => Ex.iald hP_253 rfl (Wa_99 _ _ _ _ _ _ _) h10.1) ?_
          have h11 := h10.2
          exact WP.retI hP_253 rfl rfl h11
      · have h12 := h4.2 (Classical.not_not.mp c5)
        refine WP.run hP_253 4 (c' := (52, [none, some (.int p0), none], [.int ((13 : Int32) + p0), .ref 99], Wd f fl g gl hh v tx)) rfl ?_
        refine WP.of (fun _ _ => Ex.iald hP_253 rfl (Wa_99 _ _ _ _ _ _ _) h12.1) ?_
        have h13 := h12.2
        exact WP.retI hP_253 rfl rfl h13
    · have h14 := h2.2 c3
      refine WP.run hP_253 2 (c' := (24, [none, none, none], [.int (-1)], Wd f fl g gl hh v tx)) rfl ?_
      exact WP.retI hP_253 rfl rfl h14
  · have h15 := h.2 c1
    refine WP.run hP_253 2 (c' := (24, [none, none, none], [.int (-1)], Wd f fl g gl hh v tx)) rfl ?_
    exact WP.retI hP_253 rfl rfl h15

set_option maxRecDepth 20000 in
theorem b_m_count_0 (X : mm_X) (d : Nat) (f : Nat → Int32) (fl : Nat → Int64) (g : Nat → Nat → Int32) (gl : Nat → Nat → Int64) (hh : Nat → Nat → Option Nat) (v : Nat → Value) (tx : mm_W) (p0 : Int32)  (P : Option Value → mm_W → Prop)
    (h : ((p0 = 0) → P (some (.int ((g 76) 55))) (Wd f fl g gl hh v tx)) ∧
    ((¬ p0 = 0) → (((p0 = 1) → P (some (.int ((g 76) 56))) (Wd f fl g gl hh v tx)) ∧
      ((¬ p0 = 1) → (((p0 = 2) → P (some (.int ((g 76) 12))) (Wd f fl g gl hh v tx)) ∧
        ((¬ p0 = 2) → (((p0 = 3) → P (some (.int ((g 76) 57))) (Wd f fl g gl hh v tx)) ∧
          ((¬ p0 = 3) → (((p0 = 4) → P (some (.int ((g 76) 58))) (Wd f fl g gl hh v tx)) ∧
            ((¬ p0 = 4) → (((p0 = 5) → P (some (.int (f 4777))) (Wd f fl g gl hh v tx)) ∧
              ((¬ p0 = 5) → (((p0 = 6) → P (some (.int (f 4749))) (Wd f fl g gl hh v tx)) ∧
                ((¬ p0 = 6) → (((p0 = 7) → ((¬ ((p0 - (6 : Int32)) < 0 ∨ 7 ≤ (p0 - (6 : Int32)).toNatClampNeg)) ∧ P (some (.int ((g 75) (p0 - (6 : Int32)).toNatClampNeg))) (Wd f fl g gl hh v tx))) ∧
                  ((¬ p0 = 7) → (((p0 = 8) → ((¬ ((p0 - (6 : Int32)) < 0 ∨ 7 ≤ (p0 - (6 : Int32)).toNatClampNeg)) ∧ P (some (.int ((g 75) (p0 - (6 : Int32)).toNatClampNeg))) (Wd f fl g gl hh v tx))) ∧
                    ((¬ p0 = 8) → (((p0 = 9) → ((¬ ((p0 - (6 : Int32)) < 0 ∨ 7 ≤ (p0 - (6 : Int32)).toNatClampNeg)) ∧ P (some (.int ((g 75) (p0 - (6 : Int32)).toNatClampNeg))) (Wd f fl g gl hh v tx))) ∧
                      ((¬ p0 = 9) → (((p0 = 10) → P (some (.int ((g 75) 5))) (Wd f fl g gl hh v tx)) ∧
                        ((¬ p0 = 10) → (((p0 = 11) → P (some (.int ((g 75) 6))) (Wd f fl g gl hh v tx)) ∧
                          ((¬ p0 = 11) → (((p0 = 12) → P (some (.int ((g 76) 59))) (Wd f fl g gl hh v tx)) ∧
                            ((¬ p0 = 12) → (((p0 = 13) → (((¬ (p0 - (13 : Int32)) = 0) → (((¬ (p0 - (13 : Int32)) = 1) → P (some (.int ((g 76) 54))) (Wd f fl g gl hh v tx)) ∧
                                  (((p0 - (13 : Int32)) = 1) → P (some (.int ((g 76) 53))) (Wd f fl g gl hh v tx)))) ∧
                                (((p0 - (13 : Int32)) = 0) → P (some (.int ((g 76) 22))) (Wd f fl g gl hh v tx)))) ∧
                              ((¬ p0 = 13) → (((p0 = 14) → (((¬ (p0 - (13 : Int32)) = 0) → (((¬ (p0 - (13 : Int32)) = 1) → P (some (.int ((g 76) 54))) (Wd f fl g gl hh v tx)) ∧
                                    (((p0 - (13 : Int32)) = 1) → P (some (.int ((g 76) 53))) (Wd f fl g gl hh v tx)))) ∧
                                  (((p0 - (13 : Int32)) = 0) → P (some (.int ((g 76) 22))) (Wd f fl g gl hh v tx)))) ∧
                                ((¬ p0 = 14) → (((p0 = 15) → (((¬ (p0 - (13 : Int32)) = 0) → (((¬ (p0 - (13 : Int32)) = 1) → P (some (.int ((g 76) 54))) (Wd f fl g gl hh v tx)) ∧
                                      (((p0 - (13 : Int32)) = 1) → P (some (.int ((g 76) 53))) (Wd f fl g gl hh v tx)))) ∧
                                    (((p0 - (13 : Int32)) = 0) → P (some (.int ((g 76) 22))) (Wd f fl g gl hh v tx)))) ∧
                                  ((¬ p0 = 15) → P (some (.int (-1))) (Wd f fl g gl hh v tx))))))))))))))))))))))))))))))))) :
    WP X (d + 1) 254 (0, [some (.ref 74), some (.int p0)], [], Wd f fl g gl hh v tx) P := by
  refine WP.run hP_254 1 (c' := (1, [some (.ref 74), some (.int p0)], [.int p0], Wd f fl g gl hh v tx)) rfl ?_
  refine WP.run hP_254 1 (c' := (mm_sw p0 0 [80, 85, 93, 98, 106, 114, 119, 124, 124, 124, 134, 141, 149, 157, 157, 157] 170, [some (.ref 74), some (.int p0)], [], Wd f fl g gl hh v tx)) rfl ?_
  refine WP.sw (lo' := 1) rfl (fun c1 => ?_) (fun c1 => ?_)
  · have h2 := h.1 c1
    refine WP.run hP_254 1 (c' := (81, [some (.ref 74), none], [.ref 74], Wd f fl g gl hh v tx)) rfl ?_
    refine WP.call hP_254 hP_129 (as := [.ref 74]) (pc' := 84) (L' := [some (.ref 74), none]) (st' := []) (w1 := Wd f fl g gl hh v tx) rfl ⟨Nat.le_of_ble_eq_true rfl, Nat.le_of_ble_eq_true rfl⟩ rfl (b_m_signMany_0 X (d) f fl g gl hh v tx  _ ?_)
    exact WP.retI hP_254 rfl rfl h2
  · have h3 := h.2 c1
    refine WP.sw (lo' := 2) rfl (fun c4 => ?_) (fun c4 => ?_)
    · have h5 := h3.1 c4
      refine WP.run hP_254 3 (c' := (91, [some (.ref 74), none], [.int 56, .ref 76], Wd f fl g gl hh v tx)) rfl ?_
      refine WP.of (fun _ _ => Ex.iald hP_254 rfl (Wa_76 _ _ _ _ _ _ _) (by decide)) ?_
      show WP X _ 254 (92, [some (.ref 74), none], [.int ((g 76) 56)], Wd f fl g gl hh v tx) P
      exact WP.retI hP_254 rfl rfl h5
    · have h6 := h3.2 c4
      refine WP.sw (lo' := 3) rfl (fun c7 => ?_) (fun c7 => ?_)
      · have h8 := h6.1 c7
        refine WP.run hP_254 1 (c' := (94, [some (.ref 74), none], [.ref 74], Wd f fl g gl hh v tx)) rfl ?_
        refine WP.call hP_254 hP_130 (as := [.ref 74]) (pc' := 97) (L' := [some (.ref 74), none]) (st' := []) (w1 := Wd f fl g gl hh v tx) rfl ⟨Nat.le_of_ble_eq_true rfl, Nat.le_of_ble_eq_true rfl⟩ rfl (b_m_size_0 X (d) f fl g gl hh v tx  _ ?_)
        exact WP.retI hP_254 rfl rfl h8
      · have h9 := h6.2 c7
        refine WP.sw (lo' := 4) rfl (fun c10 => ?_) (fun c10 => ?_)
        · have h11 := h9.1 c10
          refine WP.run hP_254 3 (c' := (104, [some (.ref 74), none], [.int 57, .ref 76], Wd f fl g gl hh v tx)) rfl ?_
          refine WP.of (fun _ _ => Ex.iald hP_254 rfl (Wa_76 _ _ _ _ _ _ _) (by decide)) ?_
          show WP X _ 254 (105, [some (.ref 74), none], [.int ((g 76) 57)], Wd f fl g gl hh v tx) P
          exact WP.retI hP_254 rfl rfl h11
        · have h12 := h9.2 c10
          refine WP.sw (lo' := 5) rfl (fun c13 => ?_) (fun c13 => ?_)
          · have h14 := h12.1 c13
            refine WP.run hP_254 3 (c' := (112, [some (.ref 74), none], [.int 58, .ref 76], Wd f fl g gl hh v tx)) rfl ?_
            refine WP.of (fun _ _ => Ex.iald hP_254 rfl (Wa_76 _ _ _ _ _ _ _) (by decide)) ?_
            show WP X _ 254 (113, [some (.ref 74), none], [.int ((g 76) 58)], Wd f fl g gl hh v tx) P
            exact WP.retI hP_254 rfl rfl h14
          · have h15 := h12.2 c13
            refine WP.sw (lo' := 6) rfl (fun c16 => ?_) (fun c16 => ?_)
            · have h17 := h15.1 c16
              refine WP.run hP_254 2 (c' := (118, [some (.ref 74), none], [.int (f 4777)], Wd f fl g gl hh v tx)) rfl ?_
              exact WP.retI hP_254 rfl rfl h17
            · have h18 := h15.2 c16
              refine WP.sw (lo' := 7) rfl (fun c19 => ?_) (fun c19 => ?_)
              · have h20 := h18.1 c19
                refine WP.run hP_254 2 (c' := (123, [some (.ref 74), none], [.int (f 4749)], Wd f fl g gl hh v tx)) rfl ?_
                exact WP.retI hP_254 rfl rfl h20
              · have h21 := h18.2 c19
                refine WP.sw (lo' := 8) rfl (fun c22 => ?_) (fun c22 => ?_)
                · have h23 := h21.1 c22
                  refine WP.run hP_254 5 (c' := (132, [some (.ref 74), some (.int p0)], [.int (p0 - (6 : Int32)), .ref 75], Wd f fl g gl hh v tx)) rfl ?_
                  refine WP.of (fun _ _ => Ex.iald hP_254 rfl (Wa_75 _ _ _ _ _ _ _) h23.1) ?_
                  have h24 := h23.2
                  exact WP.retI hP_254 rfl rfl h24
                · have h25 := h21.2 c22
                  refine WP.sw (lo' := 9) rfl (fun c26 => ?_) (fun c26 => ?_)
                  · have h27 := h25.1 c26
                    refine WP.run hP_254 5 (c' := (132, [some (.ref 74), some (.int p0)], [.int (p0 - (6 : Int32)), .ref 75], Wd f fl g gl hh v tx)) rfl ?_
                    refine WP.of (fun _ _ => Ex.iald hP_254 rfl (Wa_75 _ _ _ _ _ _ _) h27.1) ?_
                    have h28 := h27.2
                    exact WP.retI hP_254 rfl rfl h28
                  · have h29 := h25.2 c26
                    refine WP.sw (lo' := 10) rfl (fun c30 => ?_) (fun c30 => ?_)
                    · have h31 := h29.1 c30
                      refine WP.run hP_254 5 (c' := (132, [some (.ref 74), some (.int p0)], [.int (p0 - (6 : Int32)), .ref 75], Wd f fl g gl hh v tx)) rfl ?_
                      refine WP.of (fun _ _ => Ex.iald hP_254 rfl (Wa_75 _ _ _ _ _ _ _) h31.1) ?_
                      have h32 := h31.2
                      exact WP.retI hP_254 rfl rfl h32
                    · have h33 := h29.2 c30
                      refine WP.sw (lo' := 11) rfl (fun c34 => ?_) (fun c34 => ?_)
                      · have h35 := h33.1 c34
                        refine WP.run hP_254 3 (c' := (139, [some (.ref 74), none], [.int 5, .ref 75], Wd f fl g gl hh v tx)) rfl ?_
                        refine WP.of (fun _ _ => Ex.iald hP_254 rfl (Wa_75 _ _ _ _ _ _ _) (by decide)) ?_
                        show WP X _ 254 (140, [some (.ref 74), none], [.int ((g 75) 5)], Wd f fl g gl hh v tx) P
                        exact WP.retI hP_254 rfl rfl h35
                      · have h36 := h33.2 c34
                        refine WP.sw (lo' := 12) rfl (fun c37 => ?_) (fun c37 => ?_)
                        · have h38 := h36.1 c37
                          refine WP.run hP_254 3 (c' := (147, [some (.ref 74), none], [.int 6, .ref 75], Wd f fl g gl hh v tx)) rfl ?_
                          refine WP.of (fun _ _ => Ex.iald hP_254 rfl (Wa_75 _ _ _ _ _ _ _) (by decide)) ?_
                          show WP X _ 254 (148, [some (.ref 74), none], [.int ((g 75) 6)], Wd f fl g gl hh v tx) P
                          exact WP.retI hP_254 rfl rfl h38
                        · have h39 := h36.2 c37
                          refine WP.sw (lo' := 13) rfl (fun c40 => ?_) (fun c40 => ?_)
                          · have h41 := h39.1 c40
                            refine WP.run hP_254 3 (c' := (155, [some (.ref 74), none], [.int 59, .ref 76], Wd f fl g gl hh v tx)) rfl ?_
                            refine WP.of (fun _ _ => Ex.iald hP_254 rfl (Wa_76 _ _ _ _ _ _ _) (by decide)) ?_
                            show WP X _ 254 (156, [some (.ref 74), none], [.int ((g 76) 59)], Wd f fl g gl hh v tx) P
                            exact WP.retI hP_254 rfl rfl h41
                          · have h42 := h39.2 c40
                            refine WP.sw (lo' := 14) rfl (fun c43 => ?_) (fun c43 => ?_)
                            · have h44 := h42.1 c43
                              refine WP.run hP_254 5 (c' := (165, [some (.ref 74), some (.int p0)], [.int (p0 - (13 : Int32)), .ref 76], Wd f fl g gl hh v tx)) rfl ?_
                              refine WP.call hP_254 hP_144 (as := [.int (p0 - (13 : Int32))]) (pc' := 168) (L' := [some (.ref 74), some (.int p0)]) (st' := [.ref 76]) (w1 := Wd f fl g gl hh v tx) rfl ⟨Nat.le_of_ble_eq_true rfl, Nat.le_of_ble_eq_true rfl⟩ rfl (b_m_termAt_0 X (d) f fl g gl hh v tx (p0 - (13 : Int32)) _ ?_)
                              refine ⟨fun c45 => ?_, fun c45 => ?_⟩
                              · have h46 := h44.1 c45
                                refine ⟨fun c47 => ?_, fun c47 => ?_⟩
                                · have h48 := h46.1 c47
                                  refine WP.of (fun _ _ => Ex.iald hP_254 rfl (Wa_76 _ _ _ _ _ _ _) (by decide)) ?_
                                  show WP X _ 254 (169, [some (.ref 74), some (.int p0)], [.int ((g 76) 54)], Wd f fl g gl hh v tx) P
                                  exact WP.retI hP_254 rfl rfl h48
                                · have h49 := h46.2 c47
                                  refine WP.of (fun _ _ => Ex.iald hP_254 rfl (Wa_76 _ _ _ _ _ _ _) (by decide)) ?_
                                  show WP X _ 254 (169, [some (.ref 74), some (.int p0)], [.int ((g 76) 53)], Wd f fl g gl hh v tx) P
                                  exact WP.retI hP_254 rfl rfl h49
                              · have h50 := h44.2 c45
                                refine WP.of (fun _ _ => Ex.iald hP_254 rfl (Wa_76 _ _ _ _ _ _ _) (by decide)) ?_
                                show WP X _ 254 (169, [some (.ref 74), some (.int p0)], [.int ((g 76) 22)], Wd f fl g gl hh v tx) P
                                exact WP.retI hP_254 rfl rfl h50
                            · have h51 := h42.2 c43
                              refine WP.sw (lo' := 15) rfl (fun c52 => ?_) (fun c52 => ?_)
                              · have h53 := h51.1 c52
                                refine WP.run hP_254 5 (c' := (165, [some (.ref 74), some (.int p0)], [.int (p0 - (13 : Int32)), .ref 76], Wd f fl g gl hh v tx)) rfl ?_
                                refine WP.call hP_254 hP_144 (as := [.int (p0 - (13 : Int32))]) (pc' := 168) (L' := [some (.ref 74), some (.int p0)]) (st' := [.ref 76]) (w1 := Wd f fl g gl hh v tx) rfl ⟨Nat.le_of_ble_eq_true rfl, Nat.le_of_ble_eq_true rfl⟩ rfl (b_m_termAt_0 X (d) f fl g gl hh v tx (p0 - (13 : Int32)) _ ?_)
                                refine ⟨fun c54 => ?_, fun c54 => ?_⟩
                                · have h55 := h53.1 c54
                                  refine ⟨fun c56 => ?_, fun c56 => ?_⟩
                                  · have h57 := h55.1 c56
                                    refine WP.of (fun _ _ => Ex.iald hP_254 rfl (Wa_76 _ _ _ _ _ _ _) (by decide)) ?_
                                    show WP X _ 254 (169, [some (.ref 74), some (.int p0)], [.int ((g 76) 54)], Wd f fl g gl hh v tx) P
                                    exact WP.retI hP_254 rfl rfl h57
                                  · have h58 := h55.2 c56
                                    refine WP.of (fun _ _ => Ex.iald hP_254 rfl (Wa_76 _ _ _ _ _ _ _) (by decide)) ?_
                                    show WP X _ 254 (169, [some (.ref 74), some (.int p0)], [.int ((g 76) 53)], Wd f fl g gl hh v tx) P
                                    exact WP.retI hP_254 rfl rfl h58
                                · have h59 := h53.2 c54
                                  refine WP.of (fun _ _ => Ex.iald hP_254 rfl (Wa_76 _ _ _ _ _ _ _) (by decide)) ?_
                                  show WP X _ 254 (169, [some (.ref 74), some (.int p0)], [.int ((g 76) 22)], Wd f fl g gl hh v tx) P
                                  exact WP.retI hP_254 rfl rfl h59
                              · have h60 := h51.2 c52
                                refine WP.sw (lo' := 16) rfl (fun c61 => ?_) (fun c61 => ?_)
                                · have h62 := h60.1 c61
                                  refine WP.run hP_254 5 (c' := (165, [some (.ref 74), some (.int p0)], [.int (p0 - (13 : Int32)), .ref 76], Wd f fl g gl hh v tx)) rfl ?_
                                  refine WP.call hP_254 hP_144 (as := [.int (p0 - (13 : Int32))]) (pc' := 168) (L' := [some (.ref 74), some (.int p0)]) (st' := [.ref 76]) (w1 := Wd f fl g gl hh v tx) rfl ⟨Nat.le_of_ble_eq_true rfl, Nat.le_of_ble_eq_true rfl⟩ rfl (b_m_termAt_0 X (d) f fl g gl hh v tx (p0 - (13 : Int32)) _ ?_)
                                  refine ⟨fun c63 => ?_, fun c63 => ?_⟩
                                  · have h64 := h62.1 c63
                                    refine ⟨fun c65 => ?_, fun c65 => ?_⟩
                                    · have h66 := h64.1 c65
                                      refine WP.of (fun _ _ => Ex.iald hP_254 rfl (Wa_76 _ _ _ _ _ _ _) (by decide)) ?_
                                      show WP X _ 254 (169, [some (.ref 74), some (.int p0)], [.int ((g 76) 54)], Wd f fl g gl hh v tx) P
                                      exact WP.retI hP_254 rfl rfl h66
                                    · have h67 := h64.2 c65
                                      refine WP.of (fun _ _ => Ex.iald hP_254 rfl (Wa_76 _ _ _ _ _ _ _) (by decide)) ?_
                                      show WP X _ 254 (169, [some (.ref 74), some (.int p0)], [.int ((g 76) 53)], Wd f fl g gl hh v tx) P
                                      exact WP.retI hP_254 rfl rfl h67
                                  · have h68 := h62.2 c63
                                    refine WP.of (fun _ _ => Ex.iald hP_254 rfl (Wa_76 _ _ _ _ _ _ _) (by decide)) ?_
                                    show WP X _ 254 (169, [some (.ref 74), some (.int p0)], [.int ((g 76) 22)], Wd f fl g gl hh v tx) P
                                    exact WP.retI hP_254 rfl rfl h68
                                · have h69 := h60.2 c61
                                  show WP X _ 254 (170, [some (.ref 74), some (.int p0)], [], Wd f fl g gl hh v tx) P
                                  refine WP.run hP_254 1 (c' := (171, [none, none], [.int (-1)], Wd f fl g gl hh v tx)) rfl ?_
                                  exact WP.retI hP_254 rfl rfl h69
