set_option maxRecDepth 20000 in
theorem b_yca_board_1n_0 (X : mm_X) (d : Nat) (f : Nat → Int32) (fl : Nat → Int64) (g : Nat → Nat → Int32) (gl : Nat → Nat → Int64) (hh : Nat → Nat → Option Nat) (v : Nat → Value) (tx : mm_W) (p0 : Int32)  (P : Option Value → mm_W → Prop)
    (h : (¬ (p0 < 0 ∨ 3 ≤ p0.toNatClampNeg)) ∧ P none (Wd (va_up f 2440 ((g 5) p0.toNatClampNeg)) fl (va_up (va_up (va_up g 41 (upd (g 41) 0 p0)) 41 (upd (upd (g 41) 0 p0) 6 ((g 8) 0))) 41 (upd (upd (upd (g 41) 0 p0) 6 ((g 8) 0)) 7 ((g 8) 2))) gl hh (va_up v 2439 (.null)) tx)) :
    WP X (d) 2 (0, [some (.ref 38), some (.ref 1), some (.int p0), some (.null)], [], Wd f fl g gl hh v tx) P := by
  refine WP.run hP_2 7 (c' := (11, [some (.ref 38), some (.ref 1), some (.int p0), some (.null)], [.int p0, .ref 5, .ref 38], Wd f fl g gl hh (va_up v 2439 (.null)) tx)) rfl ?_
  refine WP.of (fun _ _ => Ex.iald hP_2 rfl (Wa_5 _ _ _ _ _ _ _) h.1) ?_
  have h1 := h.2
  refine WP.run hP_2 5 (c' := (21, [some (.ref 38), some (.ref 1), some (.int p0), some (.null)], [.int p0, .int 0, .ref 41], Wd (va_up f 2440 ((g 5) p0.toNatClampNeg)) fl g gl hh (va_up v 2439 (.null)) tx)) rfl ?_
  refine WP.of (fun _ _ => Ex.iast hP_2 (w2 := Wd (va_up f 2440 ((g 5) p0.toNatClampNeg)) fl (va_up g 41 (upd (g 41) 0 p0)) gl hh (va_up v 2439 (.null)) tx) rfl (Wa_41 _ _ _ _ _ _ _) (by decide) (Ws_41 _ _ _ _ _ _ _ _)) ?_
  refine WP.run hP_2 6 (c' := (33, [some (.ref 38), some (.ref 1), some (.int p0), some (.null)], [.int 0, .ref 8, .int 6, .ref 41], Wd (va_up f 2440 ((g 5) p0.toNatClampNeg)) fl (va_up g 41 (upd (g 41) 0 p0)) gl hh (va_up v 2439 (.null)) tx)) rfl ?_
  refine WP.of (fun _ _ => Ex.iald hP_2 rfl (Wa_8 _ _ _ _ _ _ _) (by decide)) ?_
  show WP X _ 2 (34, [some (.ref 38), some (.ref 1), some (.int p0), some (.null)], [.int ((g 8) 0), .int 6, .ref 41], Wd (va_up f 2440 ((g 5) p0.toNatClampNeg)) fl (va_up g 41 (upd (g 41) 0 p0)) gl hh (va_up v 2439 (.null)) tx) P
  refine WP.of (fun _ _ => Ex.iast hP_2 (w2 := Wd (va_up f 2440 ((g 5) p0.toNatClampNeg)) fl (va_up (va_up g 41 (upd (g 41) 0 p0)) 41 (upd (upd (g 41) 0 p0) 6 ((g 8) 0))) gl hh (va_up v 2439 (.null)) tx) rfl (Wa_41 _ _ _ _ _ _ _) (by decide) (Ws_41 _ _ _ _ _ _ _ _)) ?_
  refine WP.run hP_2 6 (c' := (46, [some (.ref 38), some (.ref 1), some (.int p0), some (.null)], [.int 2, .ref 8, .int 7, .ref 41], Wd (va_up f 2440 ((g 5) p0.toNatClampNeg)) fl (va_up (va_up g 41 (upd (g 41) 0 p0)) 41 (upd (upd (g 41) 0 p0) 6 ((g 8) 0))) gl hh (va_up v 2439 (.null)) tx)) rfl ?_
  refine WP.of (fun _ _ => Ex.iald hP_2 rfl (Wa_8 _ _ _ _ _ _ _) (by decide)) ?_
  show WP X _ 2 (47, [some (.ref 38), some (.ref 1), some (.int p0), some (.null)], [.int ((g 8) 2), .int 7, .ref 41], Wd (va_up f 2440 ((g 5) p0.toNatClampNeg)) fl (va_up (va_up g 41 (upd (g 41) 0 p0)) 41 (upd (upd (g 41) 0 p0) 6 ((g 8) 0))) gl hh (va_up v 2439 (.null)) tx) P
  refine WP.of (fun _ _ => Ex.iast hP_2 (w2 := Wd (va_up f 2440 ((g 5) p0.toNatClampNeg)) fl (va_up (va_up (va_up g 41 (upd (g 41) 0 p0)) 41 (upd (upd (g 41) 0 p0) 6 ((g 8) 0))) 41 (upd (upd (upd (g 41) 0 p0) 6 ((g 8) 0)) 7 ((g 8) 2))) gl hh (va_up v 2439 (.null)) tx) rfl (Wa_41 _ _ _ _ _ _ _) (by decide) (Ws_41 _ _ _ _ _ _ _ _)) ?_
  exact WP.ret hP_2 (r := none) (w' := Wd (va_up f 2440 ((g 5) p0.toNatClampNeg)) fl (va_up (va_up (va_up g 41 (upd (g 41) 0 p0)) 41 (upd (upd (g 41) 0 p0) 6 ((g 8) 0))) 41 (upd (upd (upd (g 41) 0 p0) 6 ((g 8) 0)) 7 ((g 8) 2))) gl hh (va_up v 2439 (.null)) tx) rfl h1

set_option maxRecDepth 20000 in
theorem b_yca_priceFrom_38_1_0 (X : mm_X) (d : Nat) (f : Nat → Int32) (fl : Nat → Int64) (g : Nat → Nat → Int32) (gl : Nat → Nat → Int64) (hh : Nat → Nat → Option Nat) (v : Nat → Value) (tx : mm_W) (p0 : Int32) (p1 : Int32) (p2 : Int32)  (P : Option Value → mm_W → Prop)
    (h : WP X (d) 48 (0, [some (.ref 1), some (.int p0), some (.int p1), none, none], [], Wd f fl g gl hh v tx) (fun rv w2 => WP X (d + 1) 9 (6, [some (.ref 38), some (.ref 1), some (.int p0), some (.int p1), some (.int p2), none, none], rv.toList ++ [], w2) P)) :
    WP X (d + 1) 9 (0, [some (.ref 38), some (.ref 1), some (.int p0), some (.int p1), some (.int p2), none, none], [], Wd f fl g gl hh v tx) P := by
  refine WP.run hP_9 3 (c' := (3, [some (.ref 38), some (.ref 1), some (.int p0), some (.int p1), some (.int p2), none, none], [.int p1, .int p0, .ref 1], Wd f fl g gl hh v tx)) rfl ?_
  refine WP.call hP_9 hP_48 (as := [.ref 1, .int p0, .int p1]) (pc' := 6) (L' := [some (.ref 38), some (.ref 1), some (.int p0), some (.int p1), some (.int p2), none, none]) (st' := []) (w1 := Wd f fl g gl hh v tx) rfl ⟨Nat.le_of_ble_eq_true rfl, Nat.le_of_ble_eq_true rfl⟩ rfl ?_
  exact h

set_option maxRecDepth 20000 in
theorem b_yca_priceFrom_38_1_6 (X : mm_X) (d : Nat) (f : Nat → Int32) (fl : Nat → Int64) (g : Nat → Nat → Int32) (gl : Nat → Nat → Int64) (hh : Nat → Nat → Option Nat) (v : Nat → Value) (tx : mm_W) (l2 : Int32) (l3 : Int32) (l4 : Int32) (s0 : Int32)  (P : Option Value → mm_W → Prop)
    (h : ((1000000 ≤ s0) → P (some (.int 1000000)) (Wd f fl g gl hh v tx)) ∧
    ((¬ (1000000 ≤ s0)) → (((s0 ≤ 0) → (((l4 = 0) → ((¬ (l2 < 0 ∨ 8 ≤ l2.toNatClampNeg)) ∧ ((¬ (l2 < 0 ∨ 8 ≤ l2.toNatClampNeg)) ∧ ((¬ ((l3 + ((g 3) l2.toNatClampNeg)) < 0 ∨ 13 ≤ (l3 + ((g 3) l2.toNatClampNeg)).toNatClampNeg)) ∧ P (some (.int (if (((g 42) l2.toNatClampNeg) + ((g 43) (l3 + ((g 3) l2.toNatClampNeg)).toNatClampNeg)) < 1000000 then (((g 42) l2.toNatClampNeg) + ((g 43) (l3 + ((g 3) l2.toNatClampNeg)).toNatClampNeg)) else 1000000))) (Wd f fl g gl hh v tx))))) ∧
        ((¬ l4 = 0) → ((¬ (l2 < 0 ∨ 8 ≤ l2.toNatClampNeg)) ∧ ((¬ ((l3 + ((g 3) l2.toNatClampNeg)) < 0 ∨ 13 ≤ (l3 + ((g 3) l2.toNatClampNeg)).toNatClampNeg)) ∧ P (some (.int (if (s0 + ((g 43) (l3 + ((g 3) l2.toNatClampNeg)).toNatClampNeg)) < 1000000 then (s0 + ((g 43) (l3 + ((g 3) l2.toNatClampNeg)).toNatClampNeg)) else 1000000))) (Wd f fl g gl hh v tx)))))) ∧
      ((¬ (s0 ≤ 0)) → (((¬ l4 = 0) → (((l4 = 0) → ((¬ (l2 < 0 ∨ 8 ≤ l2.toNatClampNeg)) ∧ ((¬ (l2 < 0 ∨ 8 ≤ l2.toNatClampNeg)) ∧ ((¬ ((l3 + ((g 3) l2.toNatClampNeg)) < 0 ∨ 13 ≤ (l3 + ((g 3) l2.toNatClampNeg)).toNatClampNeg)) ∧ P (some (.int (if (((g 42) l2.toNatClampNeg) + ((g 43) (l3 + ((g 3) l2.toNatClampNeg)).toNatClampNeg)) < 1000000 then (((g 42) l2.toNatClampNeg) + ((g 43) (l3 + ((g 3) l2.toNatClampNeg)).toNatClampNeg)) else 1000000))) (Wd f fl g gl hh v tx))))) ∧
          ((¬ l4 = 0) → ((¬ (l2 < 0 ∨ 8 ≤ l2.toNatClampNeg)) ∧ ((¬ ((l3 + ((g 3) l2.toNatClampNeg)) < 0 ∨ 13 ≤ (l3 + ((g 3) l2.toNatClampNeg)).toNatClampNeg)) ∧ P (some (.int (if (s0 + ((g 43) (l3 + ((g 3) l2.toNatClampNeg)).toNatClampNeg)) < 1000000 then (s0 + ((g 43) (l3 + ((g 3) l2.toNatClampNeg)).toNatClampNeg)) else 1000000))) (Wd f fl g gl hh v tx)))))) ∧
        ((l4 = 0) → P (some (.int 1000000)) (Wd f fl g gl hh v tx))))))) :
    WP X (d) 9 (6, [some (.ref 38), some (.ref 1), some (.int l2), some (.int l3), some (.int l4), none, none], [.int s0], Wd f fl g gl hh v tx) P := by
  refine WP.run hP_9 3 (c' := (12, [some (.ref 38), some (.ref 1), some (.int l2), some (.int l3), some (.int l4), some (.int s0), none], [.int 1000000, .int s0], Wd f fl g gl hh v tx)) rfl ?_
  refine WP.br hP_9 (q := 1000000 ≤ s0) (t := 25) (f := 15) (L := [some (.ref 38), some (.ref 1), some (.int l2), some (.int l3), some (.int l4), some (.int s0), none]) (st := []) (w := Wd f fl g gl hh v tx) rfl (fun c1 => ?_) (fun c1 => ?_)
  · have h2 := h.1 c1
    refine WP.run hP_9 1 (c' := (27, [none, none, none, none, none, none, none], [.int 1000000], Wd f fl g gl hh v tx)) rfl ?_
    exact WP.retI hP_9 rfl rfl h2
  · have h3 := h.2 c1
    refine WP.run hP_9 1 (c' := (17, [some (.ref 38), some (.ref 1), some (.int l2), some (.int l3), some (.int l4), some (.int s0), none], [.int s0], Wd f fl g gl hh v tx)) rfl ?_
    refine WP.br hP_9 (q := s0 ≤ 0) (t := 28) (f := 20) (L := [some (.ref 38), some (.ref 1), some (.int l2), some (.int l3), some (.int l4), some (.int s0), none]) (st := []) (w := Wd f fl g gl hh v tx) rfl (fun c4 => ?_) (fun c4 => ?_)
    · have h5 := h3.1 c4
      refine WP.run hP_9 1 (c' := (30, [some (.ref 38), some (.ref 1), some (.int l2), some (.int l3), some (.int l4), some (.int s0), none], [.int l4], Wd f fl g gl hh v tx)) rfl ?_
      refine WP.br hP_9 (q := l4 = 0) (t := 38) (f := 33) (L := [some (.ref 38), some (.ref 1), some (.int l2), some (.int l3), some (.int l4), some (.int s0), none]) (st := []) (w := Wd f fl g gl hh v tx) rfl (fun c6 => ?_) (fun c6 => ?_)
      · have h7 := h5.1 c6
        refine WP.run hP_9 3 (c' := (43, [some (.ref 38), some (.ref 1), some (.int l2), some (.int l3), none, none, none], [.int l2, .ref 42], Wd f fl g gl hh v tx)) rfl ?_
        refine WP.of (fun _ _ => Ex.iald hP_9 rfl (Wa_42 _ _ _ _ _ _ _) h7.1) ?_
        have h8 := h7.2
        refine WP.run hP_9 9 (c' := (60, [some (.ref 38), some (.ref 1), some (.int l2), some (.int l3), none, none, some (.int ((g 42) l2.toNatClampNeg))], [.int l2, .ref 3, .int l3, .ref 43, .int ((g 42) l2.toNatClampNeg), .int 1000000], Wd f fl g gl hh v tx)) rfl ?_
        refine WP.of (fun _ _ => Ex.iald hP_9 rfl (Wa_3 _ _ _ _ _ _ _) h8.1) ?_
        have h9 := h8.2
        refine WP.run hP_9 1 (c' := (62, [some (.ref 38), some (.ref 1), some (.int l2), some (.int l3), none, none, some (.int ((g 42) l2.toNatClampNeg))], [.int (l3 + ((g 3) l2.toNatClampNeg)), .ref 43, .int ((g 42) l2.toNatClampNeg), .int 1000000], Wd f fl g gl hh v tx)) rfl ?_
        refine WP.of (fun _ _ => Ex.iald hP_9 rfl (Wa_43 _ _ _ _ _ _ _) h9.1) ?_
        have h10 := h9.2
        refine WP.run hP_9 2 (c' := (67, [some (.ref 38), some (.ref 1), some (.int l2), some (.int l3), none, none, some (.int ((g 42) l2.toNatClampNeg))], [.int (if (((g 42) l2.toNatClampNeg) + ((g 43) (l3 + ((g 3) l2.toNatClampNeg)).toNatClampNeg)) < 1000000 then (((g 42) l2.toNatClampNeg) + ((g 43) (l3 + ((g 3) l2.toNatClampNeg)).toNatClampNeg)) else 1000000)], Wd f fl g gl hh v tx)) rfl ?_
        exact WP.retI hP_9 rfl rfl h10
      · have h11 := h5.2 c6
        refine WP.run hP_9 11 (c' := (60, [some (.ref 38), some (.ref 1), some (.int l2), some (.int l3), none, none, some (.int s0)], [.int l2, .ref 3, .int l3, .ref 43, .int s0, .int 1000000], Wd f fl g gl hh v tx)) rfl ?_
        refine WP.of (fun _ _ => Ex.iald hP_9 rfl (Wa_3 _ _ _ _ _ _ _) h11.1) ?_
        have h12 := h11.2
        refine WP.run hP_9 1 (c' := (62, [some (.ref 38), some (.ref 1), some (.int l2), some (.int l3), none, none, some (.int s0)], [.int (l3 + ((g 3) l2.toNatClampNeg)), .ref 43, .int s0, .int 1000000], Wd f fl g gl hh v tx)) rfl ?_
        refine WP.of (fun _ _ => Ex.iald hP_9 rfl (Wa_43 _ _ _ _ _ _ _) h12.1) ?_
        have h13 := h12.2
        refine WP.run hP_9 2 (c' := (67, [some (.ref 38), some (.ref 1), some (.int l2), some (.int l3), none, none, some (.int s0)], [.int (if (s0 + ((g 43) (l3 + ((g 3) l2.toNatClampNeg)).toNatClampNeg)) < 1000000 then (s0 + ((g 43) (l3 + ((g 3) l2.toNatClampNeg)).toNatClampNeg)) else 1000000)], Wd f fl g gl hh v tx)) rfl ?_
        exact WP.retI hP_9 rfl rfl h13
    · have h14 := h3.2 c4
      refine WP.run hP_9 1 (c' := (22, [some (.ref 38), some (.ref 1), some (.int l2), some (.int l3), some (.int l4), some (.int s0), none], [.int l4], Wd f fl g gl hh v tx)) rfl ?_
      refine WP.br hP_9 (q := ¬ l4 = 0) (t := 28) (f := 25) (L := [some (.ref 38), some (.ref 1), some (.int l2), some (.int l3), some (.int l4), some (.int s0), none]) (st := []) (w := Wd f fl g gl hh v tx) rfl (fun c15 => ?_) (fun c15 => ?_)
      · have h16 := h14.1 c15
        refine WP.run hP_9 1 (c' := (30, [some (.ref 38), some (.ref 1), some (.int l2), some (.int l3), some (.int l4), some (.int s0), none], [.int l4], Wd f fl g gl hh v tx)) rfl ?_
        refine WP.br hP_9 (q := l4 = 0) (t := 38) (f := 33) (L := [some (.ref 38), some (.ref 1), some (.int l2), some (.int l3), some (.int l4), some (.int s0), none]) (st := []) (w := Wd f fl g gl hh v tx) rfl (fun c17 => ?_) (fun c17 => ?_)
        · have h18 := h16.1 c17
          refine WP.run hP_9 3 (c' := (43, [some (.ref 38), some (.ref 1), some (.int l2), some (.int l3), none, none, none], [.int l2, .ref 42], Wd f fl g gl hh v tx)) rfl ?_
          refine WP.of (fun _ _ => Ex.iald hP_9 rfl (Wa_42 _ _ _ _ _ _ _) h18.1) ?_
          have h19 := h18.2
          refine WP.run hP_9 9 (c' := (60, [some (.ref 38), some (.ref 1), some (.int l2), some (.int l3), none, none, some (.int ((g 42) l2.toNatClampNeg))], [.int l2, .ref 3, .int l3, .ref 43, .int ((g 42) l2.toNatClampNeg), .int 1000000], Wd f fl g gl hh v tx)) rfl ?_
          refine WP.of (fun _ _ => Ex.iald hP_9 rfl (Wa_3 _ _ _ _ _ _ _) h19.1) ?_
          have h20 := h19.2
          refine WP.run hP_9 1 (c' := (62, [some (.ref 38), some (.ref 1), some (.int l2), some (.int l3), none, none, some (.int ((g 42) l2.toNatClampNeg))], [.int (l3 + ((g 3) l2.toNatClampNeg)), .ref 43, .int ((g 42) l2.toNatClampNeg), .int 1000000], Wd f fl g gl hh v tx)) rfl ?_
          refine WP.of (fun _ _ => Ex.iald hP_9 rfl (Wa_43 _ _ _ _ _ _ _) h20.1) ?_
          have h21 := h20.2
          refine WP.run hP_9 2 (c' := (67, [some (.ref 38), some (.ref 1), some (.int l2), some (.int l3), none, none, some (.int ((g 42) l2.toNatClampNeg))], [.int (if (((g 42) l2.toNatClampNeg) + ((g 43) (l3 + ((g 3) l2.toNatClampNeg)).toNatClampNeg)) < 1000000 then (((g 42) l2.toNatClampNeg) + ((g 43) (l3 + ((g 3) l2.toNatClampNeg)).toNatClampNeg)) else 1000000)], Wd f fl g gl hh v tx)) rfl ?_
          exact WP.retI hP_9 rfl rfl h21
        · have h22 := h16.2 c17
          refine WP.run hP_9 11 (c' := (60, [some (.ref 38), some (.ref 1), some (.int l2), some (.int l3), none, none, some (.int s0)], [.int l2, .ref 3, .int l3, .ref 43, .int s0, .int 1000000], Wd f fl g gl hh v tx)) rfl ?_
          refine WP.of (fun _ _ => Ex.iald hP_9 rfl (Wa_3 _ _ _ _ _ _ _) h22.1) ?_
          have h23 := h22.2
          refine WP.run hP_9 1 (c' := (62, [some (.ref 38), some (.ref 1), some (.int l2), some (.int l3), none, none, some (.int s0)], [.int (l3 + ((g 3) l2.toNatClampNeg)), .ref 43, .int s0, .int 1000000], Wd f fl g gl hh v tx)) rfl ?_
          refine WP.of (fun _ _ => Ex.iald hP_9 rfl (Wa_43 _ _ _ _ _ _ _) h23.1) ?_
          have h24 := h23.2
          refine WP.run hP_9 2 (c' := (67, [some (.ref 38), some (.ref 1), some (.int l2), some (.int l3), none, none, some (.int s0)], [.int (if (s0 + ((g 43) (l3 + ((g 3) l2.toNatClampNeg)).toNatClampNeg)) < 1000000 then (s0 + ((g 43) (l3 + ((g 3) l2.toNatClampNeg)).toNatClampNeg)) else 1000000)], Wd f fl g gl hh v tx)) rfl ?_
          exact WP.retI hP_9 rfl rfl h24
      · have h25 := h14.2 (Classical.not_not.mp c15)
        refine WP.run hP_9 1 (c' := (27, [none, none, none, none, none, none, none], [.int 1000000], Wd f fl g gl hh v tx)) rfl ?_
        exact WP.retI hP_9 rfl rfl h25

set_option maxRecDepth 20000 in
theorem b_yca_pick_38_1_0 (X : mm_X) (d : Nat) (f : Nat → Int32) (fl : Nat → Int64) (g : Nat → Nat → Int32) (gl : Nat → Nat → Int64) (hh : Nat → Nat → Option Nat) (v : Nat → Value) (tx : mm_W) (p0 : Int32)  (P : Option Value → mm_W → Prop)
    (h : (¬ ((f 70) < 0 ∨ 13 ≤ (f 70).toNatClampNeg)) ∧ WP X (d) 8 (17, [some (.ref 38), some (.ref 1), some (.int p0), some (.int ((f 70) - (1 : Int32))), none, none], [], Wd f fl (va_up g 43 (upd (g 43) ((f 70).toNatClampNeg) 0)) gl hh v tx) P) :
    WP X (d) 8 (0, [some (.ref 38), some (.ref 1), some (.int p0), none, none, none], [], Wd f fl g gl hh v tx) P := by
  refine WP.run hP_8 5 (c' := (9, [some (.ref 38), some (.ref 1), some (.int p0), none, none, none], [.int 0, .int (f 70), .ref 43], Wd f fl g gl hh v tx)) rfl ?_
  refine WP.of (fun _ _ => Ex.iast hP_8 (w2 := Wd f fl (va_up g 43 (upd (g 43) ((f 70).toNatClampNeg) 0)) gl hh v tx) rfl (Wa_43 _ _ _ _ _ _ _) h.1 (Ws_43 _ _ _ _ _ _ _ _)) ?_
  have h1 := h.2
  refine WP.run hP_8 5 (c' := (17, [some (.ref 38), some (.ref 1), some (.int p0), some (.int ((f 70) - (1 : Int32))), none, none], [], Wd f fl (va_up g 43 (upd (g 43) ((f 70).toNatClampNeg) 0)) gl hh v tx)) rfl ?_
  exact h1

set_option maxRecDepth 20000 in
theorem b_yca_pick_38_1_17 (X : mm_X) (d : Nat) (f : Nat → Int32) (fl : Nat → Int64) (g : Nat → Nat → Int32) (gl : Nat → Nat → Int64) (hh : Nat → Nat → Option Nat) (v : Nat → Value) (tx : mm_W) (l2 : Int32) (l3 : Int32)  (P : Option Value → mm_W → Prop)
    (h : ((l3 < 0) → WP X (d) 8 (90, [some (.ref 38), some (.ref 1), some (.int l2), some (.int 0), none, none], [], Wd (va_up (va_up f 2438 ((g 43) 0)) 2437 0) fl g gl hh v tx) P) ∧
    ((¬ (l3 < 0)) → WP X (d) 8 (28, [some (.ref 38), some (.ref 1), some (.int l2), some (.int l3), some (.int 1000000), some (.int 0)], [], Wd f fl g gl hh v tx) P)) :
    WP X (d) 8 (17, [some (.ref 38), some (.ref 1), some (.int l2), some (.int l3), none, none], [], Wd f fl g gl hh v tx) P := by
  refine WP.run hP_8 1 (c' := (18, [some (.ref 38), some (.ref 1), some (.int l2), some (.int l3), none, none], [.int l3], Wd f fl g gl hh v tx)) rfl ?_
  refine WP.br hP_8 (q := l3 < 0) (t := 73) (f := 21) (L := [some (.ref 38), some (.ref 1), some (.int l2), some (.int l3), none, none]) (st := []) (w := Wd f fl g gl hh v tx) rfl (fun c1 => ?_) (fun c1 => ?_)
  · have h2 := h.1 c1
    refine WP.run hP_8 4 (c' := (79, [some (.ref 38), some (.ref 1), some (.int l2), none, none, none], [.int 0, .ref 43, .ref 38], Wd f fl g gl hh v tx)) rfl ?_
    refine WP.of (fun _ _ => Ex.iald hP_8 rfl (Wa_43 _ _ _ _ _ _ _) (by decide)) ?_
    show WP X _ 8 (80, [some (.ref 38), some (.ref 1), some (.int l2), none, none, none], [.int ((g 43) 0), .ref 38], Wd f fl g gl hh v tx) P
    refine WP.run hP_8 5 (c' := (89, [some (.ref 38), some (.ref 1), some (.int l2), none, none, none], [.int 0], Wd (va_up (va_up f 2438 ((g 43) 0)) 2437 0) fl g gl hh v tx)) rfl ?_
    refine WP.run hP_8 1 (c' := (90, [some (.ref 38), some (.ref 1), some (.int l2), some (.int 0), none, none], [], Wd (va_up (va_up f 2438 ((g 43) 0)) 2437 0) fl g gl hh v tx)) rfl ?_
    exact h2
  · have h3 := h.2 c1
    refine WP.run hP_8 3 (c' := (26, [some (.ref 38), some (.ref 1), some (.int l2), some (.int l3), some (.int 1000000), none], [.int 0], Wd f fl g gl hh v tx)) rfl ?_
    refine WP.run hP_8 1 (c' := (28, [some (.ref 38), some (.ref 1), some (.int l2), some (.int l3), some (.int 1000000), some (.int 0)], [], Wd f fl g gl hh v tx)) rfl ?_
    exact h3

set_option maxRecDepth 20000 in
theorem b_yca_pick_38_1_90 (X : mm_X) (d : Nat) (f : Nat → Int32) (fl : Nat → Int64) (g : Nat → Nat → Int32) (gl : Nat → Nat → Int64) (hh : Nat → Nat → Option Nat) (v : Nat → Value) (tx : mm_W) (l2 : Int32) (l3 : Int32)  (P : Option Value → mm_W → Prop)
    (h : ((1000000 ≤ (f 2438)) → (((1000000 ≤ (f 2438)) → P (some (.int 0)) (Wd f fl g gl hh v tx)) ∧
      ((¬ (1000000 ≤ (f 2438))) → P (some (.int 1)) (Wd f fl g gl hh v tx)))) ∧
    ((¬ (1000000 ≤ (f 2438))) → ((((f 70) ≤ l3) → (((1000000 ≤ (f 2438)) → P (some (.int 0)) (Wd f fl g gl hh v tx)) ∧
        ((¬ (1000000 ≤ (f 2438))) → P (some (.int 1)) (Wd f fl g gl hh v tx)))) ∧
      ((¬ ((f 70) ≤ l3)) → (((12 ≤ (f 2437)) → (((1000000 ≤ (f 2438)) → P (some (.int 0)) (Wd f fl g gl hh v tx)) ∧
          ((¬ (1000000 ≤ (f 2438))) → P (some (.int 1)) (Wd f fl g gl hh v tx)))) ∧
        ((¬ (12 ≤ (f 2437))) → WP X (d) 8 (119, [some (.ref 38), some (.ref 1), some (.int l2), some (.int l3), some (.int 0), none], [], Wd f fl g gl hh v tx) P)))))) :
    WP X (d) 8 (90, [some (.ref 38), some (.ref 1), some (.int l2), some (.int l3), none, none], [], Wd f fl g gl hh v tx) P := by
  refine WP.run hP_8 3 (c' := (96, [some (.ref 38), some (.ref 1), some (.int l2), some (.int l3), none, none], [.int 1000000, .int (f 2438)], Wd f fl g gl hh v tx)) rfl ?_
  refine WP.br hP_8 (q := 1000000 ≤ (f 2438)) (t := 192) (f := 99) (L := [some (.ref 38), some (.ref 1), some (.int l2), some (.int l3), none, none]) (st := []) (w := Wd f fl g gl hh v tx) rfl (fun c1 => ?_) (fun c1 => ?_)
  · have h2 := h.1 c1
    refine WP.run hP_8 3 (c' := (198, [some (.ref 38), none, none, none, none, none], [.int 1000000, .int (f 2438)], Wd f fl g gl hh v tx)) rfl ?_
    refine WP.br hP_8 (q := 1000000 ≤ (f 2438)) (t := 205) (f := 201) (L := [some (.ref 38), none, none, none, none, none]) (st := []) (w := Wd f fl g gl hh v tx) rfl (fun c3 => ?_) (fun c3 => ?_)
    · have h4 := h2.1 c3
      refine WP.run hP_8 1 (c' := (206, [none, none, none, none, none, none], [.int 0], Wd f fl g gl hh v tx)) rfl ?_
      exact WP.ret hP_8 (r := some (.int 0)) (w' := Wd f fl g gl hh v tx) rfl h4
    · have h5 := h2.2 c3
      refine WP.run hP_8 2 (c' := (206, [some (.ref 38), none, none, none, none, none], [.int 1], Wd f fl g gl hh v tx)) rfl ?_
      exact WP.ret hP_8 (r := some (.int 1)) (w' := Wd f fl g gl hh v tx) rfl h5
  · have h6 := h.2 c1
    refine WP.run hP_8 3 (c' := (104, [some (.ref 38), some (.ref 1), some (.int l2), some (.int l3), none, none], [.int (f 70), .int l3], Wd f fl g gl hh v tx)) rfl ?_
    refine WP.br hP_8 (q := (f 70) ≤ l3) (t := 192) (f := 107) (L := [some (.ref 38), some (.ref 1), some (.int l2), some (.int l3), none, none]) (st := []) (w := Wd f fl g gl hh v tx) rfl (fun c7 => ?_) (fun c7 => ?_)
    · have h8 := h6.1 c7
      refine WP.run hP_8 3 (c' := (198, [some (.ref 38), none, none, none, none, none], [.int 1000000, .int (f 2438)], Wd f fl g gl hh v tx)) rfl ?_
      refine WP.br hP_8 (q := 1000000 ≤ (f 2438)) (t := 205) (f := 201) (L := [some (.ref 38), none, none, none, none, none]) (st := []) (w := Wd f fl g gl hh v tx) rfl (fun c9 => ?_) (fun c9 => ?_)
      · have h10 := h8.1 c9
        refine WP.run hP_8 1 (c' := (206, [none, none, none, none, none, none], [.int 0], Wd f fl g gl hh v tx)) rfl ?_
        exact WP.ret hP_8 (r := some (.int 0)) (w' := Wd f fl g gl hh v tx) rfl h10
      · have h11 := h8.2 c9
        refine WP.run hP_8 2 (c' := (206, [some (.ref 38), none, none, none, none, none], [.int 1], Wd f fl g gl hh v tx)) rfl ?_
        exact WP.ret hP_8 (r := some (.int 1)) (w' := Wd f fl g gl hh v tx) rfl h11
    · have h12 := h6.2 c7
      refine WP.run hP_8 3 (c' := (113, [some (.ref 38), some (.ref 1), some (.int l2), some (.int l3), none, none], [.int 12, .int (f 2437)], Wd f fl g gl hh v tx)) rfl ?_
      refine WP.br hP_8 (q := 12 ≤ (f 2437)) (t := 192) (f := 116) (L := [some (.ref 38), some (.ref 1), some (.int l2), some (.int l3), none, none]) (st := []) (w := Wd f fl g gl hh v tx) rfl (fun c13 => ?_) (fun c13 => ?_)
      · have h14 := h12.1 c13
        refine WP.run hP_8 3 (c' := (198, [some (.ref 38), none, none, none, none, none], [.int 1000000, .int (f 2438)], Wd f fl g gl hh v tx)) rfl ?_
        refine WP.br hP_8 (q := 1000000 ≤ (f 2438)) (t := 205) (f := 201) (L := [some (.ref 38), none, none, none, none, none]) (st := []) (w := Wd f fl g gl hh v tx) rfl (fun c15 => ?_) (fun c15 => ?_)
        · have h16 := h14.1 c15
          refine WP.run hP_8 1 (c' := (206, [none, none, none, none, none, none], [.int 0], Wd f fl g gl hh v tx)) rfl ?_
          exact WP.ret hP_8 (r := some (.int 0)) (w' := Wd f fl g gl hh v tx) rfl h16
        · have h17 := h14.2 c15
          refine WP.run hP_8 2 (c' := (206, [some (.ref 38), none, none, none, none, none], [.int 1], Wd f fl g gl hh v tx)) rfl ?_
          exact WP.ret hP_8 (r := some (.int 1)) (w' := Wd f fl g gl hh v tx) rfl h17
      · have h18 := h12.2 c13
        refine WP.run hP_8 2 (c' := (119, [some (.ref 38), some (.ref 1), some (.int l2), some (.int l3), some (.int 0), none], [], Wd f fl g gl hh v tx)) rfl ?_
        exact h18

set_option maxRecDepth 20000 in
theorem b_yca_pick_38_1_28 (X : mm_X) (d : Nat) (f : Nat → Int32) (fl : Nat → Int64) (g : Nat → Nat → Int32) (gl : Nat → Nat → Int64) (hh : Nat → Nat → Option Nat) (v : Nat → Value) (tx : mm_W) (l2 : Int32) (l3 : Int32) (l4 : Int32) (l5 : Int32)  (P : Option Value → mm_W → Prop)
    (h : (((f 64) ≤ l5) → ((¬ (l3 < 0 ∨ 13 ≤ l3.toNatClampNeg)) ∧ WP X (d + 1) 8 (17, [some (.ref 38), some (.ref 1), some (.int l2), some (.int (l3 + (-1 : Int32))), none, none], [], Wd f fl (va_up g 43 (upd (g 43) (l3.toNatClampNeg) l4)) gl hh v tx) P)) ∧
    ((¬ ((f 64) ≤ l5)) → WP X (d) 9 (0, [some (.ref 38), some (.ref 1), some (.int l5), some (.int l3), some (.int l2), none, none], [], Wd f fl g gl hh v tx) (fun rv w2 => WP X (d + 1) 8 (48, [some (.ref 38), some (.ref 1), some (.int l2), some (.int l3), some (.int l4), some (.int l5)], rv.toList ++ [.int l4], w2) P))) :
    WP X (d + 1) 8 (28, [some (.ref 38), some (.ref 1), some (.int l2), some (.int l3), some (.int l4), some (.int l5)], [], Wd f fl g gl hh v tx) P := by
  refine WP.run hP_8 3 (c' := (34, [some (.ref 38), some (.ref 1), some (.int l2), some (.int l3), some (.int l4), some (.int l5)], [.int (f 64), .int l5], Wd f fl g gl hh v tx)) rfl ?_
  refine WP.br hP_8 (q := (f 64) ≤ l5) (t := 59) (f := 37) (L := [some (.ref 38), some (.ref 1), some (.int l2), some (.int l3), some (.int l4), some (.int l5)]) (st := []) (w := Wd f fl g gl hh v tx) rfl (fun c1 => ?_) (fun c1 => ?_)
  · have h2 := h.1 c1
    refine WP.run hP_8 4 (c' := (66, [some (.ref 38), some (.ref 1), some (.int l2), some (.int l3), some (.int l4), none], [.int l4, .int l3, .ref 43], Wd f fl g gl hh v tx)) rfl ?_
    refine WP.of (fun _ _ => Ex.iast hP_8 (w2 := Wd f fl (va_up g 43 (upd (g 43) (l3.toNatClampNeg) l4)) gl hh v tx) rfl (Wa_43 _ _ _ _ _ _ _) h2.1 (Ws_43 _ _ _ _ _ _ _ _)) ?_
    have h3 := h2.2
    refine WP.run hP_8 2 (c' := (17, [some (.ref 38), some (.ref 1), some (.int l2), some (.int (l3 + (-1 : Int32))), some (.int l4), none], [], Wd f fl (va_up g 43 (upd (g 43) (l3.toNatClampNeg) l4)) gl hh v tx)) rfl ?_
    refine WP.clr hP_8 (pc := 17) rfl ?_
    exact h3
  · have h4 := h.2 c1
    refine WP.run hP_8 6 (c' := (45, [some (.ref 38), some (.ref 1), some (.int l2), some (.int l3), some (.int l4), some (.int l5)], [.int l2, .int l3, .int l5, .ref 1, .ref 38, .int l4], Wd f fl g gl hh v tx)) rfl ?_
    refine WP.call hP_8 hP_9 (as := [.ref 38, .ref 1, .int l5, .int l3, .int l2]) (pc' := 48) (L' := [some (.ref 38), some (.ref 1), some (.int l2), some (.int l3), some (.int l4), some (.int l5)]) (st' := [.int l4]) (w1 := Wd f fl g gl hh v tx) rfl ⟨Nat.le_of_ble_eq_true rfl, Nat.le_of_ble_eq_true rfl⟩ rfl ?_
    exact h4

set_option maxRecDepth 20000 in
theorem b_yca_pick_38_1_119 (X : mm_X) (d : Nat) (f : Nat → Int32) (fl : Nat → Int64) (g : Nat → Nat → Int32) (gl : Nat → Nat → Int64) (hh : Nat → Nat → Option Nat) (v : Nat → Value) (tx : mm_W) (l2 : Int32) (l3 : Int32) (l4 : Int32)  (P : Option Value → mm_W → Prop)
    (h : ((((f 64) - (1 : Int32)) ≤ l4) → ((¬ ((f 2437) < 0 ∨ 12 ≤ (f 2437).toNatClampNeg)) ∧ ((¬ (l4 < 0 ∨ 8 ≤ l4.toNatClampNeg)) ∧ WP X (d + 1) 8 (90, [some (.ref 38), some (.ref 1), some (.int l2), some (.int (l3 + (if 1 < ((g 3) l4.toNatClampNeg) then ((g 3) l4.toNatClampNeg) else 1))), none, none], [], Wd (va_up f 2437 ((f 2437) + (1 : Int32))) fl (va_up g 44 (upd (g 44) ((f 2437).toNatClampNeg) l4)) gl hh v tx) P))) ∧
    ((¬ (((f 64) - (1 : Int32)) ≤ l4)) → WP X (d) 9 (0, [some (.ref 38), some (.ref 1), some (.int l4), some (.int l3), some (.int l2), none, none], [], Wd f fl g gl hh v tx) (fun rv w2 => WP X (d + 1) 8 (139, [some (.ref 38), some (.ref 1), some (.int l2), some (.int l3), some (.int l4), none], rv.toList ++ [], w2) P))) :
    WP X (d + 1) 8 (119, [some (.ref 38), some (.ref 1), some (.int l2), some (.int l3), some (.int l4), none], [], Wd f fl g gl hh v tx) P := by
  refine WP.run hP_8 5 (c' := (127, [some (.ref 38), some (.ref 1), some (.int l2), some (.int l3), some (.int l4), none], [.int ((f 64) - (1 : Int32)), .int l4], Wd f fl g gl hh v tx)) rfl ?_
  refine WP.br hP_8 (q := ((f 64) - (1 : Int32)) ≤ l4) (t := 154) (f := 130) (L := [some (.ref 38), some (.ref 1), some (.int l2), some (.int l3), some (.int l4), none]) (st := []) (w := Wd f fl g gl hh v tx) rfl (fun c1 => ?_) (fun c1 => ?_)
  · have h2 := h.1 c1
    refine WP.run hP_8 5 (c' := (164, [some (.ref 38), some (.ref 1), some (.int l2), some (.int l3), some (.int l4), none], [.int l4, .int (f 2437), .ref 44], Wd f fl g gl hh v tx)) rfl ?_
    refine WP.of (fun _ _ => Ex.iast hP_8 (w2 := Wd f fl (va_up g 44 (upd (g 44) ((f 2437).toNatClampNeg) l4)) gl hh v tx) rfl (Wa_44 _ _ _ _ _ _ _) h2.1 (Ws_44 _ _ _ _ _ _ _ _)) ?_
    have h3 := h2.2
    refine WP.run hP_8 11 (c' := (183, [some (.ref 38), some (.ref 1), some (.int l2), some (.int l3), some (.int l4), none], [.int l4, .ref 3, .int 1, .int l3], Wd (va_up f 2437 ((f 2437) + (1 : Int32))) fl (va_up g 44 (upd (g 44) ((f 2437).toNatClampNeg) l4)) gl hh v tx)) rfl ?_
    refine WP.of (fun _ _ => Ex.iald hP_8 rfl (Wa_3 _ _ _ _ _ _ _) h3.1) ?_
    have h4 := h3.2
    refine WP.run hP_8 4 (c' := (90, [some (.ref 38), some (.ref 1), some (.int l2), some (.int (l3 + (if 1 < ((g 3) l4.toNatClampNeg) then ((g 3) l4.toNatClampNeg) else 1))), some (.int l4), none], [], Wd (va_up f 2437 ((f 2437) + (1 : Int32))) fl (va_up g 44 (upd (g 44) ((f 2437).toNatClampNeg) l4)) gl hh v tx)) rfl ?_
    refine WP.clr hP_8 (pc := 90) rfl ?_
    exact h4
  · have h5 := h.2 c1
    refine WP.run hP_8 5 (c' := (136, [some (.ref 38), some (.ref 1), some (.int l2), some (.int l3), some (.int l4), none], [.int l2, .int l3, .int l4, .ref 1, .ref 38], Wd f fl g gl hh v tx)) rfl ?_
    refine WP.call hP_8 hP_9 (as := [.ref 38, .ref 1, .int l4, .int l3, .int l2]) (pc' := 139) (L' := [some (.ref 38), some (.ref 1), some (.int l2), some (.int l3), some (.int l4), none]) (st' := []) (w1 := Wd f fl g gl hh v tx) rfl ⟨Nat.le_of_ble_eq_true rfl, Nat.le_of_ble_eq_true rfl⟩ rfl ?_
    exact h5

set_option maxRecDepth 20000 in
theorem b_yca_pick_38_1_48 (X : mm_X) (d : Nat) (f : Nat → Int32) (fl : Nat → Int64) (g : Nat → Nat → Int32) (gl : Nat → Nat → Int64) (hh : Nat → Nat → Option Nat) (v : Nat → Value) (tx : mm_W) (l2 : Int32) (l3 : Int32) (l4 : Int32) (l5 : Int32) (s0 : Int32) (s1 : Int32)  (P : Option Value → mm_W → Prop)
    (h : WP X (d) 8 (28, [some (.ref 38), some (.ref 1), some (.int l2), some (.int l3), some (.int (if s0 < s1 then s0 else s1)), some (.int (l5 + (1 : Int32)))], [], Wd f fl g gl hh v tx) P) :
    WP X (d) 8 (48, [some (.ref 38), some (.ref 1), some (.int l2), some (.int l3), some (.int l4), some (.int l5)], [.int s0, .int s1], Wd f fl g gl hh v tx) P := by
  refine WP.run hP_8 2 (c' := (53, [some (.ref 38), some (.ref 1), some (.int l2), some (.int l3), some (.int (if s0 < s1 then s0 else s1)), some (.int l5)], [], Wd f fl g gl hh v tx)) rfl ?_
  refine WP.run hP_8 2 (c' := (28, [some (.ref 38), some (.ref 1), some (.int l2), some (.int l3), some (.int (if s0 < s1 then s0 else s1)), some (.int (l5 + (1 : Int32)))], [], Wd f fl g gl hh v tx)) rfl ?_
  exact h

set_option maxRecDepth 20000 in
theorem b_yca_pick_38_1_139 (X : mm_X) (d : Nat) (f : Nat → Int32) (fl : Nat → Int64) (g : Nat → Nat → Int32) (gl : Nat → Nat → Int64) (hh : Nat → Nat → Option Nat) (v : Nat → Value) (tx : mm_W) (l2 : Int32) (l3 : Int32) (l4 : Int32) (s0 : Int32)  (P : Option Value → mm_W → Prop)
    (h : (¬ (l3 < 0 ∨ 13 ≤ l3.toNatClampNeg)) ∧ (((s0 = ((g 43) l3.toNatClampNeg)) → ((¬ ((f 2437) < 0 ∨ 12 ≤ (f 2437).toNatClampNeg)) ∧ ((¬ (l4 < 0 ∨ 8 ≤ l4.toNatClampNeg)) ∧ WP X (d) 8 (90, [some (.ref 38), some (.ref 1), some (.int l2), some (.int (l3 + (if 1 < ((g 3) l4.toNatClampNeg) then ((g 3) l4.toNatClampNeg) else 1))), none, none], [], Wd (va_up f 2437 ((f 2437) + (1 : Int32))) fl (va_up g 44 (upd (g 44) ((f 2437).toNatClampNeg) l4)) gl hh v tx) P))) ∧
    ((¬ s0 = ((g 43) l3.toNatClampNeg)) → WP X (d) 8 (119, [some (.ref 38), some (.ref 1), some (.int l2), some (.int l3), some (.int (l4 + (1 : Int32))), none], [], Wd f fl g gl hh v tx) P))) :
    WP X (d) 8 (139, [some (.ref 38), some (.ref 1), some (.int l2), some (.int l3), some (.int l4), none], [.int s0], Wd f fl g gl hh v tx) P := by
  refine WP.run hP_8 3 (c' := (144, [some (.ref 38), some (.ref 1), some (.int l2), some (.int l3), some (.int l4), none], [.int l3, .ref 43, .int s0], Wd f fl g gl hh v tx)) rfl ?_
  refine WP.of (fun _ _ => Ex.iald hP_8 rfl (Wa_43 _ _ _ _ _ _ _) h.1) ?_
  have h1 := h.2
  refine WP.br hP_8 (q := s0 = ((g 43) l3.toNatClampNeg)) (t := 154) (f := 148) (L := [some (.ref 38), some (.ref 1), some (.int l2), some (.int l3), some (.int l4), none]) (st := []) (w := Wd f fl g gl hh v tx) rfl (fun c2 => ?_) (fun c2 => ?_)
  · have h3 := h1.1 c2
    refine WP.run hP_8 5 (c' := (164, [some (.ref 38), some (.ref 1), some (.int l2), some (.int l3), some (.int l4), none], [.int l4, .int (f 2437), .ref 44], Wd f fl g gl hh v tx)) rfl ?_
    refine WP.of (fun _ _ => Ex.iast hP_8 (w2 := Wd f fl (va_up g 44 (upd (g 44) ((f 2437).toNatClampNeg) l4)) gl hh v tx) rfl (Wa_44 _ _ _ _ _ _ _) h3.1 (Ws_44 _ _ _ _ _ _ _ _)) ?_
    have h4 := h3.2
    refine WP.run hP_8 11 (c' := (183, [some (.ref 38), some (.ref 1), some (.int l2), some (.int l3), some (.int l4), none], [.int l4, .ref 3, .int 1, .int l3], Wd (va_up f 2437 ((f 2437) + (1 : Int32))) fl (va_up g 44 (upd (g 44) ((f 2437).toNatClampNeg) l4)) gl hh v tx)) rfl ?_
    refine WP.of (fun _ _ => Ex.iald hP_8 rfl (Wa_3 _ _ _ _ _ _ _) h4.1) ?_
    have h5 := h4.2
    refine WP.run hP_8 4 (c' := (90, [some (.ref 38), some (.ref 1), some (.int l2), some (.int (l3 + (if 1 < ((g 3) l4.toNatClampNeg) then ((g 3) l4.toNatClampNeg) else 1))), some (.int l4), none], [], Wd (va_up f 2437 ((f 2437) + (1 : Int32))) fl (va_up g 44 (upd (g 44) ((f 2437).toNatClampNeg) l4)) gl hh v tx)) rfl ?_
    refine WP.clr hP_8 (pc := 90) rfl ?_
    exact h5
  · have h6 := h1.2 c2
    refine WP.run hP_8 2 (c' := (119, [some (.ref 38), some (.ref 1), some (.int l2), some (.int l3), some (.int (l4 + (1 : Int32))), none], [], Wd f fl g gl hh v tx)) rfl ?_
    exact h6

set_option maxRecDepth 20000 in
theorem b_yca_weighs_38_1_0 (X : mm_X) (d : Nat) (f : Nat → Int32) (fl : Nat → Int64) (g : Nat → Nat → Int32) (gl : Nat → Nat → Int64) (hh : Nat → Nat → Option Nat) (v : Nat → Value) (tx : mm_W) (p0 : Int32)  (P : Option Value → mm_W → Prop)
    (h : (¬ (p0 < 0 ∨ 8 ≤ p0.toNatClampNeg)) ∧ ((¬ (p0 < 0 ∨ 8 ≤ p0.toNatClampNeg)) ∧ WP X (d) 6 (0, [some (.ref 38), some (.int 0), some (.int ((g 4) p0.toNatClampNeg)), none, none, none], [], Wd f fl (va_up (va_up g 41 (upd (g 41) 1 p0)) 41 (upd (upd (g 41) 1 p0) 2 ((g 3) p0.toNatClampNeg))) gl hh v tx) (fun rv w2 => WP X (d + 1) 3 (30, [some (.ref 38), some (.ref 1), some (.int p0), none, none], rv.toList ++ [], w2) P))) :
    WP X (d + 1) 3 (0, [some (.ref 38), some (.ref 1), some (.int p0), none, none], [], Wd f fl g gl hh v tx) P := by
  refine WP.run hP_3 4 (c' := (6, [some (.ref 38), some (.ref 1), some (.int p0), none, none], [.int p0, .int 1, .ref 41], Wd f fl g gl hh v tx)) rfl ?_
  refine WP.of (fun _ _ => Ex.iast hP_3 (w2 := Wd f fl (va_up g 41 (upd (g 41) 1 p0)) gl hh v tx) rfl (Wa_41 _ _ _ _ _ _ _) (by decide) (Ws_41 _ _ _ _ _ _ _ _)) ?_
  refine WP.run hP_3 6 (c' := (17, [some (.ref 38), some (.ref 1), some (.int p0), none, none], [.int p0, .ref 3, .int 2, .ref 41], Wd f fl (va_up g 41 (upd (g 41) 1 p0)) gl hh v tx)) rfl ?_
  refine WP.of (fun _ _ => Ex.iald hP_3 rfl (Wa_3 _ _ _ _ _ _ _) h.1) ?_
  have h1 := h.2
  refine WP.of (fun _ _ => Ex.iast hP_3 (w2 := Wd f fl (va_up (va_up g 41 (upd (g 41) 1 p0)) 41 (upd (upd (g 41) 1 p0) 2 ((g 3) p0.toNatClampNeg))) gl hh v tx) rfl (Wa_41 _ _ _ _ _ _ _) (by decide) (Ws_41 _ _ _ _ _ _ _ _)) ?_
  refine WP.run hP_3 5 (c' := (26, [some (.ref 38), some (.ref 1), some (.int p0), none, none], [.int p0, .ref 4, .int 0, .ref 38], Wd f fl (va_up (va_up g 41 (upd (g 41) 1 p0)) 41 (upd (upd (g 41) 1 p0) 2 ((g 3) p0.toNatClampNeg))) gl hh v tx)) rfl ?_
  refine WP.of (fun _ _ => Ex.iald hP_3 rfl (Wa_4 _ _ _ _ _ _ _) h1.1) ?_
  have h2 := h1.2
  refine WP.call hP_3 hP_6 (as := [.ref 38, .int 0, .int ((g 4) p0.toNatClampNeg)]) (pc' := 30) (L' := [some (.ref 38), some (.ref 1), some (.int p0), none, none]) (st' := []) (w1 := Wd f fl (va_up (va_up g 41 (upd (g 41) 1 p0)) 41 (upd (upd (g 41) 1 p0) 2 ((g 3) p0.toNatClampNeg))) gl hh v tx) rfl ⟨Nat.le_of_ble_eq_true rfl, Nat.le_of_ble_eq_true rfl⟩ rfl ?_
  exact h2

set_option maxRecDepth 20000 in
theorem b_yca_weighs_38_1_30 (X : mm_X) (d : Nat) (f : Nat → Int32) (fl : Nat → Int64) (g : Nat → Nat → Int32) (gl : Nat → Nat → Int64) (hh : Nat → Nat → Option Nat) (v : Nat → Value) (tx : mm_W) (l2 : Int32) (s0 : Int64)  (P : Option Value → mm_W → Prop)
    (h : ((¬ (lg_cmp s0 (-9223372036854775808)) = 0) → P (some (.int (((if (if s0 < 99 then s0 else 99) < 0 then 0 else (if s0 < 99 then s0 else 99)) : Int64).toInt32))) (Wd f fl g gl hh v tx)) ∧
    (((lg_cmp s0 (-9223372036854775808)) = 0) → ((¬ (l2 < 0 ∨ 8 ≤ l2.toNatClampNeg)) ∧ P (some (.int ((g 3) l2.toNatClampNeg))) (Wd f fl g gl hh v tx)))) :
    WP X (d) 3 (30, [some (.ref 38), some (.ref 1), some (.int l2), none, none], [.long s0], Wd f fl g gl hh v tx) P := by
  refine WP.run hP_3 4 (c' := (36, [some (.ref 38), some (.ref 1), some (.int l2), some (.long s0), none], [.int (lg_cmp s0 (-9223372036854775808))], Wd f fl g gl hh v tx)) rfl ?_
  refine WP.br hP_3 (q := ¬ (lg_cmp s0 (-9223372036854775808)) = 0) (t := 48) (f := 39) (L := [some (.ref 38), some (.ref 1), some (.int l2), some (.long s0), none]) (st := []) (w := Wd f fl g gl hh v tx) rfl (fun c1 => ?_) (fun c1 => ?_)
  · have h2 := h.1 c1
    refine WP.run hP_3 6 (c' := (60, [none, none, none, some (.long s0), none], [.int (((if (if s0 < 99 then s0 else 99) < 0 then 0 else (if s0 < 99 then s0 else 99)) : Int64).toInt32)], Wd f fl g gl hh v tx)) rfl ?_
    exact WP.retI hP_3 rfl rfl h2
  · have h3 := h.2 (Classical.not_not.mp c1)
    refine WP.run hP_3 3 (c' := (44, [some (.ref 38), some (.ref 1), some (.int l2), some (.long s0), none], [.int l2, .ref 3], Wd f fl g gl hh v tx)) rfl ?_
    refine WP.of (fun _ _ => Ex.iald hP_3 rfl (Wa_3 _ _ _ _ _ _ _) h3.1) ?_
    have h4 := h3.2
    refine WP.run hP_3 1 (c' := (60, [some (.ref 38), some (.ref 1), some (.int l2), some (.long s0), none], [.int ((g 3) l2.toNatClampNeg)], Wd f fl g gl hh v tx)) rfl ?_
    exact WP.retI hP_3 rfl rfl h4

set_option maxRecDepth 20000 in
theorem b_yca_choose_1n_0 (X : mm_X) (d : Nat) (f : Nat → Int32) (fl : Nat → Int64) (g : Nat → Nat → Int32) (gl : Nat → Nat → Int64) (hh : Nat → Nat → Option Nat) (v : Nat → Value) (tx : mm_W) (p0 : Int32)  (P : Option Value → mm_W → Prop)
    (h : (¬ (p0 < 0 ∨ 3 ≤ p0.toNatClampNeg)) ∧ WP X (d + 1) 7 (10, [some (.ref 38), some (.ref 1), none, none, some (.int 0)], [], Wd (va_up f 2440 ((g 5) p0.toNatClampNeg)) fl (va_up (va_up (va_up g 41 (upd (g 41) 0 p0)) 41 (upd (upd (g 41) 0 p0) 6 ((g 8) 0))) 41 (upd (upd (upd (g 41) 0 p0) 6 ((g 8) 0)) 7 ((g 8) 2))) gl hh (va_up v 2439 (.null)) tx) P) :
    WP X (d + 1) 7 (0, [some (.ref 38), some (.ref 1), some (.int p0), some (.null), none], [], Wd f fl g gl hh v tx) P := by
  refine WP.run hP_7 4 (c' := (4, [some (.ref 38), some (.ref 1), some (.int p0), some (.null), none], [.null, .int p0, .ref 1, .ref 38], Wd f fl g gl hh v tx)) rfl ?_
  refine WP.call hP_7 hP_2 (as := [.ref 38, .ref 1, .int p0, .null]) (pc' := 7) (L' := [some (.ref 38), some (.ref 1), some (.int p0), some (.null), none]) (st' := []) (w1 := Wd f fl g gl hh v tx) rfl ⟨Nat.le_of_ble_eq_true rfl, Nat.le_of_ble_eq_true rfl⟩ rfl (b_yca_board_1n_0 X (d) f fl g gl hh v tx p0 _ ?_)
  refine ⟨h.1, ?_⟩
  have h1 := h.2
  refine WP.run hP_7 2 (c' := (10, [some (.ref 38), some (.ref 1), some (.int p0), some (.null), some (.int 0)], [], Wd (va_up f 2440 ((g 5) p0.toNatClampNeg)) fl (va_up (va_up (va_up g 41 (upd (g 41) 0 p0)) 41 (upd (upd (g 41) 0 p0) 6 ((g 8) 0))) 41 (upd (upd (upd (g 41) 0 p0) 6 ((g 8) 0)) 7 ((g 8) 2))) gl hh (va_up v 2439 (.null)) tx)) rfl ?_
  refine WP.clr hP_7 (pc := 10) rfl ?_
  exact h1

set_option maxRecDepth 20000 in
theorem b_yca_choose_1n_10 (X : mm_X) (d : Nat) (f : Nat → Int32) (fl : Nat → Int64) (g : Nat → Nat → Int32) (gl : Nat → Nat → Int64) (hh : Nat → Nat → Option Nat) (v : Nat → Value) (tx : mm_W) (l4 : Int32)  (P : Option Value → mm_W → Prop)
    (h : (((f 64) ≤ l4) → WP X (d) 8 (0, [some (.ref 38), some (.ref 1), some (.int 0), none, none, none], [], Wd f fl g gl hh v tx) (fun rv w2 => WP X (d + 1) 7 (45, [some (.ref 38), some (.ref 1), none, none, none], rv.toList ++ [], w2) P)) ∧
    ((¬ ((f 64) ≤ l4)) → WP X (d) 3 (0, [some (.ref 38), some (.ref 1), some (.int l4), none, none], [], Wd f fl g gl hh v tx) (fun rv w2 => WP X (d + 1) 7 (32, [some (.ref 38), some (.ref 1), none, none, some (.int l4)], rv.toList ++ [.int l4, .ref 42], w2) P))) :
    WP X (d + 1) 7 (10, [some (.ref 38), some (.ref 1), none, none, some (.int l4)], [], Wd f fl g gl hh v tx) P := by
  refine WP.run hP_7 3 (c' := (16, [some (.ref 38), some (.ref 1), none, none, some (.int l4)], [.int (f 64), .int l4], Wd f fl g gl hh v tx)) rfl ?_
  refine WP.br hP_7 (q := (f 64) ≤ l4) (t := 39) (f := 19) (L := [some (.ref 38), some (.ref 1), none, none, some (.int l4)]) (st := []) (w := Wd f fl g gl hh v tx) rfl (fun c1 => ?_) (fun c1 => ?_)
  · have h2 := h.1 c1
    refine WP.run hP_7 3 (c' := (42, [some (.ref 38), some (.ref 1), none, none, none], [.int 0, .ref 1, .ref 38], Wd f fl g gl hh v tx)) rfl ?_
    refine WP.call hP_7 hP_8 (as := [.ref 38, .ref 1, .int 0]) (pc' := 45) (L' := [some (.ref 38), some (.ref 1), none, none, none]) (st' := []) (w1 := Wd f fl g gl hh v tx) rfl ⟨Nat.le_of_ble_eq_true rfl, Nat.le_of_ble_eq_true rfl⟩ rfl ?_
    exact h2
  · have h3 := h.2 c1
    refine WP.run hP_7 6 (c' := (29, [some (.ref 38), some (.ref 1), none, none, some (.int l4)], [.int l4, .ref 1, .ref 38, .int l4, .ref 42], Wd f fl g gl hh v tx)) rfl ?_
    refine WP.call hP_7 hP_3 (as := [.ref 38, .ref 1, .int l4]) (pc' := 32) (L' := [some (.ref 38), some (.ref 1), none, none, some (.int l4)]) (st' := [.int l4, .ref 42]) (w1 := Wd f fl g gl hh v tx) rfl ⟨Nat.le_of_ble_eq_true rfl, Nat.le_of_ble_eq_true rfl⟩ rfl ?_
    exact h3

set_option maxRecDepth 20000 in
theorem b_yca_choose_1n_45 (X : mm_X) (d : Nat) (f : Nat → Int32) (fl : Nat → Int64) (g : Nat → Nat → Int32) (gl : Nat → Nat → Int64) (hh : Nat → Nat → Option Nat) (v : Nat → Value) (tx : mm_W) (s0 : Int32)  (P : Option Value → mm_W → Prop)
    (h : (s0 = 0 ∨ s0 = 1) ∧ P (some (.int s0)) (Wd f fl g gl hh v tx)) :
    WP X (d) 7 (45, [some (.ref 38), some (.ref 1), none, none, none], [.int s0], Wd f fl g gl hh v tx) P := by
  exact WP.retZ hP_7 rfl rfl h.1 h.2

set_option maxRecDepth 20000 in
theorem b_yca_choose_1n_32 (X : mm_X) (d : Nat) (f : Nat → Int32) (fl : Nat → Int64) (g : Nat → Nat → Int32) (gl : Nat → Nat → Int64) (hh : Nat → Nat → Option Nat) (v : Nat → Value) (tx : mm_W) (l4 : Int32) (s0 : Int32) (s1 : Int32)  (P : Option Value → mm_W → Prop)
    (h : (¬ (s1 < 0 ∨ 8 ≤ s1.toNatClampNeg)) ∧ WP X (d) 7 (10, [some (.ref 38), some (.ref 1), none, none, some (.int (l4 + (1 : Int32)))], [], Wd f fl (va_up g 42 (upd (g 42) (s1.toNatClampNeg) s0)) gl hh v tx) P) :
    WP X (d) 7 (32, [some (.ref 38), some (.ref 1), none, none, some (.int l4)], [.int s0, .int s1, .ref 42], Wd f fl g gl hh v tx) P := by
  refine WP.of (fun _ _ => Ex.iast hP_7 (w2 := Wd f fl (va_up g 42 (upd (g 42) (s1.toNatClampNeg) s0)) gl hh v tx) rfl (Wa_42 _ _ _ _ _ _ _) h.1 (Ws_42 _ _ _ _ _ _ _ _)) ?_
  have h1 := h.2
  refine WP.run hP_7 2 (c' := (10, [some (.ref 38), some (.ref 1), none, none, some (.int (l4 + (1 : Int32)))], [], Wd f fl (va_up g 42 (upd (g 42) (s1.toNatClampNeg) s0)) gl hh v tx)) rfl ?_
  exact h1

set_option maxRecDepth 20000 in
theorem b_yca_board_1t_0 (X : mm_X) (d : Nat) (f : Nat → Int32) (fl : Nat → Int64) (g : Nat → Nat → Int32) (gl : Nat → Nat → Int64) (hh : Nat → Nat → Option Nat) (v : Nat → Value) (tx : mm_W) (p0 : Int32) (t0 : Nat)  (P : Option Value → mm_W → Prop)
    (h : (¬ (p0 < 0 ∨ 3 ≤ p0.toNatClampNeg)) ∧ P none (Wd (va_up f 2440 ((g 5) p0.toNatClampNeg)) fl (va_up (va_up (va_up g 41 (upd (g 41) 0 p0)) 41 (upd (upd (g 41) 0 p0) 6 ((g 8) 0))) 41 (upd (upd (upd (g 41) 0 p0) 6 ((g 8) 0)) 7 ((g 8) 2))) gl hh (va_up v 2439 (.ref t0)) tx)) :
    WP X (d) 2 (0, [some (.ref 38), some (.ref 1), some (.int p0), some (.ref t0)], [], Wd f fl g gl hh v tx) P := by
  refine WP.run hP_2 7 (c' := (11, [some (.ref 38), some (.ref 1), some (.int p0), some (.ref t0)], [.int p0, .ref 5, .ref 38], Wd f fl g gl hh (va_up v 2439 (.ref t0)) tx)) rfl ?_
  refine WP.of (fun _ _ => Ex.iald hP_2 rfl (Wa_5 _ _ _ _ _ _ _) h.1) ?_
  have h1 := h.2
  refine WP.run hP_2 5 (c' := (21, [some (.ref 38), some (.ref 1), some (.int p0), some (.ref t0)], [.int p0, .int 0, .ref 41], Wd (va_up f 2440 ((g 5) p0.toNatClampNeg)) fl g gl hh (va_up v 2439 (.ref t0)) tx)) rfl ?_
  refine WP.of (fun _ _ => Ex.iast hP_2 (w2 := Wd (va_up f 2440 ((g 5) p0.toNatClampNeg)) fl (va_up g 41 (upd (g 41) 0 p0)) gl hh (va_up v 2439 (.ref t0)) tx) rfl (Wa_41 _ _ _ _ _ _ _) (by decide) (Ws_41 _ _ _ _ _ _ _ _)) ?_
  refine WP.run hP_2 6 (c' := (33, [some (.ref 38), some (.ref 1), some (.int p0), some (.ref t0)], [.int 0, .ref 8, .int 6, .ref 41], Wd (va_up f 2440 ((g 5) p0.toNatClampNeg)) fl (va_up g 41 (upd (g 41) 0 p0)) gl hh (va_up v 2439 (.ref t0)) tx)) rfl ?_
  refine WP.of (fun _ _ => Ex.iald hP_2 rfl (Wa_8 _ _ _ _ _ _ _) (by decide)) ?_
  show WP X _ 2 (34, [some (.ref 38), some (.ref 1), some (.int p0), some (.ref t0)], [.int ((g 8) 0), .int 6, .ref 41], Wd (va_up f 2440 ((g 5) p0.toNatClampNeg)) fl (va_up g 41 (upd (g 41) 0 p0)) gl hh (va_up v 2439 (.ref t0)) tx) P
  refine WP.of (fun _ _ => Ex.iast hP_2 (w2 := Wd (va_up f 2440 ((g 5) p0.toNatClampNeg)) fl (va_up (va_up g 41 (upd (g 41) 0 p0)) 41 (upd (upd (g 41) 0 p0) 6 ((g 8) 0))) gl hh (va_up v 2439 (.ref t0)) tx) rfl (Wa_41 _ _ _ _ _ _ _) (by decide) (Ws_41 _ _ _ _ _ _ _ _)) ?_
  refine WP.run hP_2 6 (c' := (46, [some (.ref 38), some (.ref 1), some (.int p0), some (.ref t0)], [.int 2, .ref 8, .int 7, .ref 41], Wd (va_up f 2440 ((g 5) p0.toNatClampNeg)) fl (va_up (va_up g 41 (upd (g 41) 0 p0)) 41 (upd (upd (g 41) 0 p0) 6 ((g 8) 0))) gl hh (va_up v 2439 (.ref t0)) tx)) rfl ?_
  refine WP.of (fun _ _ => Ex.iald hP_2 rfl (Wa_8 _ _ _ _ _ _ _) (by decide)) ?_
  show WP X _ 2 (47, [some (.ref 38), some (.ref 1), some (.int p0), some (.ref t0)], [.int ((g 8) 2), .int 7, .ref 41], Wd (va_up f 2440 ((g 5) p0.toNatClampNeg)) fl (va_up (va_up g 41 (upd (g 41) 0 p0)) 41 (upd (upd (g 41) 0 p0) 6 ((g 8) 0))) gl hh (va_up v 2439 (.ref t0)) tx) P
  refine WP.of (fun _ _ => Ex.iast hP_2 (w2 := Wd (va_up f 2440 ((g 5) p0.toNatClampNeg)) fl (va_up (va_up (va_up g 41 (upd (g 41) 0 p0)) 41 (upd (upd (g 41) 0 p0) 6 ((g 8) 0))) 41 (upd (upd (upd (g 41) 0 p0) 6 ((g 8) 0)) 7 ((g 8) 2))) gl hh (va_up v 2439 (.ref t0)) tx) rfl (Wa_41 _ _ _ _ _ _ _) (by decide) (Ws_41 _ _ _ _ _ _ _ _)) ?_
  exact WP.ret hP_2 (r := none) (w' := Wd (va_up f 2440 ((g 5) p0.toNatClampNeg)) fl (va_up (va_up (va_up g 41 (upd (g 41) 0 p0)) 41 (upd (upd (g 41) 0 p0) 6 ((g 8) 0))) 41 (upd (upd (upd (g 41) 0 p0) 6 ((g 8) 0)) 7 ((g 8) 2))) gl hh (va_up v 2439 (.ref t0)) tx) rfl h1

set_option maxRecDepth 20000 in
theorem b_yca_choose_1t_0 (X : mm_X) (d : Nat) (f : Nat → Int32) (fl : Nat → Int64) (g : Nat → Nat → Int32) (gl : Nat → Nat → Int64) (hh : Nat → Nat → Option Nat) (v : Nat → Value) (tx : mm_W) (p0 : Int32) (t0 : Nat)  (P : Option Value → mm_W → Prop)
    (h : (¬ (p0 < 0 ∨ 3 ≤ p0.toNatClampNeg)) ∧ WP X (d + 1) 7 (10, [some (.ref 38), some (.ref 1), none, none, some (.int 0)], [], Wd (va_up f 2440 ((g 5) p0.toNatClampNeg)) fl (va_up (va_up (va_up g 41 (upd (g 41) 0 p0)) 41 (upd (upd (g 41) 0 p0) 6 ((g 8) 0))) 41 (upd (upd (upd (g 41) 0 p0) 6 ((g 8) 0)) 7 ((g 8) 2))) gl hh (va_up v 2439 (.ref t0)) tx) P) :
    WP X (d + 1) 7 (0, [some (.ref 38), some (.ref 1), some (.int p0), some (.ref t0), none], [], Wd f fl g gl hh v tx) P := by
  refine WP.run hP_7 4 (c' := (4, [some (.ref 38), some (.ref 1), some (.int p0), some (.ref t0), none], [.ref t0, .int p0, .ref 1, .ref 38], Wd f fl g gl hh v tx)) rfl ?_
  refine WP.call hP_7 hP_2 (as := [.ref 38, .ref 1, .int p0, .ref t0]) (pc' := 7) (L' := [some (.ref 38), some (.ref 1), some (.int p0), some (.ref t0), none]) (st' := []) (w1 := Wd f fl g gl hh v tx) rfl ⟨Nat.le_of_ble_eq_true rfl, Nat.le_of_ble_eq_true rfl⟩ rfl (b_yca_board_1t_0 X (d) f fl g gl hh v tx p0 _ ?_)
  refine ⟨h.1, ?_⟩
  have h1 := h.2
  refine WP.run hP_7 2 (c' := (10, [some (.ref 38), some (.ref 1), some (.int p0), some (.ref t0), some (.int 0)], [], Wd (va_up f 2440 ((g 5) p0.toNatClampNeg)) fl (va_up (va_up (va_up g 41 (upd (g 41) 0 p0)) 41 (upd (upd (g 41) 0 p0) 6 ((g 8) 0))) 41 (upd (upd (upd (g 41) 0 p0) 6 ((g 8) 0)) 7 ((g 8) 2))) gl hh (va_up v 2439 (.ref t0)) tx)) rfl ?_
  refine WP.clr hP_7 (pc := 10) rfl ?_
  exact h1

set_option maxRecDepth 20000 in
theorem b_yca_choose_1t_10 (X : mm_X) (d : Nat) (f : Nat → Int32) (fl : Nat → Int64) (g : Nat → Nat → Int32) (gl : Nat → Nat → Int64) (hh : Nat → Nat → Option Nat) (v : Nat → Value) (tx : mm_W) (l4 : Int32)  (P : Option Value → mm_W → Prop)
    (h : (((f 64) ≤ l4) → WP X (d) 8 (0, [some (.ref 38), some (.ref 1), some (.int 0), none, none, none], [], Wd f fl g gl hh v tx) (fun rv w2 => WP X (d + 1) 7 (45, [some (.ref 38), some (.ref 1), none, none, none], rv.toList ++ [], w2) P)) ∧
    ((¬ ((f 64) ≤ l4)) → WP X (d) 3 (0, [some (.ref 38), some (.ref 1), some (.int l4), none, none], [], Wd f fl g gl hh v tx) (fun rv w2 => WP X (d + 1) 7 (32, [some (.ref 38), some (.ref 1), none, none, some (.int l4)], rv.toList ++ [.int l4, .ref 42], w2) P))) :
    WP X (d + 1) 7 (10, [some (.ref 38), some (.ref 1), none, none, some (.int l4)], [], Wd f fl g gl hh v tx) P := by
  refine WP.run hP_7 3 (c' := (16, [some (.ref 38), some (.ref 1), none, none, some (.int l4)], [.int (f 64), .int l4], Wd f fl g gl hh v tx)) rfl ?_
  refine WP.br hP_7 (q := (f 64) ≤ l4) (t := 39) (f := 19) (L := [some (.ref 38), some (.ref 1), none, none, some (.int l4)]) (st := []) (w := Wd f fl g gl hh v tx) rfl (fun c1 => ?_) (fun c1 => ?_)
  · have h2 := h.1 c1
    refine WP.run hP_7 3 (c' := (42, [some (.ref 38), some (.ref 1), none, none, none], [.int 0, .ref 1, .ref 38], Wd f fl g gl hh v tx)) rfl ?_
    refine WP.call hP_7 hP_8 (as := [.ref 38, .ref 1, .int 0]) (pc' := 45) (L' := [some (.ref 38), some (.ref 1), none, none, none]) (st' := []) (w1 := Wd f fl g gl hh v tx) rfl ⟨Nat.le_of_ble_eq_true rfl, Nat.le_of_ble_eq_true rfl⟩ rfl ?_
    exact h2
  · have h3 := h.2 c1
    refine WP.run hP_7 6 (c' := (29, [some (.ref 38), some (.ref 1), none, none, some (.int l4)], [.int l4, .ref 1, .ref 38, .int l4, .ref 42], Wd f fl g gl hh v tx)) rfl ?_
    refine WP.call hP_7 hP_3 (as := [.ref 38, .ref 1, .int l4]) (pc' := 32) (L' := [some (.ref 38), some (.ref 1), none, none, some (.int l4)]) (st' := [.int l4, .ref 42]) (w1 := Wd f fl g gl hh v tx) rfl ⟨Nat.le_of_ble_eq_true rfl, Nat.le_of_ble_eq_true rfl⟩ rfl ?_
    exact h3

set_option maxRecDepth 20000 in
theorem b_yca_choose_1t_45 (X : mm_X) (d : Nat) (f : Nat → Int32) (fl : Nat → Int64) (g : Nat → Nat → Int32) (gl : Nat → Nat → Int64) (hh : Nat → Nat → Option Nat) (v : Nat → Value) (tx : mm_W) (s0 : Int32)  (P : Option Value → mm_W → Prop)
    (h : (s0 = 0 ∨ s0 = 1) ∧ P (some (.int s0)) (Wd f fl g gl hh v tx)) :
    WP X (d) 7 (45, [some (.ref 38), some (.ref 1), none, none, none], [.int s0], Wd f fl g gl hh v tx) P := by
  exact WP.retZ hP_7 rfl rfl h.1 h.2

set_option maxRecDepth 20000 in
theorem b_yca_choose_1t_32 (X : mm_X) (d : Nat) (f : Nat → Int32) (fl : Nat → Int64) (g : Nat → Nat → Int32) (gl : Nat → Nat → Int64) (hh : Nat → Nat → Option Nat) (v : Nat → Value) (tx : mm_W) (l4 : Int32) (s0 : Int32) (s1 : Int32)  (P : Option Value → mm_W → Prop)
    (h : (¬ (s1 < 0 ∨ 8 ≤ s1.toNatClampNeg)) ∧ WP X (d) 7 (10, [some (.ref 38), some (.ref 1), none, none, some (.int (l4 + (1 : Int32)))], [], Wd f fl (va_up g 42 (upd (g 42) (s1.toNatClampNeg) s0)) gl hh v tx) P) :
    WP X (d) 7 (32, [some (.ref 38), some (.ref 1), none, none, some (.int l4)], [.int s0, .int s1, .ref 42], Wd f fl g gl hh v tx) P := by
  refine WP.of (fun _ _ => Ex.iast hP_7 (w2 := Wd f fl (va_up g 42 (upd (g 42) (s1.toNatClampNeg) s0)) gl hh v tx) rfl (Wa_42 _ _ _ _ _ _ _) h.1 (Ws_42 _ _ _ _ _ _ _ _)) ?_
  have h1 := h.2
  refine WP.run hP_7 2 (c' := (10, [some (.ref 38), some (.ref 1), none, none, some (.int (l4 + (1 : Int32)))], [], Wd f fl (va_up g 42 (upd (g 42) (s1.toNatClampNeg) s0)) gl hh v tx)) rfl ?_
  exact h1

set_option maxRecDepth 20000 in
theorem b_yca_barred_38_0 (X : mm_X) (d : Nat) (f : Nat → Int32) (fl : Nat → Int64) (g : Nat → Nat → Int32) (gl : Nat → Nat → Int64) (hh : Nat → Nat → Option Nat) (v : Nat → Value) (tx : mm_W) (p0 : Int32)  (P : Option Value → mm_W → Prop)
    (h : WP X (d) 6 (0, [some (.ref 38), some (.int 2), some (.int p0), none, none, none], [], Wd f fl (va_up (va_up g 41 (upd (g 41) 1 (-1))) 41 (upd (upd (g 41) 1 (-1)) 2 (-1))) gl hh v tx) (fun rv w2 => WP X (d + 1) 5 (20, [some (.ref 38), some (.int p0)], rv.toList ++ [], w2) P)) :
    WP X (d + 1) 5 (0, [some (.ref 38), some (.int p0)], [], Wd f fl g gl hh v tx) P := by
  refine WP.run hP_5 4 (c' := (6, [some (.ref 38), some (.int p0)], [.int (-1), .int 1, .ref 41], Wd f fl g gl hh v tx)) rfl ?_
  refine WP.of (fun _ _ => Ex.iast hP_5 (w2 := Wd f fl (va_up g 41 (upd (g 41) 1 (-1))) gl hh v tx) rfl (Wa_41 _ _ _ _ _ _ _) (by decide) (Ws_41 _ _ _ _ _ _ _ _)) ?_
  refine WP.run hP_5 4 (c' := (13, [some (.ref 38), some (.int p0)], [.int (-1), .int 2, .ref 41], Wd f fl (va_up g 41 (upd (g 41) 1 (-1))) gl hh v tx)) rfl ?_
  refine WP.of (fun _ _ => Ex.iast hP_5 (w2 := Wd f fl (va_up (va_up g 41 (upd (g 41) 1 (-1))) 41 (upd (upd (g 41) 1 (-1)) 2 (-1))) gl hh v tx) rfl (Wa_41 _ _ _ _ _ _ _) (by decide) (Ws_41 _ _ _ _ _ _ _ _)) ?_
  refine WP.run hP_5 3 (c' := (17, [some (.ref 38), some (.int p0)], [.int p0, .int 2, .ref 38], Wd f fl (va_up (va_up g 41 (upd (g 41) 1 (-1))) 41 (upd (upd (g 41) 1 (-1)) 2 (-1))) gl hh v tx)) rfl ?_
  refine WP.call hP_5 hP_6 (as := [.ref 38, .int 2, .int p0]) (pc' := 20) (L' := [some (.ref 38), some (.int p0)]) (st' := []) (w1 := Wd f fl (va_up (va_up g 41 (upd (g 41) 1 (-1))) 41 (upd (upd (g 41) 1 (-1)) 2 (-1))) gl hh v tx) rfl ⟨Nat.le_of_ble_eq_true rfl, Nat.le_of_ble_eq_true rfl⟩ rfl ?_
  exact h

set_option maxRecDepth 20000 in
theorem b_yca_barred_38_20 (X : mm_X) (d : Nat) (f : Nat → Int32) (fl : Nat → Int64) (g : Nat → Nat → Int32) (gl : Nat → Nat → Int64) (hh : Nat → Nat → Option Nat) (v : Nat → Value) (tx : mm_W) (l1 : Int32) (s0 : Int64)  (P : Option Value → mm_W → Prop)
    (h : (((lg_cmp s0 (-9223372036854775808)) = 0) → P (some (.int 0)) (Wd f fl g gl hh v tx)) ∧
    ((¬ (lg_cmp s0 (-9223372036854775808)) = 0) → P (some (.int 1)) (Wd f fl g gl hh v tx))) :
    WP X (d) 5 (20, [some (.ref 38), some (.int l1)], [.long s0], Wd f fl g gl hh v tx) P := by
  refine WP.run hP_5 2 (c' := (24, [some (.ref 38), some (.int l1)], [.int (lg_cmp s0 (-9223372036854775808))], Wd f fl g gl hh v tx)) rfl ?_
  refine WP.br hP_5 (q := (lg_cmp s0 (-9223372036854775808)) = 0) (t := 31) (f := 27) (L := [some (.ref 38), some (.int l1)]) (st := []) (w := Wd f fl g gl hh v tx) rfl (fun c1 => ?_) (fun c1 => ?_)
  · have h2 := h.1 c1
    refine WP.run hP_5 1 (c' := (32, [none, none], [.int 0], Wd f fl g gl hh v tx)) rfl ?_
    exact WP.ret hP_5 (r := some (.int 0)) (w' := Wd f fl g gl hh v tx) rfl h2
  · have h3 := h.2 c1
    refine WP.run hP_5 2 (c' := (32, [some (.ref 38), some (.int l1)], [.int 1], Wd f fl g gl hh v tx)) rfl ?_
    exact WP.ret hP_5 (r := some (.int 1)) (w' := Wd f fl g gl hh v tx) rfl h3

set_option maxRecDepth 20000 in
theorem b_x_facesOf_0 (X : mm_X) (d : Nat) (f : Nat → Int32) (fl : Nat → Int64) (g : Nat → Nat → Int32) (gl : Nat → Nat → Int64) (hh : Nat → Nat → Option Nat) (v : Nat → Value) (tx : mm_W) (p0 : Int32)  (P : Option Value → mm_W → Prop)
    (h : P (some (.int ((p0 / (10 : Int32)) - ((p0 / (10 : Int32)) / (4 : Int32)) * (4 : Int32)))) (Wd f fl g gl hh v tx)) :
    WP X (d) 111 (0, [some (.int p0)], [], Wd f fl g gl hh v tx) P := by
  refine WP.run hP_111 5 (c' := (6, [some (.int p0)], [.int ((p0 / (10 : Int32)) - ((p0 / (10 : Int32)) / (4 : Int32)) * (4 : Int32))], Wd f fl g gl hh v tx)) rfl ?_
  exact WP.retI hP_111 rfl rfl h

set_option maxRecDepth 20000 in
theorem b_x_cellOf_0 (X : mm_X) (d : Nat) (f : Nat → Int32) (fl : Nat → Int64) (g : Nat → Nat → Int32) (gl : Nat → Nat → Int64) (hh : Nat → Nat → Option Nat) (v : Nat → Value) (tx : mm_W) (p0 : Int32)  (P : Option Value → mm_W → Prop)
    (h : P (some (.int (p0 / (40 : Int32)))) (Wd f fl g gl hh v tx)) :
    WP X (d) 110 (0, [some (.int p0)], [], Wd f fl g gl hh v tx) P := by
  refine WP.run hP_110 3 (c' := (4, [some (.int p0)], [.int (p0 / (40 : Int32))], Wd f fl g gl hh v tx)) rfl ?_
  exact WP.retI hP_110 rfl rfl h

set_option maxRecDepth 20000 in
theorem b_x_ahead_0 (X : mm_X) (d : Nat) (f : Nat → Int32) (fl : Nat → Int64) (g : Nat → Nat → Int32) (gl : Nat → Nat → Int64) (hh : Nat → Nat → Option Nat) (v : Nat → Value) (tx : mm_W) (p0 : Int32) (p1 : Int32) (p2 : Int32)  (P : Option Value → mm_W → Prop)
    (h : ((p1 = 0) → P (some (.int (p0 + ((5 : Int32) * (if ((4 : Int32) - (p0 / (5 : Int32))) < p2 then ((4 : Int32) - (p0 / (5 : Int32))) else p2))))) (Wd f fl g gl hh v tx)) ∧
    ((¬ p1 = 0) → (((p1 = 1) → P (some (.int (p0 + (if ((4 : Int32) - (p0 - (p0 / (5 : Int32)) * (5 : Int32))) < p2 then ((4 : Int32) - (p0 - (p0 / (5 : Int32)) * (5 : Int32))) else p2)))) (Wd f fl g gl hh v tx)) ∧
      ((¬ p1 = 1) → (((p1 = 2) → P (some (.int (p0 - ((5 : Int32) * (if (p0 / (5 : Int32)) < p2 then (p0 / (5 : Int32)) else p2))))) (Wd f fl g gl hh v tx)) ∧
        ((¬ p1 = 2) → P (some (.int (p0 - (if (p0 - (p0 / (5 : Int32)) * (5 : Int32)) < p2 then (p0 - (p0 / (5 : Int32)) * (5 : Int32)) else p2)))) (Wd f fl g gl hh v tx))))))) :
    WP X (d) 115 (0, [some (.int p0), some (.int p1), some (.int p2), none, none], [], Wd f fl g gl hh v tx) P := by
  refine WP.run hP_115 7 (c' := (7, [some (.int p0), some (.int p1), some (.int p2), some (.int (p0 - (p0 / (5 : Int32)) * (5 : Int32))), none], [.int (p0 / (5 : Int32))], Wd f fl g gl hh v tx)) rfl ?_
  refine WP.run hP_115 2 (c' := (10, [some (.int p0), some (.int p1), some (.int p2), some (.int (p0 - (p0 / (5 : Int32)) * (5 : Int32))), some (.int (p0 / (5 : Int32)))], [.int p1], Wd f fl g gl hh v tx)) rfl ?_
  refine WP.run hP_115 1 (c' := (mm_sw p1 0 [36, 49, 59] 70, [some (.int p0), some (.int p1), some (.int p2), some (.int (p0 - (p0 / (5 : Int32)) * (5 : Int32))), some (.int (p0 / (5 : Int32)))], [], Wd f fl g gl hh v tx)) rfl ?_
  refine WP.sw (lo' := 1) rfl (fun c1 => ?_) (fun c1 => ?_)
  · have h2 := h.1 c1
    refine WP.run hP_115 9 (c' := (48, [some (.int p0), none, some (.int p2), none, some (.int (p0 / (5 : Int32)))], [.int (p0 + ((5 : Int32) * (if ((4 : Int32) - (p0 / (5 : Int32))) < p2 then ((4 : Int32) - (p0 / (5 : Int32))) else p2)))], Wd f fl g gl hh v tx)) rfl ?_
    exact WP.retI hP_115 rfl rfl h2
  · have h3 := h.2 c1
    refine WP.sw (lo' := 2) rfl (fun c4 => ?_) (fun c4 => ?_)
    · have h5 := h3.1 c4
      refine WP.run hP_115 7 (c' := (58, [some (.int p0), none, some (.int p2), some (.int (p0 - (p0 / (5 : Int32)) * (5 : Int32))), none], [.int (p0 + (if ((4 : Int32) - (p0 - (p0 / (5 : Int32)) * (5 : Int32))) < p2 then ((4 : Int32) - (p0 - (p0 / (5 : Int32)) * (5 : Int32))) else p2))], Wd f fl g gl hh v tx)) rfl ?_
      exact WP.retI hP_115 rfl rfl h5
    · have h6 := h3.2 c4
      refine WP.sw (lo' := 3) rfl (fun c7 => ?_) (fun c7 => ?_)
      · have h8 := h6.1 c7
        refine WP.run hP_115 7 (c' := (69, [some (.int p0), none, some (.int p2), none, some (.int (p0 / (5 : Int32)))], [.int (p0 - ((5 : Int32) * (if (p0 / (5 : Int32)) < p2 then (p0 / (5 : Int32)) else p2)))], Wd f fl g gl hh v tx)) rfl ?_
        exact WP.retI hP_115 rfl rfl h8
      · have h9 := h6.2 c7
        show WP X _ 115 (70, [some (.int p0), some (.int p1), some (.int p2), some (.int (p0 - (p0 / (5 : Int32)) * (5 : Int32))), some (.int (p0 / (5 : Int32)))], [], Wd f fl g gl hh v tx) P
        refine WP.run hP_115 5 (c' := (77, [some (.int p0), none, some (.int p2), some (.int (p0 - (p0 / (5 : Int32)) * (5 : Int32))), none], [.int (p0 - (if (p0 - (p0 / (5 : Int32)) * (5 : Int32)) < p2 then (p0 - (p0 / (5 : Int32)) * (5 : Int32)) else p2))], Wd f fl g gl hh v tx)) rfl ?_
        exact WP.retI hP_115 rfl rfl h9

set_option maxRecDepth 20000 in
theorem b_x_powderOf_0 (X : mm_X) (d : Nat) (f : Nat → Int32) (fl : Nat → Int64) (g : Nat → Nat → Int32) (gl : Nat → Nat → Int64) (hh : Nat → Nat → Option Nat) (v : Nat → Value) (tx : mm_W) (p0 : Int32)  (P : Option Value → mm_W → Prop)
    (h : P (some (.int (p0 - (p0 / (10 : Int32)) * (10 : Int32)))) (Wd f fl g gl hh v tx)) :
    WP X (d) 112 (0, [some (.int p0)], [], Wd f fl g gl hh v tx) P := by
  refine WP.run hP_112 3 (c' := (4, [some (.int p0)], [.int (p0 - (p0 / (10 : Int32)) * (10 : Int32))], Wd f fl g gl hh v tx)) rfl ?_
  exact WP.retI hP_112 rfl rfl h

set_option maxRecDepth 20000 in
theorem b_x_behind_0 (X : mm_X) (d : Nat) (f : Nat → Int32) (fl : Nat → Int64) (g : Nat → Nat → Int32) (gl : Nat → Nat → Int64) (hh : Nat → Nat → Option Nat) (v : Nat → Value) (tx : mm_W) (p0 : Int32) (p1 : Int32) (p2 : Int32)  (P : Option Value → mm_W → Prop)
    (h : ((p1 = 0) → (((((p0 / (10 : Int32)) - ((p0 / (10 : Int32)) / (4 : Int32)) * (4 : Int32)) = 0) → P (some (.int (p0 + (((((p0 / (40 : Int32)) + ((5 : Int32) * (if ((4 : Int32) - ((p0 / (40 : Int32)) / (5 : Int32))) < p2 then ((4 : Int32) - ((p0 / (40 : Int32)) / (5 : Int32))) else p2))) - (p0 / (40 : Int32))) * (4 : Int32)) * (10 : Int32))))) (Wd f fl g gl hh v tx)) ∧
      ((¬ ((p0 / (10 : Int32)) - ((p0 / (10 : Int32)) / (4 : Int32)) * (4 : Int32)) = 0) → (((((p0 / (10 : Int32)) - ((p0 / (10 : Int32)) / (4 : Int32)) * (4 : Int32)) = 1) → P (some (.int (p0 + (((((p0 / (40 : Int32)) + (if ((4 : Int32) - ((p0 / (40 : Int32)) - ((p0 / (40 : Int32)) / (5 : Int32)) * (5 : Int32))) < p2 then ((4 : Int32) - ((p0 / (40 : Int32)) - ((p0 / (40 : Int32)) / (5 : Int32)) * (5 : Int32))) else p2)) - (p0 / (40 : Int32))) * (4 : Int32)) * (10 : Int32))))) (Wd f fl g gl hh v tx)) ∧
        ((¬ ((p0 / (10 : Int32)) - ((p0 / (10 : Int32)) / (4 : Int32)) * (4 : Int32)) = 1) → (((((p0 / (10 : Int32)) - ((p0 / (10 : Int32)) / (4 : Int32)) * (4 : Int32)) = 2) → P (some (.int (p0 + (((((p0 / (40 : Int32)) - ((5 : Int32) * (if ((p0 / (40 : Int32)) / (5 : Int32)) < p2 then ((p0 / (40 : Int32)) / (5 : Int32)) else p2))) - (p0 / (40 : Int32))) * (4 : Int32)) * (10 : Int32))))) (Wd f fl g gl hh v tx)) ∧
          ((¬ ((p0 / (10 : Int32)) - ((p0 / (10 : Int32)) / (4 : Int32)) * (4 : Int32)) = 2) → P (some (.int (p0 + (((((p0 / (40 : Int32)) - (if ((p0 / (40 : Int32)) - ((p0 / (40 : Int32)) / (5 : Int32)) * (5 : Int32)) < p2 then ((p0 / (40 : Int32)) - ((p0 / (40 : Int32)) / (5 : Int32)) * (5 : Int32)) else p2)) - (p0 / (40 : Int32))) * (4 : Int32)) * (10 : Int32))))) (Wd f fl g gl hh v tx)))))))) ∧
    ((¬ p1 = 0) → (((p1 = 1) → P (some (.int (p0 + ((((((p0 / (10 : Int32)) - ((p0 / (10 : Int32)) / (4 : Int32)) * (4 : Int32)) + (3 : Int32)) - ((((p0 / (10 : Int32)) - ((p0 / (10 : Int32)) / (4 : Int32)) * (4 : Int32)) + (3 : Int32)) / (4 : Int32)) * (4 : Int32)) - ((p0 / (10 : Int32)) - ((p0 / (10 : Int32)) / (4 : Int32)) * (4 : Int32))) * (10 : Int32))))) (Wd f fl g gl hh v tx)) ∧
      ((¬ p1 = 1) → (((p1 = 2) → P (some (.int (p0 + ((((((p0 / (10 : Int32)) - ((p0 / (10 : Int32)) / (4 : Int32)) * (4 : Int32)) + (1 : Int32)) - ((((p0 / (10 : Int32)) - ((p0 / (10 : Int32)) / (4 : Int32)) * (4 : Int32)) + (1 : Int32)) / (4 : Int32)) * (4 : Int32)) - ((p0 / (10 : Int32)) - ((p0 / (10 : Int32)) / (4 : Int32)) * (4 : Int32))) * (10 : Int32))))) (Wd f fl g gl hh v tx)) ∧
        ((¬ p1 = 2) → (((p1 = 3) → P (some (.int (p0 + ((((((p0 / (10 : Int32)) - ((p0 / (10 : Int32)) / (4 : Int32)) * (4 : Int32)) + (2 : Int32)) - ((((p0 / (10 : Int32)) - ((p0 / (10 : Int32)) / (4 : Int32)) * (4 : Int32)) + (2 : Int32)) / (4 : Int32)) * (4 : Int32)) - ((p0 / (10 : Int32)) - ((p0 / (10 : Int32)) / (4 : Int32)) * (4 : Int32))) * (10 : Int32))))) (Wd f fl g gl hh v tx)) ∧
          ((¬ p1 = 3) → (((p1 = 4) → ((((p0 - (p0 / (10 : Int32)) * (10 : Int32)) ≤ 0) → P (some (.int p0)) (Wd f fl g gl hh v tx)) ∧
              ((¬ ((p0 - (p0 / (10 : Int32)) * (10 : Int32)) ≤ 0)) → P (some (.int (p0 - (1 : Int32)))) (Wd f fl g gl hh v tx)))) ∧
            ((¬ p1 = 4) → P (some (.int p0)) (Wd f fl g gl hh v tx))))))))))) :
    WP X (d + 1) 114 (0, [some (.int p0), some (.int p1), some (.int p2), none], [], Wd f fl g gl hh v tx) P := by
  refine WP.run hP_114 1 (c' := (1, [some (.int p0), some (.int p1), some (.int p2), none], [.int p0], Wd f fl g gl hh v tx)) rfl ?_
  refine WP.call hP_114 hP_111 (as := [.int p0]) (pc' := 4) (L' := [some (.int p0), some (.int p1), some (.int p2), none]) (st' := []) (w1 := Wd f fl g gl hh v tx) rfl ⟨Nat.le_of_ble_eq_true rfl, Nat.le_of_ble_eq_true rfl⟩ rfl (b_x_facesOf_0 X (d) f fl g gl hh v tx p0 _ ?_)
  refine WP.run hP_114 2 (c' := (6, [some (.int p0), some (.int p1), some (.int p2), some (.int ((p0 / (10 : Int32)) - ((p0 / (10 : Int32)) / (4 : Int32)) * (4 : Int32)))], [.int p1], Wd f fl g gl hh v tx)) rfl ?_
  refine WP.run hP_114 1 (c' := (mm_sw p1 0 [40, 62, 75, 88, 101] 116, [some (.int p0), some (.int p1), some (.int p2), some (.int ((p0 / (10 : Int32)) - ((p0 / (10 : Int32)) / (4 : Int32)) * (4 : Int32)))], [], Wd f fl g gl hh v tx)) rfl ?_
  refine WP.sw (lo' := 1) rfl (fun c1 => ?_) (fun c1 => ?_)
  · have h2 := h.1 c1
    refine WP.run hP_114 2 (c' := (42, [some (.int p0), none, some (.int p2), some (.int ((p0 / (10 : Int32)) - ((p0 / (10 : Int32)) / (4 : Int32)) * (4 : Int32)))], [.int p0, .int p0], Wd f fl g gl hh v tx)) rfl ?_
    refine WP.call hP_114 hP_110 (as := [.int p0]) (pc' := 45) (L' := [some (.int p0), none, some (.int p2), some (.int ((p0 / (10 : Int32)) - ((p0 / (10 : Int32)) / (4 : Int32)) * (4 : Int32)))]) (st' := [.int p0]) (w1 := Wd f fl g gl hh v tx) rfl ⟨Nat.le_of_ble_eq_true rfl, Nat.le_of_ble_eq_true rfl⟩ rfl (b_x_cellOf_0 X (d) f fl g gl hh v tx p0 _ ?_)
    refine WP.run hP_114 2 (c' := (47, [some (.int p0), none, some (.int p2), some (.int ((p0 / (10 : Int32)) - ((p0 / (10 : Int32)) / (4 : Int32)) * (4 : Int32)))], [.int p2, .int ((p0 / (10 : Int32)) - ((p0 / (10 : Int32)) / (4 : Int32)) * (4 : Int32)), .int (p0 / (40 : Int32)), .int p0], Wd f fl g gl hh v tx)) rfl ?_
    refine WP.call hP_114 hP_115 (as := [.int (p0 / (40 : Int32)), .int ((p0 / (10 : Int32)) - ((p0 / (10 : Int32)) / (4 : Int32)) * (4 : Int32)), .int p2]) (pc' := 50) (L' := [some (.int p0), none, some (.int p2), some (.int ((p0 / (10 : Int32)) - ((p0 / (10 : Int32)) / (4 : Int32)) * (4 : Int32)))]) (st' := [.int p0]) (w1 := Wd f fl g gl hh v tx) rfl ⟨Nat.le_of_ble_eq_true rfl, Nat.le_of_ble_eq_true rfl⟩ rfl (b_x_ahead_0 X (d) f fl g gl hh v tx (p0 / (40 : Int32)) ((p0 / (10 : Int32)) - ((p0 / (10 : Int32)) / (4 : Int32)) * (4 : Int32)) p2 _ ?_)
    refine ⟨fun c3 => ?_, fun c3 => ?_⟩
    · have h4 := h2.1 c3
      refine WP.run hP_114 1 (c' := (51, [some (.int p0), none, some (.int p2), some (.int ((p0 / (10 : Int32)) - ((p0 / (10 : Int32)) / (4 : Int32)) * (4 : Int32)))], [.int p0, .int ((p0 / (40 : Int32)) + ((5 : Int32) * (if ((4 : Int32) - ((p0 / (40 : Int32)) / (5 : Int32))) < p2 then ((4 : Int32) - ((p0 / (40 : Int32)) / (5 : Int32))) else p2))), .int p0], Wd f fl g gl hh v tx)) rfl ?_
      refine WP.call hP_114 hP_110 (as := [.int p0]) (pc' := 54) (L' := [some (.int p0), none, some (.int p2), some (.int ((p0 / (10 : Int32)) - ((p0 / (10 : Int32)) / (4 : Int32)) * (4 : Int32)))]) (st' := [.int ((p0 / (40 : Int32)) + ((5 : Int32) * (if ((4 : Int32) - ((p0 / (40 : Int32)) / (5 : Int32))) < p2 then ((4 : Int32) - ((p0 / (40 : Int32)) / (5 : Int32))) else p2))), .int p0]) (w1 := Wd f fl g gl hh v tx) rfl ⟨Nat.le_of_ble_eq_true rfl, Nat.le_of_ble_eq_true rfl⟩ rfl (b_x_cellOf_0 X (d) f fl g gl hh v tx p0 _ ?_)
      refine WP.run hP_114 6 (c' := (61, [some (.int p0), none, some (.int p2), some (.int ((p0 / (10 : Int32)) - ((p0 / (10 : Int32)) / (4 : Int32)) * (4 : Int32)))], [.int (p0 + (((((p0 / (40 : Int32)) + ((5 : Int32) * (if ((4 : Int32) - ((p0 / (40 : Int32)) / (5 : Int32))) < p2 then ((4 : Int32) - ((p0 / (40 : Int32)) / (5 : Int32))) else p2))) - (p0 / (40 : Int32))) * (4 : Int32)) * (10 : Int32)))], Wd f fl g gl hh v tx)) rfl ?_
      exact WP.retI hP_114 rfl rfl h4
    · have h5 := h2.2 c3
      refine ⟨fun c6 => ?_, fun c6 => ?_⟩
      · have h7 := h5.1 c6
        refine WP.run hP_114 1 (c' := (51, [some (.int p0), none, some (.int p2), some (.int ((p0 / (10 : Int32)) - ((p0 / (10 : Int32)) / (4 : Int32)) * (4 : Int32)))], [.int p0, .int ((p0 / (40 : Int32)) + (if ((4 : Int32) - ((p0 / (40 : Int32)) - ((p0 / (40 : Int32)) / (5 : Int32)) * (5 : Int32))) < p2 then ((4 : Int32) - ((p0 / (40 : Int32)) - ((p0 / (40 : Int32)) / (5 : Int32)) * (5 : Int32))) else p2)), .int p0], Wd f fl g gl hh v tx)) rfl ?_
        refine WP.call hP_114 hP_110 (as := [.int p0]) (pc' := 54) (L' := [some (.int p0), none, some (.int p2), some (.int ((p0 / (10 : Int32)) - ((p0 / (10 : Int32)) / (4 : Int32)) * (4 : Int32)))]) (st' := [.int ((p0 / (40 : Int32)) + (if ((4 : Int32) - ((p0 / (40 : Int32)) - ((p0 / (40 : Int32)) / (5 : Int32)) * (5 : Int32))) < p2 then ((4 : Int32) - ((p0 / (40 : Int32)) - ((p0 / (40 : Int32)) / (5 : Int32)) * (5 : Int32))) else p2)), .int p0]) (w1 := Wd f fl g gl hh v tx) rfl ⟨Nat.le_of_ble_eq_true rfl, Nat.le_of_ble_eq_true rfl⟩ rfl (b_x_cellOf_0 X (d) f fl g gl hh v tx p0 _ ?_)
        refine WP.run hP_114 6 (c' := (61, [some (.int p0), none, some (.int p2), some (.int ((p0 / (10 : Int32)) - ((p0 / (10 : Int32)) / (4 : Int32)) * (4 : Int32)))], [.int (p0 + (((((p0 / (40 : Int32)) + (if ((4 : Int32) - ((p0 / (40 : Int32)) - ((p0 / (40 : Int32)) / (5 : Int32)) * (5 : Int32))) < p2 then ((4 : Int32) - ((p0 / (40 : Int32)) - ((p0 / (40 : Int32)) / (5 : Int32)) * (5 : Int32))) else p2)) - (p0 / (40 : Int32))) * (4 : Int32)) * (10 : Int32)))], Wd f fl g gl hh v tx)) rfl ?_
        exact WP.retI hP_114 rfl rfl h7
      · have h8 := h5.2 c6
        refine ⟨fun c9 => ?_, fun c9 => ?_⟩
        · have h10 := h8.1 c9
          refine WP.run hP_114 1 (c' := (51, [some (.int p0), none, some (.int p2), some (.int ((p0 / (10 : Int32)) - ((p0 / (10 : Int32)) / (4 : Int32)) * (4 : Int32)))], [.int p0, .int ((p0 / (40 : Int32)) - ((5 : Int32) * (if ((p0 / (40 : Int32)) / (5 : Int32)) < p2 then ((p0 / (40 : Int32)) / (5 : Int32)) else p2))), .int p0], Wd f fl g gl hh v tx)) rfl ?_
          refine WP.call hP_114 hP_110 (as := [.int p0]) (pc' := 54) (L' := [some (.int p0), none, some (.int p2), some (.int ((p0 / (10 : Int32)) - ((p0 / (10 : Int32)) / (4 : Int32)) * (4 : Int32)))]) (st' := [.int ((p0 / (40 : Int32)) - ((5 : Int32) * (if ((p0 / (40 : Int32)) / (5 : Int32)) < p2 then ((p0 / (40 : Int32)) / (5 : Int32)) else p2))), .int p0]) (w1 := Wd f fl g gl hh v tx) rfl ⟨Nat.le_of_ble_eq_true rfl, Nat.le_of_ble_eq_true rfl⟩ rfl (b_x_cellOf_0 X (d) f fl g gl hh v tx p0 _ ?_)
          refine WP.run hP_114 6 (c' := (61, [some (.int p0), none, some (.int p2), some (.int ((p0 / (10 : Int32)) - ((p0 / (10 : Int32)) / (4 : Int32)) * (4 : Int32)))], [.int (p0 + (((((p0 / (40 : Int32)) - ((5 : Int32) * (if ((p0 / (40 : Int32)) / (5 : Int32)) < p2 then ((p0 / (40 : Int32)) / (5 : Int32)) else p2))) - (p0 / (40 : Int32))) * (4 : Int32)) * (10 : Int32)))], Wd f fl g gl hh v tx)) rfl ?_
          exact WP.retI hP_114 rfl rfl h10
        · have h11 := h8.2 c9
          refine WP.run hP_114 1 (c' := (51, [some (.int p0), none, some (.int p2), some (.int ((p0 / (10 : Int32)) - ((p0 / (10 : Int32)) / (4 : Int32)) * (4 : Int32)))], [.int p0, .int ((p0 / (40 : Int32)) - (if ((p0 / (40 : Int32)) - ((p0 / (40 : Int32)) / (5 : Int32)) * (5 : Int32)) < p2 then ((p0 / (40 : Int32)) - ((p0 / (40 : Int32)) / (5 : Int32)) * (5 : Int32)) else p2)), .int p0], Wd f fl g gl hh v tx)) rfl ?_
          refine WP.call hP_114 hP_110 (as := [.int p0]) (pc' := 54) (L' := [some (.int p0), none, some (.int p2), some (.int ((p0 / (10 : Int32)) - ((p0 / (10 : Int32)) / (4 : Int32)) * (4 : Int32)))]) (st' := [.int ((p0 / (40 : Int32)) - (if ((p0 / (40 : Int32)) - ((p0 / (40 : Int32)) / (5 : Int32)) * (5 : Int32)) < p2 then ((p0 / (40 : Int32)) - ((p0 / (40 : Int32)) / (5 : Int32)) * (5 : Int32)) else p2)), .int p0]) (w1 := Wd f fl g gl hh v tx) rfl ⟨Nat.le_of_ble_eq_true rfl, Nat.le_of_ble_eq_true rfl⟩ rfl (b_x_cellOf_0 X (d) f fl g gl hh v tx p0 _ ?_)
          refine WP.run hP_114 6 (c' := (61, [some (.int p0), none, some (.int p2), some (.int ((p0 / (10 : Int32)) - ((p0 / (10 : Int32)) / (4 : Int32)) * (4 : Int32)))], [.int (p0 + (((((p0 / (40 : Int32)) - (if ((p0 / (40 : Int32)) - ((p0 / (40 : Int32)) / (5 : Int32)) * (5 : Int32)) < p2 then ((p0 / (40 : Int32)) - ((p0 / (40 : Int32)) / (5 : Int32)) * (5 : Int32)) else p2)) - (p0 / (40 : Int32))) * (4 : Int32)) * (10 : Int32)))], Wd f fl g gl hh v tx)) rfl ?_
          exact WP.retI hP_114 rfl rfl h11
  · have h12 := h.2 c1
    refine WP.sw (lo' := 2) rfl (fun c13 => ?_) (fun c13 => ?_)
    · have h14 := h12.1 c13
      refine WP.run hP_114 11 (c' := (74, [some (.int p0), none, none, some (.int ((p0 / (10 : Int32)) - ((p0 / (10 : Int32)) / (4 : Int32)) * (4 : Int32)))], [.int (p0 + ((((((p0 / (10 : Int32)) - ((p0 / (10 : Int32)) / (4 : Int32)) * (4 : Int32)) + (3 : Int32)) - ((((p0 / (10 : Int32)) - ((p0 / (10 : Int32)) / (4 : Int32)) * (4 : Int32)) + (3 : Int32)) / (4 : Int32)) * (4 : Int32)) - ((p0 / (10 : Int32)) - ((p0 / (10 : Int32)) / (4 : Int32)) * (4 : Int32))) * (10 : Int32)))], Wd f fl g gl hh v tx)) rfl ?_
      exact WP.retI hP_114 rfl rfl h14
    · have h15 := h12.2 c13
      refine WP.sw (lo' := 3) rfl (fun c16 => ?_) (fun c16 => ?_)
      · have h17 := h15.1 c16
        refine WP.run hP_114 11 (c' := (87, [some (.int p0), none, none, some (.int ((p0 / (10 : Int32)) - ((p0 / (10 : Int32)) / (4 : Int32)) * (4 : Int32)))], [.int (p0 + ((((((p0 / (10 : Int32)) - ((p0 / (10 : Int32)) / (4 : Int32)) * (4 : Int32)) + (1 : Int32)) - ((((p0 / (10 : Int32)) - ((p0 / (10 : Int32)) / (4 : Int32)) * (4 : Int32)) + (1 : Int32)) / (4 : Int32)) * (4 : Int32)) - ((p0 / (10 : Int32)) - ((p0 / (10 : Int32)) / (4 : Int32)) * (4 : Int32))) * (10 : Int32)))], Wd f fl g gl hh v tx)) rfl ?_
        exact WP.retI hP_114 rfl rfl h17
      · have h18 := h15.2 c16
        refine WP.sw (lo' := 4) rfl (fun c19 => ?_) (fun c19 => ?_)
        · have h20 := h18.1 c19
          refine WP.run hP_114 11 (c' := (100, [some (.int p0), none, none, some (.int ((p0 / (10 : Int32)) - ((p0 / (10 : Int32)) / (4 : Int32)) * (4 : Int32)))], [.int (p0 + ((((((p0 / (10 : Int32)) - ((p0 / (10 : Int32)) / (4 : Int32)) * (4 : Int32)) + (2 : Int32)) - ((((p0 / (10 : Int32)) - ((p0 / (10 : Int32)) / (4 : Int32)) * (4 : Int32)) + (2 : Int32)) / (4 : Int32)) * (4 : Int32)) - ((p0 / (10 : Int32)) - ((p0 / (10 : Int32)) / (4 : Int32)) * (4 : Int32))) * (10 : Int32)))], Wd f fl g gl hh v tx)) rfl ?_
          exact WP.retI hP_114 rfl rfl h20
        · have h21 := h18.2 c19
          refine WP.sw (lo' := 5) rfl (fun c22 => ?_) (fun c22 => ?_)
          · have h23 := h21.1 c22
            refine WP.run hP_114 1 (c' := (102, [some (.int p0), none, none, none], [.int p0], Wd f fl g gl hh v tx)) rfl ?_
            refine WP.call hP_114 hP_112 (as := [.int p0]) (pc' := 105) (L' := [some (.int p0), none, none, none]) (st' := []) (w1 := Wd f fl g gl hh v tx) rfl ⟨Nat.le_of_ble_eq_true rfl, Nat.le_of_ble_eq_true rfl⟩ rfl (b_x_powderOf_0 X (d) f fl g gl hh v tx p0 _ ?_)
            refine WP.br hP_114 (q := (p0 - (p0 / (10 : Int32)) * (10 : Int32)) ≤ 0) (t := 114) (f := 108) (L := [some (.int p0), none, none, none]) (st := []) (w := Wd f fl g gl hh v tx) rfl (fun c24 => ?_) (fun c24 => ?_)
            · have h25 := h23.1 c24
              refine WP.run hP_114 1 (c' := (115, [some (.int p0), none, none, none], [.int p0], Wd f fl g gl hh v tx)) rfl ?_
              exact WP.retI hP_114 rfl rfl h25
            · have h26 := h23.2 c24
              refine WP.run hP_114 4 (c' := (115, [some (.int p0), none, none, none], [.int (p0 - (1 : Int32))], Wd f fl g gl hh v tx)) rfl ?_
              exact WP.retI hP_114 rfl rfl h26
          · have h27 := h21.2 c22
            show WP X _ 114 (116, [some (.int p0), some (.int p1), some (.int p2), some (.int ((p0 / (10 : Int32)) - ((p0 / (10 : Int32)) / (4 : Int32)) * (4 : Int32)))], [], Wd f fl g gl hh v tx) P
            refine WP.run hP_114 1 (c' := (117, [some (.int p0), none, none, none], [.int p0], Wd f fl g gl hh v tx)) rfl ?_
            exact WP.retI hP_114 rfl rfl h27

set_option maxRecDepth 20000 in
theorem b_yca_goes_38_0 (X : mm_X) (d : Nat) (f : Nat → Int32) (fl : Nat → Int64) (g : Nat → Nat → Int32) (gl : Nat → Nat → Int64) (hh : Nat → Nat → Option Nat) (v : Nat → Value) (tx : mm_W)   (P : Option Value → mm_W → Prop)
    (h : WP X (d) 6 (0, [some (.ref 38), some (.int 1), some (.int 0), none, none, none], [], Wd f fl (va_up (va_up g 41 (upd (g 41) 1 (-1))) 41 (upd (upd (g 41) 1 (-1)) 2 (-1))) gl hh v tx) (fun rv w2 => WP X (d + 1) 4 (20, [some (.ref 38), none, none], rv.toList ++ [], w2) P)) :
    WP X (d + 1) 4 (0, [some (.ref 38), none, none], [], Wd f fl g gl hh v tx) P := by
  refine WP.run hP_4 4 (c' := (6, [some (.ref 38), none, none], [.int (-1), .int 1, .ref 41], Wd f fl g gl hh v tx)) rfl ?_
  refine WP.of (fun _ _ => Ex.iast hP_4 (w2 := Wd f fl (va_up g 41 (upd (g 41) 1 (-1))) gl hh v tx) rfl (Wa_41 _ _ _ _ _ _ _) (by decide) (Ws_41 _ _ _ _ _ _ _ _)) ?_
  refine WP.run hP_4 4 (c' := (13, [some (.ref 38), none, none], [.int (-1), .int 2, .ref 41], Wd f fl (va_up g 41 (upd (g 41) 1 (-1))) gl hh v tx)) rfl ?_
  refine WP.of (fun _ _ => Ex.iast hP_4 (w2 := Wd f fl (va_up (va_up g 41 (upd (g 41) 1 (-1))) 41 (upd (upd (g 41) 1 (-1)) 2 (-1))) gl hh v tx) rfl (Wa_41 _ _ _ _ _ _ _) (by decide) (Ws_41 _ _ _ _ _ _ _ _)) ?_
  refine WP.run hP_4 3 (c' := (17, [some (.ref 38), none, none], [.int 0, .int 1, .ref 38], Wd f fl (va_up (va_up g 41 (upd (g 41) 1 (-1))) 41 (upd (upd (g 41) 1 (-1)) 2 (-1))) gl hh v tx)) rfl ?_
  refine WP.call hP_4 hP_6 (as := [.ref 38, .int 1, .int 0]) (pc' := 20) (L' := [some (.ref 38), none, none]) (st' := []) (w1 := Wd f fl (va_up (va_up g 41 (upd (g 41) 1 (-1))) 41 (upd (upd (g 41) 1 (-1)) 2 (-1))) gl hh v tx) rfl ⟨Nat.le_of_ble_eq_true rfl, Nat.le_of_ble_eq_true rfl⟩ rfl ?_
  exact h

set_option maxRecDepth 20000 in
theorem b_yca_goes_38_20 (X : mm_X) (d : Nat) (f : Nat → Int32) (fl : Nat → Int64) (g : Nat → Nat → Int32) (gl : Nat → Nat → Int64) (hh : Nat → Nat → Option Nat) (v : Nat → Value) (tx : mm_W) (s0 : Int64)  (P : Option Value → mm_W → Prop)
    (h : ((¬ (lg_cmp s0 (-9223372036854775808)) = 0) → P (some (.int (((if (if s0 < 4 then s0 else 4) < 0 then 0 else (if s0 < 4 then s0 else 4)) : Int64).toInt32))) (Wd f fl g gl hh v tx)) ∧
    (((lg_cmp s0 (-9223372036854775808)) = 0) → P (some (.int 1)) (Wd f fl g gl hh v tx))) :
    WP X (d) 4 (20, [some (.ref 38), none, none], [.long s0], Wd f fl g gl hh v tx) P := by
  refine WP.run hP_4 4 (c' := (26, [some (.ref 38), some (.long s0), none], [.int (lg_cmp s0 (-9223372036854775808))], Wd f fl g gl hh v tx)) rfl ?_
  refine WP.br hP_4 (q := ¬ (lg_cmp s0 (-9223372036854775808)) = 0) (t := 33) (f := 29) (L := [some (.ref 38), some (.long s0), none]) (st := []) (w := Wd f fl g gl hh v tx) rfl (fun c1 => ?_) (fun c1 => ?_)
  · have h2 := h.1 c1
    refine WP.run hP_4 6 (c' := (45, [none, some (.long s0), none], [.int (((if (if s0 < 4 then s0 else 4) < 0 then 0 else (if s0 < 4 then s0 else 4)) : Int64).toInt32)], Wd f fl g gl hh v tx)) rfl ?_
    exact WP.retI hP_4 rfl rfl h2
  · have h3 := h.2 (Classical.not_not.mp c1)
    refine WP.run hP_4 2 (c' := (45, [some (.ref 38), some (.long s0), none], [.int 1], Wd f fl g gl hh v tx)) rfl ?_
    exact WP.retI hP_4 rfl rfl h3

set_option maxRecDepth 20000 in
theorem b_yca_follow_38_1_0 (X : mm_X) (d : Nat) (f : Nat → Int32) (fl : Nat → Int64) (g : Nat → Nat → Int32) (gl : Nat → Nat → Int64) (hh : Nat → Nat → Option Nat) (v : Nat → Value) (tx : mm_W)   (P : Option Value → mm_W → Prop)
    (h : WP X (d) 11 (2, [some (.ref 38), some (.ref 1), some (.int 0), none], [], Wd f fl g gl hh v tx) P) :
    WP X (d) 11 (0, [some (.ref 38), some (.ref 1), none, none], [], Wd f fl g gl hh v tx) P := by
  refine WP.run hP_11 2 (c' := (2, [some (.ref 38), some (.ref 1), some (.int 0), none], [], Wd f fl g gl hh v tx)) rfl ?_
  exact h

set_option maxRecDepth 20000 in
theorem b_yca_follow_38_1_2 (X : mm_X) (d : Nat) (f : Nat → Int32) (fl : Nat → Int64) (g : Nat → Nat → Int32) (gl : Nat → Nat → Int64) (hh : Nat → Nat → Option Nat) (v : Nat → Value) (tx : mm_W) (l2 : Int32)  (P : Option Value → mm_W → Prop)
    (h : (((f 2437) ≤ l2) → P none (Wd f fl g gl hh v tx)) ∧
    ((¬ ((f 2437) ≤ l2)) → ((¬ (l2 < 0 ∨ 12 ≤ l2.toNatClampNeg)) ∧ ((¬ (((g 44) l2.toNatClampNeg) < 0 ∨ 8 ≤ ((g 44) l2.toNatClampNeg).toNatClampNeg)) ∧ WP X (d) 5 (0, [some (.ref 38), some (.int ((g 4) ((g 44) l2.toNatClampNeg).toNatClampNeg))], [], Wd f fl g gl hh v tx) (fun rv w2 => WP X (d + 1) 11 (27, [some (.ref 38), some (.ref 1), some (.int l2), some (.int ((g 4) ((g 44) l2.toNatClampNeg).toNatClampNeg))], rv.toList ++ [], w2) P))))) :
    WP X (d + 1) 11 (2, [some (.ref 38), some (.ref 1), some (.int l2), none], [], Wd f fl g gl hh v tx) P := by
  refine WP.run hP_11 3 (c' := (7, [some (.ref 38), some (.ref 1), some (.int l2), none], [.int (f 2437), .int l2], Wd f fl g gl hh v tx)) rfl ?_
  refine WP.br hP_11 (q := (f 2437) ≤ l2) (t := 60) (f := 10) (L := [some (.ref 38), some (.ref 1), some (.int l2), none]) (st := []) (w := Wd f fl g gl hh v tx) rfl (fun c1 => ?_) (fun c1 => ?_)
  · have h2 := h.1 c1
    exact WP.ret hP_11 (r := none) (w' := Wd f fl g gl hh v tx) rfl h2
  · have h3 := h.2 c1
    refine WP.run hP_11 5 (c' := (19, [some (.ref 38), some (.ref 1), some (.int l2), none], [.int l2, .ref 44, .ref 4], Wd f fl g gl hh v tx)) rfl ?_
    refine WP.of (fun _ _ => Ex.iald hP_11 rfl (Wa_44 _ _ _ _ _ _ _) h3.1) ?_
    have h4 := h3.2
    refine WP.of (fun _ _ => Ex.iald hP_11 rfl (Wa_4 _ _ _ _ _ _ _) h4.1) ?_
    have h5 := h4.2
    refine WP.run hP_11 3 (c' := (24, [some (.ref 38), some (.ref 1), some (.int l2), some (.int ((g 4) ((g 44) l2.toNatClampNeg).toNatClampNeg))], [.int ((g 4) ((g 44) l2.toNatClampNeg).toNatClampNeg), .ref 38], Wd f fl g gl hh v tx)) rfl ?_
    refine WP.call hP_11 hP_5 (as := [.ref 38, .int ((g 4) ((g 44) l2.toNatClampNeg).toNatClampNeg)]) (pc' := 27) (L' := [some (.ref 38), some (.ref 1), some (.int l2), some (.int ((g 4) ((g 44) l2.toNatClampNeg).toNatClampNeg))]) (st' := []) (w1 := Wd f fl g gl hh v tx) rfl ⟨Nat.le_of_ble_eq_true rfl, Nat.le_of_ble_eq_true rfl⟩ rfl ?_
    exact h5

set_option maxRecDepth 20000 in
theorem b_yca_follow_38_1_27 (X : mm_X) (d : Nat) (f : Nat → Int32) (fl : Nat → Int64) (g : Nat → Nat → Int32) (gl : Nat → Nat → Int64) (hh : Nat → Nat → Option Nat) (v : Nat → Value) (tx : mm_W) (l2 : Int32) (l3 : Int32) (s0 : Int32)  (P : Option Value → mm_W → Prop)
    (h : ((¬ s0 = 0) → WP X (d + 1) 11 (2, [some (.ref 38), some (.ref 1), some (.int (l2 + (1 : Int32))), none], [], Wd f fl g gl hh v tx) P) ∧
    ((s0 = 0) → (((¬ l3 = 0) → WP X (d) 114 (0, [some (.int (f 2440)), some (.int l3), some (.int 0), none], [], Wd f fl g gl hh v tx) (fun rv w2 => WP X (d + 1) 11 (51, [some (.ref 38), some (.ref 1), some (.int l2), none], rv.toList ++ [.ref 38], w2) P)) ∧
      ((l3 = 0) → WP X (d) 4 (0, [some (.ref 38), none, none], [], Wd f fl g gl hh v tx) (fun rv w2 => WP X (d + 1) 11 (44, [some (.ref 38), some (.ref 1), some (.int l2), some (.int l3)], rv.toList ++ [.int l3, .int (f 2440), .ref 38], w2) P))))) :
    WP X (d + 1) 11 (27, [some (.ref 38), some (.ref 1), some (.int l2), some (.int l3)], [.int s0], Wd f fl g gl hh v tx) P := by
  refine WP.br hP_11 (q := ¬ s0 = 0) (t := 54) (f := 30) (L := [some (.ref 38), some (.ref 1), some (.int l2), some (.int l3)]) (st := []) (w := Wd f fl g gl hh v tx) rfl (fun c1 => ?_) (fun c1 => ?_)
  · have h2 := h.1 c1
    refine WP.run hP_11 2 (c' := (2, [some (.ref 38), some (.ref 1), some (.int (l2 + (1 : Int32))), none], [], Wd f fl g gl hh v tx)) rfl ?_
    exact h2
  · have h3 := h.2 (Classical.not_not.mp c1)
    refine WP.run hP_11 5 (c' := (37, [some (.ref 38), some (.ref 1), some (.int l2), some (.int l3)], [.int l3, .int l3, .int (f 2440), .ref 38], Wd f fl g gl hh v tx)) rfl ?_
    refine WP.br hP_11 (q := ¬ l3 = 0) (t := 47) (f := 40) (L := [some (.ref 38), some (.ref 1), some (.int l2), some (.int l3)]) (st := [.int l3, .int (f 2440), .ref 38]) (w := Wd f fl g gl hh v tx) rfl (fun c4 => ?_) (fun c4 => ?_)
    · have h5 := h3.1 c4
      refine WP.run hP_11 1 (c' := (48, [some (.ref 38), some (.ref 1), some (.int l2), none], [.int 0, .int l3, .int (f 2440), .ref 38], Wd f fl g gl hh v tx)) rfl ?_
      refine WP.call hP_11 hP_114 (as := [.int (f 2440), .int l3, .int 0]) (pc' := 51) (L' := [some (.ref 38), some (.ref 1), some (.int l2), none]) (st' := [.ref 38]) (w1 := Wd f fl g gl hh v tx) rfl ⟨Nat.le_of_ble_eq_true rfl, Nat.le_of_ble_eq_true rfl⟩ rfl ?_
      exact h5
    · have h6 := h3.2 (Classical.not_not.mp c4)
      refine WP.run hP_11 1 (c' := (41, [some (.ref 38), some (.ref 1), some (.int l2), some (.int l3)], [.ref 38, .int l3, .int (f 2440), .ref 38], Wd f fl g gl hh v tx)) rfl ?_
      refine WP.call hP_11 hP_4 (as := [.ref 38]) (pc' := 44) (L' := [some (.ref 38), some (.ref 1), some (.int l2), some (.int l3)]) (st' := [.int l3, .int (f 2440), .ref 38]) (w1 := Wd f fl g gl hh v tx) rfl ⟨Nat.le_of_ble_eq_true rfl, Nat.le_of_ble_eq_true rfl⟩ rfl ?_
      exact h6

set_option maxRecDepth 20000 in
theorem b_yca_follow_38_1_51 (X : mm_X) (d : Nat) (f : Nat → Int32) (fl : Nat → Int64) (g : Nat → Nat → Int32) (gl : Nat → Nat → Int64) (hh : Nat → Nat → Option Nat) (v : Nat → Value) (tx : mm_W) (l2 : Int32) (s0 : Int32)  (P : Option Value → mm_W → Prop)
    (h : WP X (d) 11 (2, [some (.ref 38), some (.ref 1), some (.int (l2 + (1 : Int32))), none], [], Wd (va_up f 2440 s0) fl g gl hh v tx) P) :
    WP X (d) 11 (51, [some (.ref 38), some (.ref 1), some (.int l2), none], [.int s0, .ref 38], Wd f fl g gl hh v tx) P := by
  refine WP.run hP_11 3 (c' := (2, [some (.ref 38), some (.ref 1), some (.int (l2 + (1 : Int32))), none], [], Wd (va_up f 2440 s0) fl g gl hh v tx)) rfl ?_
  exact h

set_option maxRecDepth 20000 in
theorem b_yca_follow_38_1_44 (X : mm_X) (d : Nat) (f : Nat → Int32) (fl : Nat → Int64) (g : Nat → Nat → Int32) (gl : Nat → Nat → Int64) (hh : Nat → Nat → Option Nat) (v : Nat → Value) (tx : mm_W) (l2 : Int32) (l3 : Int32) (s0 : Int32) (s1 : Int32) (s2 : Int32)  (P : Option Value → mm_W → Prop)
    (h : WP X (d) 114 (0, [some (.int s2), some (.int s1), some (.int s0), none], [], Wd f fl g gl hh v tx) (fun rv w2 => WP X (d + 1) 11 (51, [some (.ref 38), some (.ref 1), some (.int l2), none], rv.toList ++ [.ref 38], w2) P)) :
    WP X (d + 1) 11 (44, [some (.ref 38), some (.ref 1), some (.int l2), some (.int l3)], [.int s0, .int s1, .int s2, .ref 38], Wd f fl g gl hh v tx) P := by
  refine WP.run hP_11 1 (c' := (48, [some (.ref 38), some (.ref 1), some (.int l2), some (.int l3)], [.int s0, .int s1, .int s2, .ref 38], Wd f fl g gl hh v tx)) rfl ?_
  refine WP.call hP_11 hP_114 (as := [.int s2, .int s1, .int s0]) (pc' := 51) (L' := [some (.ref 38), some (.ref 1), some (.int l2), none]) (st' := [.ref 38]) (w1 := Wd f fl g gl hh v tx) rfl ⟨Nat.le_of_ble_eq_true rfl, Nat.le_of_ble_eq_true rfl⟩ rfl ?_
  exact h

set_option maxRecDepth 20000 in
theorem b_yca_board_19n_0 (X : mm_X) (d : Nat) (f : Nat → Int32) (fl : Nat → Int64) (g : Nat → Nat → Int32) (gl : Nat → Nat → Int64) (hh : Nat → Nat → Option Nat) (v : Nat → Value) (tx : mm_W) (p0 : Int32)  (P : Option Value → mm_W → Prop)
    (h : (¬ (p0 < 0 ∨ 3 ≤ p0.toNatClampNeg)) ∧ P none (Wd (va_up f 2440 ((g 23) p0.toNatClampNeg)) fl (va_up (va_up (va_up g 41 (upd (g 41) 0 p0)) 41 (upd (upd (g 41) 0 p0) 6 ((g 26) 0))) 41 (upd (upd (upd (g 41) 0 p0) 6 ((g 26) 0)) 7 ((g 26) 2))) gl hh (va_up v 2439 (.null)) tx)) :
    WP X (d) 2 (0, [some (.ref 38), some (.ref 19), some (.int p0), some (.null)], [], Wd f fl g gl hh v tx) P := by
  refine WP.run hP_2 7 (c' := (11, [some (.ref 38), some (.ref 19), some (.int p0), some (.null)], [.int p0, .ref 23, .ref 38], Wd f fl g gl hh (va_up v 2439 (.null)) tx)) rfl ?_
  refine WP.of (fun _ _ => Ex.iald hP_2 rfl (Wa_23 _ _ _ _ _ _ _) h.1) ?_
  have h1 := h.2
  refine WP.run hP_2 5 (c' := (21, [some (.ref 38), some (.ref 19), some (.int p0), some (.null)], [.int p0, .int 0, .ref 41], Wd (va_up f 2440 ((g 23) p0.toNatClampNeg)) fl g gl hh (va_up v 2439 (.null)) tx)) rfl ?_
  refine WP.of (fun _ _ => Ex.iast hP_2 (w2 := Wd (va_up f 2440 ((g 23) p0.toNatClampNeg)) fl (va_up g 41 (upd (g 41) 0 p0)) gl hh (va_up v 2439 (.null)) tx) rfl (Wa_41 _ _ _ _ _ _ _) (by decide) (Ws_41 _ _ _ _ _ _ _ _)) ?_
  refine WP.run hP_2 6 (c' := (33, [some (.ref 38), some (.ref 19), some (.int p0), some (.null)], [.int 0, .ref 26, .int 6, .ref 41], Wd (va_up f 2440 ((g 23) p0.toNatClampNeg)) fl (va_up g 41 (upd (g 41) 0 p0)) gl hh (va_up v 2439 (.null)) tx)) rfl ?_
  refine WP.of (fun _ _ => Ex.iald hP_2 rfl (Wa_26 _ _ _ _ _ _ _) (by decide)) ?_
  show WP X _ 2 (34, [some (.ref 38), some (.ref 19), some (.int p0), some (.null)], [.int ((g 26) 0), .int 6, .ref 41], Wd (va_up f 2440 ((g 23) p0.toNatClampNeg)) fl (va_up g 41 (upd (g 41) 0 p0)) gl hh (va_up v 2439 (.null)) tx) P
  refine WP.of (fun _ _ => Ex.iast hP_2 (w2 := Wd (va_up f 2440 ((g 23) p0.toNatClampNeg)) fl (va_up (va_up g 41 (upd (g 41) 0 p0)) 41 (upd (upd (g 41) 0 p0) 6 ((g 26) 0))) gl hh (va_up v 2439 (.null)) tx) rfl (Wa_41 _ _ _ _ _ _ _) (by decide) (Ws_41 _ _ _ _ _ _ _ _)) ?_
  refine WP.run hP_2 6 (c' := (46, [some (.ref 38), some (.ref 19), some (.int p0), some (.null)], [.int 2, .ref 26, .int 7, .ref 41], Wd (va_up f 2440 ((g 23) p0.toNatClampNeg)) fl (va_up (va_up g 41 (upd (g 41) 0 p0)) 41 (upd (upd (g 41) 0 p0) 6 ((g 26) 0))) gl hh (va_up v 2439 (.null)) tx)) rfl ?_
  refine WP.of (fun _ _ => Ex.iald hP_2 rfl (Wa_26 _ _ _ _ _ _ _) (by decide)) ?_
  show WP X _ 2 (47, [some (.ref 38), some (.ref 19), some (.int p0), some (.null)], [.int ((g 26) 2), .int 7, .ref 41], Wd (va_up f 2440 ((g 23) p0.toNatClampNeg)) fl (va_up (va_up g 41 (upd (g 41) 0 p0)) 41 (upd (upd (g 41) 0 p0) 6 ((g 26) 0))) gl hh (va_up v 2439 (.null)) tx) P
  refine WP.of (fun _ _ => Ex.iast hP_2 (w2 := Wd (va_up f 2440 ((g 23) p0.toNatClampNeg)) fl (va_up (va_up (va_up g 41 (upd (g 41) 0 p0)) 41 (upd (upd (g 41) 0 p0) 6 ((g 26) 0))) 41 (upd (upd (upd (g 41) 0 p0) 6 ((g 26) 0)) 7 ((g 26) 2))) gl hh (va_up v 2439 (.null)) tx) rfl (Wa_41 _ _ _ _ _ _ _) (by decide) (Ws_41 _ _ _ _ _ _ _ _)) ?_
  exact WP.ret hP_2 (r := none) (w' := Wd (va_up f 2440 ((g 23) p0.toNatClampNeg)) fl (va_up (va_up (va_up g 41 (upd (g 41) 0 p0)) 41 (upd (upd (g 41) 0 p0) 6 ((g 26) 0))) 41 (upd (upd (upd (g 41) 0 p0) 6 ((g 26) 0)) 7 ((g 26) 2))) gl hh (va_up v 2439 (.null)) tx) rfl h1

set_option maxRecDepth 20000 in
theorem b_yca_priceFrom_38_19_0 (X : mm_X) (d : Nat) (f : Nat → Int32) (fl : Nat → Int64) (g : Nat → Nat → Int32) (gl : Nat → Nat → Int64) (hh : Nat → Nat → Option Nat) (v : Nat → Value) (tx : mm_W) (p0 : Int32) (p1 : Int32) (p2 : Int32)  (P : Option Value → mm_W → Prop)
    (h : WP X (d) 48 (0, [some (.ref 19), some (.int p0), some (.int p1), none, none], [], Wd f fl g gl hh v tx) (fun rv w2 => WP X (d + 1) 9 (6, [some (.ref 38), some (.ref 19), some (.int p0), some (.int p1), some (.int p2), none, none], rv.toList ++ [], w2) P)) :
    WP X (d + 1) 9 (0, [some (.ref 38), some (.ref 19), some (.int p0), some (.int p1), some (.int p2), none, none], [], Wd f fl g gl hh v tx) P := by
  refine WP.run hP_9 3 (c' := (3, [some (.ref 38), some (.ref 19), some (.int p0), some (.int p1), some (.int p2), none, none], [.int p1, .int p0, .ref 19], Wd f fl g gl hh v tx)) rfl ?_
  refine WP.call hP_9 hP_48 (as := [.ref 19, .int p0, .int p1]) (pc' := 6) (L' := [some (.ref 38), some (.ref 19), some (.int p0), some (.int p1), some (.int p2), none, none]) (st' := []) (w1 := Wd f fl g gl hh v tx) rfl ⟨Nat.le_of_ble_eq_true rfl, Nat.le_of_ble_eq_true rfl⟩ rfl ?_
  exact h

set_option maxRecDepth 20000 in
theorem b_yca_priceFrom_38_19_6 (X : mm_X) (d : Nat) (f : Nat → Int32) (fl : Nat → Int64) (g : Nat → Nat → Int32) (gl : Nat → Nat → Int64) (hh : Nat → Nat → Option Nat) (v : Nat → Value) (tx : mm_W) (l2 : Int32) (l3 : Int32) (l4 : Int32) (s0 : Int32)  (P : Option Value → mm_W → Prop)
    (h : ((1000000 ≤ s0) → P (some (.int 1000000)) (Wd f fl g gl hh v tx)) ∧
    ((¬ (1000000 ≤ s0)) → (((s0 ≤ 0) → (((l4 = 0) → ((¬ (l2 < 0 ∨ 8 ≤ l2.toNatClampNeg)) ∧ ((¬ (l2 < 0 ∨ 8 ≤ l2.toNatClampNeg)) ∧ ((¬ ((l3 + ((g 21) l2.toNatClampNeg)) < 0 ∨ 13 ≤ (l3 + ((g 21) l2.toNatClampNeg)).toNatClampNeg)) ∧ P (some (.int (if (((g 42) l2.toNatClampNeg) + ((g 43) (l3 + ((g 21) l2.toNatClampNeg)).toNatClampNeg)) < 1000000 then (((g 42) l2.toNatClampNeg) + ((g 43) (l3 + ((g 21) l2.toNatClampNeg)).toNatClampNeg)) else 1000000))) (Wd f fl g gl hh v tx))))) ∧
        ((¬ l4 = 0) → ((¬ (l2 < 0 ∨ 8 ≤ l2.toNatClampNeg)) ∧ ((¬ ((l3 + ((g 21) l2.toNatClampNeg)) < 0 ∨ 13 ≤ (l3 + ((g 21) l2.toNatClampNeg)).toNatClampNeg)) ∧ P (some (.int (if (s0 + ((g 43) (l3 + ((g 21) l2.toNatClampNeg)).toNatClampNeg)) < 1000000 then (s0 + ((g 43) (l3 + ((g 21) l2.toNatClampNeg)).toNatClampNeg)) else 1000000))) (Wd f fl g gl hh v tx)))))) ∧
      ((¬ (s0 ≤ 0)) → (((¬ l4 = 0) → (((l4 = 0) → ((¬ (l2 < 0 ∨ 8 ≤ l2.toNatClampNeg)) ∧ ((¬ (l2 < 0 ∨ 8 ≤ l2.toNatClampNeg)) ∧ ((¬ ((l3 + ((g 21) l2.toNatClampNeg)) < 0 ∨ 13 ≤ (l3 + ((g 21) l2.toNatClampNeg)).toNatClampNeg)) ∧ P (some (.int (if (((g 42) l2.toNatClampNeg) + ((g 43) (l3 + ((g 21) l2.toNatClampNeg)).toNatClampNeg)) < 1000000 then (((g 42) l2.toNatClampNeg) + ((g 43) (l3 + ((g 21) l2.toNatClampNeg)).toNatClampNeg)) else 1000000))) (Wd f fl g gl hh v tx))))) ∧
          ((¬ l4 = 0) → ((¬ (l2 < 0 ∨ 8 ≤ l2.toNatClampNeg)) ∧ ((¬ ((l3 + ((g 21) l2.toNatClampNeg)) < 0 ∨ 13 ≤ (l3 + ((g 21) l2.toNatClampNeg)).toNatClampNeg)) ∧ P (some (.int (if (s0 + ((g 43) (l3 + ((g 21) l2.toNatClampNeg)).toNatClampNeg)) < 1000000 then (s0 + ((g 43) (l3 + ((g 21) l2.toNatClampNeg)).toNatClampNeg)) else 1000000))) (Wd f fl g gl hh v tx)))))) ∧
        ((l4 = 0) → P (some (.int 1000000)) (Wd f fl g gl hh v tx))))))) :
    WP X (d) 9 (6, [some (.ref 38), some (.ref 19), some (.int l2), some (.int l3), some (.int l4), none, none], [.int s0], Wd f fl g gl hh v tx) P := by
  refine WP.run hP_9 3 (c' := (12, [some (.ref 38), some (.ref 19), some (.int l2), some (.int l3), some (.int l4), some (.int s0), none], [.int 1000000, .int s0], Wd f fl g gl hh v tx)) rfl ?_
  refine WP.br hP_9 (q := 1000000 ≤ s0) (t := 25) (f := 15) (L := [some (.ref 38), some (.ref 19), some (.int l2), some (.int l3), some (.int l4), some (.int s0), none]) (st := []) (w := Wd f fl g gl hh v tx) rfl (fun c1 => ?_) (fun c1 => ?_)
  · have h2 := h.1 c1
    refine WP.run hP_9 1 (c' := (27, [none, none, none, none, none, none, none], [.int 1000000], Wd f fl g gl hh v tx)) rfl ?_
    exact WP.retI hP_9 rfl rfl h2
  · have h3 := h.2 c1
    refine WP.run hP_9 1 (c' := (17, [some (.ref 38), some (.ref 19), some (.int l2), some (.int l3), some (.int l4), some (.int s0), none], [.int s0], Wd f fl g gl hh v tx)) rfl ?_
    refine WP.br hP_9 (q := s0 ≤ 0) (t := 28) (f := 20) (L := [some (.ref 38), some (.ref 19), some (.int l2), some (.int l3), some (.int l4), some (.int s0), none]) (st := []) (w := Wd f fl g gl hh v tx) rfl (fun c4 => ?_) (fun c4 => ?_)
    · have h5 := h3.1 c4
      refine WP.run hP_9 1 (c' := (30, [some (.ref 38), some (.ref 19), some (.int l2), some (.int l3), some (.int l4), some (.int s0), none], [.int l4], Wd f fl g gl hh v tx)) rfl ?_
      refine WP.br hP_9 (q := l4 = 0) (t := 38) (f := 33) (L := [some (.ref 38), some (.ref 19), some (.int l2), some (.int l3), some (.int l4), some (.int s0), none]) (st := []) (w := Wd f fl g gl hh v tx) rfl (fun c6 => ?_) (fun c6 => ?_)
      · have h7 := h5.1 c6
        refine WP.run hP_9 3 (c' := (43, [some (.ref 38), some (.ref 19), some (.int l2), some (.int l3), none, none, none], [.int l2, .ref 42], Wd f fl g gl hh v tx)) rfl ?_
        refine WP.of (fun _ _ => Ex.iald hP_9 rfl (Wa_42 _ _ _ _ _ _ _) h7.1) ?_
        have h8 := h7.2
        refine WP.run hP_9 9 (c' := (60, [some (.ref 38), some (.ref 19), some (.int l2), some (.int l3), none, none, some (.int ((g 42) l2.toNatClampNeg))], [.int l2, .ref 21, .int l3, .ref 43, .int ((g 42) l2.toNatClampNeg), .int 1000000], Wd f fl g gl hh v tx)) rfl ?_
        refine WP.of (fun _ _ => Ex.iald hP_9 rfl (Wa_21 _ _ _ _ _ _ _) h8.1) ?_
        have h9 := h8.2
        refine WP.run hP_9 1 (c' := (62, [some (.ref 38), some (.ref 19), some (.int l2), some (.int l3), none, none, some (.int ((g 42) l2.toNatClampNeg))], [.int (l3 + ((g 21) l2.toNatClampNeg)), .ref 43, .int ((g 42) l2.toNatClampNeg), .int 1000000], Wd f fl g gl hh v tx)) rfl ?_
        refine WP.of (fun _ _ => Ex.iald hP_9 rfl (Wa_43 _ _ _ _ _ _ _) h9.1) ?_
        have h10 := h9.2
        refine WP.run hP_9 2 (c' := (67, [some (.ref 38), some (.ref 19), some (.int l2), some (.int l3), none, none, some (.int ((g 42) l2.toNatClampNeg))], [.int (if (((g 42) l2.toNatClampNeg) + ((g 43) (l3 + ((g 21) l2.toNatClampNeg)).toNatClampNeg)) < 1000000 then (((g 42) l2.toNatClampNeg) + ((g 43) (l3 + ((g 21) l2.toNatClampNeg)).toNatClampNeg)) else 1000000)], Wd f fl g gl hh v tx)) rfl ?_
        exact WP.retI hP_9 rfl rfl h10
      · have h11 := h5.2 c6
        refine WP.run hP_9 11 (c' := (60, [some (.ref 38), some (.ref 19), some (.int l2), some (.int l3), none, none, some (.int s0)], [.int l2, .ref 21, .int l3, .ref 43, .int s0, .int 1000000], Wd f fl g gl hh v tx)) rfl ?_
        refine WP.of (fun _ _ => Ex.iald hP_9 rfl (Wa_21 _ _ _ _ _ _ _) h11.1) ?_
        have h12 := h11.2
        refine WP.run hP_9 1 (c' := (62, [some (.ref 38), some (.ref 19), some (.int l2), some (.int l3), none, none, some (.int s0)], [.int (l3 + ((g 21) l2.toNatClampNeg)), .ref 43, .int s0, .int 1000000], Wd f fl g gl hh v tx)) rfl ?_
        refine WP.of (fun _ _ => Ex.iald hP_9 rfl (Wa_43 _ _ _ _ _ _ _) h12.1) ?_
        have h13 := h12.2
        refine WP.run hP_9 2 (c' := (67, [some (.ref 38), some (.ref 19), some (.int l2), some (.int l3), none, none, some (.int s0)], [.int (if (s0 + ((g 43) (l3 + ((g 21) l2.toNatClampNeg)).toNatClampNeg)) < 1000000 then (s0 + ((g 43) (l3 + ((g 21) l2.toNatClampNeg)).toNatClampNeg)) else 1000000)], Wd f fl g gl hh v tx)) rfl ?_
        exact WP.retI hP_9 rfl rfl h13
    · have h14 := h3.2 c4
      refine WP.run hP_9 1 (c' := (22, [some (.ref 38), some (.ref 19), some (.int l2), some (.int l3), some (.int l4), some (.int s0), none], [.int l4], Wd f fl g gl hh v tx)) rfl ?_
      refine WP.br hP_9 (q := ¬ l4 = 0) (t := 28) (f := 25) (L := [some (.ref 38), some (.ref 19), some (.int l2), some (.int l3), some (.int l4), some (.int s0), none]) (st := []) (w := Wd f fl g gl hh v tx) rfl (fun c15 => ?_) (fun c15 => ?_)
      · have h16 := h14.1 c15
        refine WP.run hP_9 1 (c' := (30, [some (.ref 38), some (.ref 19), some (.int l2), some (.int l3), some (.int l4), some (.int s0), none], [.int l4], Wd f fl g gl hh v tx)) rfl ?_
        refine WP.br hP_9 (q := l4 = 0) (t := 38) (f := 33) (L := [some (.ref 38), some (.ref 19), some (.int l2), some (.int l3), some (.int l4), some (.int s0), none]) (st := []) (w := Wd f fl g gl hh v tx) rfl (fun c17 => ?_) (fun c17 => ?_)
        · have h18 := h16.1 c17
          refine WP.run hP_9 3 (c' := (43, [some (.ref 38), some (.ref 19), some (.int l2), some (.int l3), none, none, none], [.int l2, .ref 42], Wd f fl g gl hh v tx)) rfl ?_
          refine WP.of (fun _ _ => Ex.iald hP_9 rfl (Wa_42 _ _ _ _ _ _ _) h18.1) ?_
          have h19 := h18.2
          refine WP.run hP_9 9 (c' := (60, [some (.ref 38), some (.ref 19), some (.int l2), some (.int l3), none, none, some (.int ((g 42) l2.toNatClampNeg))], [.int l2, .ref 21, .int l3, .ref 43, .int ((g 42) l2.toNatClampNeg), .int 1000000], Wd f fl g gl hh v tx)) rfl ?_
          refine WP.of (fun _ _ => Ex.iald hP_9 rfl (Wa_21 _ _ _ _ _ _ _) h19.1) ?_
          have h20 := h19.2
          refine WP.run hP_9 1 (c' := (62, [some (.ref 38), some (.ref 19), some (.int l2), some (.int l3), none, none, some (.int ((g 42) l2.toNatClampNeg))], [.int (l3 + ((g 21) l2.toNatClampNeg)), .ref 43, .int ((g 42) l2.toNatClampNeg), .int 1000000], Wd f fl g gl hh v tx)) rfl ?_
          refine WP.of (fun _ _ => Ex.iald hP_9 rfl (Wa_43 _ _ _ _ _ _ _) h20.1) ?_
          have h21 := h20.2
          refine WP.run hP_9 2 (c' := (67, [some (.ref 38), some (.ref 19), some (.int l2), some (.int l3), none, none, some (.int ((g 42) l2.toNatClampNeg))], [.int (if (((g 42) l2.toNatClampNeg) + ((g 43) (l3 + ((g 21) l2.toNatClampNeg)).toNatClampNeg)) < 1000000 then (((g 42) l2.toNatClampNeg) + ((g 43) (l3 + ((g 21) l2.toNatClampNeg)).toNatClampNeg)) else 1000000)], Wd f fl g gl hh v tx)) rfl ?_
          exact WP.retI hP_9 rfl rfl h21
        · have h22 := h16.2 c17
          refine WP.run hP_9 11 (c' := (60, [some (.ref 38), some (.ref 19), some (.int l2), some (.int l3), none, none, some (.int s0)], [.int l2, .ref 21, .int l3, .ref 43, .int s0, .int 1000000], Wd f fl g gl hh v tx)) rfl ?_
          refine WP.of (fun _ _ => Ex.iald hP_9 rfl (Wa_21 _ _ _ _ _ _ _) h22.1) ?_
          have h23 := h22.2
          refine WP.run hP_9 1 (c' := (62, [some (.ref 38), some (.ref 19), some (.int l2), some (.int l3), none, none, some (.int s0)], [.int (l3 + ((g 21) l2.toNatClampNeg)), .ref 43, .int s0, .int 1000000], Wd f fl g gl hh v tx)) rfl ?_
          refine WP.of (fun _ _ => Ex.iald hP_9 rfl (Wa_43 _ _ _ _ _ _ _) h23.1) ?_
          have h24 := h23.2
          refine WP.run hP_9 2 (c' := (67, [some (.ref 38), some (.ref 19), some (.int l2), some (.int l3), none, none, some (.int s0)], [.int (if (s0 + ((g 43) (l3 + ((g 21) l2.toNatClampNeg)).toNatClampNeg)) < 1000000 then (s0 + ((g 43) (l3 + ((g 21) l2.toNatClampNeg)).toNatClampNeg)) else 1000000)], Wd f fl g gl hh v tx)) rfl ?_
          exact WP.retI hP_9 rfl rfl h24
      · have h25 := h14.2 (Classical.not_not.mp c15)
        refine WP.run hP_9 1 (c' := (27, [none, none, none, none, none, none, none], [.int 1000000], Wd f fl g gl hh v tx)) rfl ?_
        exact WP.retI hP_9 rfl rfl h25

set_option maxRecDepth 20000 in
theorem b_yca_pick_38_19_0 (X : mm_X) (d : Nat) (f : Nat → Int32) (fl : Nat → Int64) (g : Nat → Nat → Int32) (gl : Nat → Nat → Int64) (hh : Nat → Nat → Option Nat) (v : Nat → Value) (tx : mm_W) (p0 : Int32)  (P : Option Value → mm_W → Prop)
    (h : (¬ ((f 1222) < 0 ∨ 13 ≤ (f 1222).toNatClampNeg)) ∧ WP X (d) 8 (17, [some (.ref 38), some (.ref 19), some (.int p0), some (.int ((f 1222) - (1 : Int32))), none, none], [], Wd f fl (va_up g 43 (upd (g 43) ((f 1222).toNatClampNeg) 0)) gl hh v tx) P) :
    WP X (d) 8 (0, [some (.ref 38), some (.ref 19), some (.int p0), none, none, none], [], Wd f fl g gl hh v tx) P := by
  refine WP.run hP_8 5 (c' := (9, [some (.ref 38), some (.ref 19), some (.int p0), none, none, none], [.int 0, .int (f 1222), .ref 43], Wd f fl g gl hh v tx)) rfl ?_
  refine WP.of (fun _ _ => Ex.iast hP_8 (w2 := Wd f fl (va_up g 43 (upd (g 43) ((f 1222).toNatClampNeg) 0)) gl hh v tx) rfl (Wa_43 _ _ _ _ _ _ _) h.1 (Ws_43 _ _ _ _ _ _ _ _)) ?_
  have h1 := h.2
  refine WP.run hP_8 5 (c' := (17, [some (.ref 38), some (.ref 19), some (.int p0), some (.int ((f 1222) - (1 : Int32))), none, none], [], Wd f fl (va_up g 43 (upd (g 43) ((f 1222).toNatClampNeg) 0)) gl hh v tx)) rfl ?_
  exact h1

set_option maxRecDepth 20000 in
theorem b_yca_pick_38_19_17 (X : mm_X) (d : Nat) (f : Nat → Int32) (fl : Nat → Int64) (g : Nat → Nat → Int32) (gl : Nat → Nat → Int64) (hh : Nat → Nat → Option Nat) (v : Nat → Value) (tx : mm_W) (l2 : Int32) (l3 : Int32)  (P : Option Value → mm_W → Prop)
    (h : ((l3 < 0) → WP X (d) 8 (90, [some (.ref 38), some (.ref 19), some (.int l2), some (.int 0), none, none], [], Wd (va_up (va_up f 2438 ((g 43) 0)) 2437 0) fl g gl hh v tx) P) ∧
    ((¬ (l3 < 0)) → WP X (d) 8 (28, [some (.ref 38), some (.ref 19), some (.int l2), some (.int l3), some (.int 1000000), some (.int 0)], [], Wd f fl g gl hh v tx) P)) :
    WP X (d) 8 (17, [some (.ref 38), some (.ref 19), some (.int l2), some (.int l3), none, none], [], Wd f fl g gl hh v tx) P := by
  refine WP.run hP_8 1 (c' := (18, [some (.ref 38), some (.ref 19), some (.int l2), some (.int l3), none, none], [.int l3], Wd f fl g gl hh v tx)) rfl ?_
  refine WP.br hP_8 (q := l3 < 0) (t := 73) (f := 21) (L := [some (.ref 38), some (.ref 19), some (.int l2), some (.int l3), none, none]) (st := []) (w := Wd f fl g gl hh v tx) rfl (fun c1 => ?_) (fun c1 => ?_)
  · have h2 := h.1 c1
    refine WP.run hP_8 4 (c' := (79, [some (.ref 38), some (.ref 19), some (.int l2), none, none, none], [.int 0, .ref 43, .ref 38], Wd f fl g gl hh v tx)) rfl ?_
    refine WP.of (fun _ _ => Ex.iald hP_8 rfl (Wa_43 _ _ _ _ _ _ _) (by decide)) ?_
    show WP X _ 8 (80, [some (.ref 38), some (.ref 19), some (.int l2), none, none, none], [.int ((g 43) 0), .ref 38], Wd f fl g gl hh v tx) P
    refine WP.run hP_8 5 (c' := (89, [some (.ref 38), some (.ref 19), some (.int l2), none, none, none], [.int 0], Wd (va_up (va_up f 2438 ((g 43) 0)) 2437 0) fl g gl hh v tx)) rfl ?_
    refine WP.run hP_8 1 (c' := (90, [some (.ref 38), some (.ref 19), some (.int l2), some (.int 0), none, none], [], Wd (va_up (va_up f 2438 ((g 43) 0)) 2437 0) fl g gl hh v tx)) rfl ?_
    exact h2
  · have h3 := h.2 c1
    refine WP.run hP_8 3 (c' := (26, [some (.ref 38), some (.ref 19), some (.int l2), some (.int l3), some (.int 1000000), none], [.int 0], Wd f fl g gl hh v tx)) rfl ?_
    refine WP.run hP_8 1 (c' := (28, [some (.ref 38), some (.ref 19), some (.int l2), some (.int l3), some (.int 1000000), some (.int 0)], [], Wd f fl g gl hh v tx)) rfl ?_
    exact h3

set_option maxRecDepth 20000 in
theorem b_yca_pick_38_19_90 (X : mm_X) (d : Nat) (f : Nat → Int32) (fl : Nat → Int64) (g : Nat → Nat → Int32) (gl : Nat → Nat → Int64) (hh : Nat → Nat → Option Nat) (v : Nat → Value) (tx : mm_W) (l2 : Int32) (l3 : Int32)  (P : Option Value → mm_W → Prop)
    (h : ((1000000 ≤ (f 2438)) → (((1000000 ≤ (f 2438)) → P (some (.int 0)) (Wd f fl g gl hh v tx)) ∧
      ((¬ (1000000 ≤ (f 2438))) → P (some (.int 1)) (Wd f fl g gl hh v tx)))) ∧
    ((¬ (1000000 ≤ (f 2438))) → ((((f 1222) ≤ l3) → (((1000000 ≤ (f 2438)) → P (some (.int 0)) (Wd f fl g gl hh v tx)) ∧
        ((¬ (1000000 ≤ (f 2438))) → P (some (.int 1)) (Wd f fl g gl hh v tx)))) ∧
      ((¬ ((f 1222) ≤ l3)) → (((12 ≤ (f 2437)) → (((1000000 ≤ (f 2438)) → P (some (.int 0)) (Wd f fl g gl hh v tx)) ∧
          ((¬ (1000000 ≤ (f 2438))) → P (some (.int 1)) (Wd f fl g gl hh v tx)))) ∧
        ((¬ (12 ≤ (f 2437))) → WP X (d) 8 (119, [some (.ref 38), some (.ref 19), some (.int l2), some (.int l3), some (.int 0), none], [], Wd f fl g gl hh v tx) P)))))) :
    WP X (d) 8 (90, [some (.ref 38), some (.ref 19), some (.int l2), some (.int l3), none, none], [], Wd f fl g gl hh v tx) P := by
  refine WP.run hP_8 3 (c' := (96, [some (.ref 38), some (.ref 19), some (.int l2), some (.int l3), none, none], [.int 1000000, .int (f 2438)], Wd f fl g gl hh v tx)) rfl ?_
  refine WP.br hP_8 (q := 1000000 ≤ (f 2438)) (t := 192) (f := 99) (L := [some (.ref 38), some (.ref 19), some (.int l2), some (.int l3), none, none]) (st := []) (w := Wd f fl g gl hh v tx) rfl (fun c1 => ?_) (fun c1 => ?_)
  · have h2 := h.1 c1
    refine WP.run hP_8 3 (c' := (198, [some (.ref 38), none, none, none, none, none], [.int 1000000, .int (f 2438)], Wd f fl g gl hh v tx)) rfl ?_
    refine WP.br hP_8 (q := 1000000 ≤ (f 2438)) (t := 205) (f := 201) (L := [some (.ref 38), none, none, none, none, none]) (st := []) (w := Wd f fl g gl hh v tx) rfl (fun c3 => ?_) (fun c3 => ?_)
    · have h4 := h2.1 c3
      refine WP.run hP_8 1 (c' := (206, [none, none, none, none, none, none], [.int 0], Wd f fl g gl hh v tx)) rfl ?_
      exact WP.ret hP_8 (r := some (.int 0)) (w' := Wd f fl g gl hh v tx) rfl h4
    · have h5 := h2.2 c3
      refine WP.run hP_8 2 (c' := (206, [some (.ref 38), none, none, none, none, none], [.int 1], Wd f fl g gl hh v tx)) rfl ?_
      exact WP.ret hP_8 (r := some (.int 1)) (w' := Wd f fl g gl hh v tx) rfl h5
  · have h6 := h.2 c1
    refine WP.run hP_8 3 (c' := (104, [some (.ref 38), some (.ref 19), some (.int l2), some (.int l3), none, none], [.int (f 1222), .int l3], Wd f fl g gl hh v tx)) rfl ?_
    refine WP.br hP_8 (q := (f 1222) ≤ l3) (t := 192) (f := 107) (L := [some (.ref 38), some (.ref 19), some (.int l2), some (.int l3), none, none]) (st := []) (w := Wd f fl g gl hh v tx) rfl (fun c7 => ?_) (fun c7 => ?_)
    · have h8 := h6.1 c7
      refine WP.run hP_8 3 (c' := (198, [some (.ref 38), none, none, none, none, none], [.int 1000000, .int (f 2438)], Wd f fl g gl hh v tx)) rfl ?_
      refine WP.br hP_8 (q := 1000000 ≤ (f 2438)) (t := 205) (f := 201) (L := [some (.ref 38), none, none, none, none, none]) (st := []) (w := Wd f fl g gl hh v tx) rfl (fun c9 => ?_) (fun c9 => ?_)
      · have h10 := h8.1 c9
        refine WP.run hP_8 1 (c' := (206, [none, none, none, none, none, none], [.int 0], Wd f fl g gl hh v tx)) rfl ?_
        exact WP.ret hP_8 (r := some (.int 0)) (w' := Wd f fl g gl hh v tx) rfl h10
      · have h11 := h8.2 c9
        refine WP.run hP_8 2 (c' := (206, [some (.ref 38), none, none, none, none, none], [.int 1], Wd f fl g gl hh v tx)) rfl ?_
        exact WP.ret hP_8 (r := some (.int 1)) (w' := Wd f fl g gl hh v tx) rfl h11
    · have h12 := h6.2 c7
      refine WP.run hP_8 3 (c' := (113, [some (.ref 38), some (.ref 19), some (.int l2), some (.int l3), none, none], [.int 12, .int (f 2437)], Wd f fl g gl hh v tx)) rfl ?_
      refine WP.br hP_8 (q := 12 ≤ (f 2437)) (t := 192) (f := 116) (L := [some (.ref 38), some (.ref 19), some (.int l2), some (.int l3), none, none]) (st := []) (w := Wd f fl g gl hh v tx) rfl (fun c13 => ?_) (fun c13 => ?_)
      · have h14 := h12.1 c13
        refine WP.run hP_8 3 (c' := (198, [some (.ref 38), none, none, none, none, none], [.int 1000000, .int (f 2438)], Wd f fl g gl hh v tx)) rfl ?_
        refine WP.br hP_8 (q := 1000000 ≤ (f 2438)) (t := 205) (f := 201) (L := [some (.ref 38), none, none, none, none, none]) (st := []) (w := Wd f fl g gl hh v tx) rfl (fun c15 => ?_) (fun c15 => ?_)
        · have h16 := h14.1 c15
          refine WP.run hP_8 1 (c' := (206, [none, none, none, none, none, none], [.int 0], Wd f fl g gl hh v tx)) rfl ?_
          exact WP.ret hP_8 (r := some (.int 0)) (w' := Wd f fl g gl hh v tx) rfl h16
        · have h17 := h14.2 c15
          refine WP.run hP_8 2 (c' := (206, [some (.ref 38), none, none, none, none, none], [.int 1], Wd f fl g gl hh v tx)) rfl ?_
          exact WP.ret hP_8 (r := some (.int 1)) (w' := Wd f fl g gl hh v tx) rfl h17
      · have h18 := h12.2 c13
        refine WP.run hP_8 2 (c' := (119, [some (.ref 38), some (.ref 19), some (.int l2), some (.int l3), some (.int 0), none], [], Wd f fl g gl hh v tx)) rfl ?_
        exact h18

set_option maxRecDepth 20000 in
theorem b_yca_pick_38_19_28 (X : mm_X) (d : Nat) (f : Nat → Int32) (fl : Nat → Int64) (g : Nat → Nat → Int32) (gl : Nat → Nat → Int64) (hh : Nat → Nat → Option Nat) (v : Nat → Value) (tx : mm_W) (l2 : Int32) (l3 : Int32) (l4 : Int32) (l5 : Int32)  (P : Option Value → mm_W → Prop)
    (h : (((f 1216) ≤ l5) → ((¬ (l3 < 0 ∨ 13 ≤ l3.toNatClampNeg)) ∧ WP X (d + 1) 8 (17, [some (.ref 38), some (.ref 19), some (.int l2), some (.int (l3 + (-1 : Int32))), none, none], [], Wd f fl (va_up g 43 (upd (g 43) (l3.toNatClampNeg) l4)) gl hh v tx) P)) ∧
    ((¬ ((f 1216) ≤ l5)) → WP X (d) 9 (0, [some (.ref 38), some (.ref 19), some (.int l5), some (.int l3), some (.int l2), none, none], [], Wd f fl g gl hh v tx) (fun rv w2 => WP X (d + 1) 8 (48, [some (.ref 38), some (.ref 19), some (.int l2), some (.int l3), some (.int l4), some (.int l5)], rv.toList ++ [.int l4], w2) P))) :
    WP X (d + 1) 8 (28, [some (.ref 38), some (.ref 19), some (.int l2), some (.int l3), some (.int l4), some (.int l5)], [], Wd f fl g gl hh v tx) P := by
  refine WP.run hP_8 3 (c' := (34, [some (.ref 38), some (.ref 19), some (.int l2), some (.int l3), some (.int l4), some (.int l5)], [.int (f 1216), .int l5], Wd f fl g gl hh v tx)) rfl ?_
  refine WP.br hP_8 (q := (f 1216) ≤ l5) (t := 59) (f := 37) (L := [some (.ref 38), some (.ref 19), some (.int l2), some (.int l3), some (.int l4), some (.int l5)]) (st := []) (w := Wd f fl g gl hh v tx) rfl (fun c1 => ?_) (fun c1 => ?_)
  · have h2 := h.1 c1
    refine WP.run hP_8 4 (c' := (66, [some (.ref 38), some (.ref 19), some (.int l2), some (.int l3), some (.int l4), none], [.int l4, .int l3, .ref 43], Wd f fl g gl hh v tx)) rfl ?_
    refine WP.of (fun _ _ => Ex.iast hP_8 (w2 := Wd f fl (va_up g 43 (upd (g 43) (l3.toNatClampNeg) l4)) gl hh v tx) rfl (Wa_43 _ _ _ _ _ _ _) h2.1 (Ws_43 _ _ _ _ _ _ _ _)) ?_
    have h3 := h2.2
    refine WP.run hP_8 2 (c' := (17, [some (.ref 38), some (.ref 19), some (.int l2), some (.int (l3 + (-1 : Int32))), some (.int l4), none], [], Wd f fl (va_up g 43 (upd (g 43) (l3.toNatClampNeg) l4)) gl hh v tx)) rfl ?_
    refine WP.clr hP_8 (pc := 17) rfl ?_
    exact h3
  · have h4 := h.2 c1
    refine WP.run hP_8 6 (c' := (45, [some (.ref 38), some (.ref 19), some (.int l2), some (.int l3), some (.int l4), some (.int l5)], [.int l2, .int l3, .int l5, .ref 19, .ref 38, .int l4], Wd f fl g gl hh v tx)) rfl ?_
    refine WP.call hP_8 hP_9 (as := [.ref 38, .ref 19, .int l5, .int l3, .int l2]) (pc' := 48) (L' := [some (.ref 38), some (.ref 19), some (.int l2), some (.int l3), some (.int l4), some (.int l5)]) (st' := [.int l4]) (w1 := Wd f fl g gl hh v tx) rfl ⟨Nat.le_of_ble_eq_true rfl, Nat.le_of_ble_eq_true rfl⟩ rfl ?_
    exact h4

set_option maxRecDepth 20000 in
theorem b_yca_pick_38_19_119 (X : mm_X) (d : Nat) (f : Nat → Int32) (fl : Nat → Int64) (g : Nat → Nat → Int32) (gl : Nat → Nat → Int64) (hh : Nat → Nat → Option Nat) (v : Nat → Value) (tx : mm_W) (l2 : Int32) (l3 : Int32) (l4 : Int32)  (P : Option Value → mm_W → Prop)
    (h : ((((f 1216) - (1 : Int32)) ≤ l4) → ((¬ ((f 2437) < 0 ∨ 12 ≤ (f 2437).toNatClampNeg)) ∧ ((¬ (l4 < 0 ∨ 8 ≤ l4.toNatClampNeg)) ∧ WP X (d + 1) 8 (90, [some (.ref 38), some (.ref 19), some (.int l2), some (.int (l3 + (if 1 < ((g 21) l4.toNatClampNeg) then ((g 21) l4.toNatClampNeg) else 1))), none, none], [], Wd (va_up f 2437 ((f 2437) + (1 : Int32))) fl (va_up g 44 (upd (g 44) ((f 2437).toNatClampNeg) l4)) gl hh v tx) P))) ∧
    ((¬ (((f 1216) - (1 : Int32)) ≤ l4)) → WP X (d) 9 (0, [some (.ref 38), some (.ref 19), some (.int l4), some (.int l3), some (.int l2), none, none], [], Wd f fl g gl hh v tx) (fun rv w2 => WP X (d + 1) 8 (139, [some (.ref 38), some (.ref 19), some (.int l2), some (.int l3), some (.int l4), none], rv.toList ++ [], w2) P))) :
    WP X (d + 1) 8 (119, [some (.ref 38), some (.ref 19), some (.int l2), some (.int l3), some (.int l4), none], [], Wd f fl g gl hh v tx) P := by
  refine WP.run hP_8 5 (c' := (127, [some (.ref 38), some (.ref 19), some (.int l2), some (.int l3), some (.int l4), none], [.int ((f 1216) - (1 : Int32)), .int l4], Wd f fl g gl hh v tx)) rfl ?_
  refine WP.br hP_8 (q := ((f 1216) - (1 : Int32)) ≤ l4) (t := 154) (f := 130) (L := [some (.ref 38), some (.ref 19), some (.int l2), some (.int l3), some (.int l4), none]) (st := []) (w := Wd f fl g gl hh v tx) rfl (fun c1 => ?_) (fun c1 => ?_)
  · have h2 := h.1 c1
    refine WP.run hP_8 5 (c' := (164, [some (.ref 38), some (.ref 19), some (.int l2), some (.int l3), some (.int l4), none], [.int l4, .int (f 2437), .ref 44], Wd f fl g gl hh v tx)) rfl ?_
    refine WP.of (fun _ _ => Ex.iast hP_8 (w2 := Wd f fl (va_up g 44 (upd (g 44) ((f 2437).toNatClampNeg) l4)) gl hh v tx) rfl (Wa_44 _ _ _ _ _ _ _) h2.1 (Ws_44 _ _ _ _ _ _ _ _)) ?_
    have h3 := h2.2
    refine WP.run hP_8 11 (c' := (183, [some (.ref 38), some (.ref 19), some (.int l2), some (.int l3), some (.int l4), none], [.int l4, .ref 21, .int 1, .int l3], Wd (va_up f 2437 ((f 2437) + (1 : Int32))) fl (va_up g 44 (upd (g 44) ((f 2437).toNatClampNeg) l4)) gl hh v tx)) rfl ?_
    refine WP.of (fun _ _ => Ex.iald hP_8 rfl (Wa_21 _ _ _ _ _ _ _) h3.1) ?_
    have h4 := h3.2
    refine WP.run hP_8 4 (c' := (90, [some (.ref 38), some (.ref 19), some (.int l2), some (.int (l3 + (if 1 < ((g 21) l4.toNatClampNeg) then ((g 21) l4.toNatClampNeg) else 1))), some (.int l4), none], [], Wd (va_up f 2437 ((f 2437) + (1 : Int32))) fl (va_up g 44 (upd (g 44) ((f 2437).toNatClampNeg) l4)) gl hh v tx)) rfl ?_
    refine WP.clr hP_8 (pc := 90) rfl ?_
    exact h4
  · have h5 := h.2 c1
    refine WP.run hP_8 5 (c' := (136, [some (.ref 38), some (.ref 19), some (.int l2), some (.int l3), some (.int l4), none], [.int l2, .int l3, .int l4, .ref 19, .ref 38], Wd f fl g gl hh v tx)) rfl ?_
    refine WP.call hP_8 hP_9 (as := [.ref 38, .ref 19, .int l4, .int l3, .int l2]) (pc' := 139) (L' := [some (.ref 38), some (.ref 19), some (.int l2), some (.int l3), some (.int l4), none]) (st' := []) (w1 := Wd f fl g gl hh v tx) rfl ⟨Nat.le_of_ble_eq_true rfl, Nat.le_of_ble_eq_true rfl⟩ rfl ?_
    exact h5

set_option maxRecDepth 20000 in
theorem b_yca_pick_38_19_48 (X : mm_X) (d : Nat) (f : Nat → Int32) (fl : Nat → Int64) (g : Nat → Nat → Int32) (gl : Nat → Nat → Int64) (hh : Nat → Nat → Option Nat) (v : Nat → Value) (tx : mm_W) (l2 : Int32) (l3 : Int32) (l4 : Int32) (l5 : Int32) (s0 : Int32) (s1 : Int32)  (P : Option Value → mm_W → Prop)
    (h : WP X (d) 8 (28, [some (.ref 38), some (.ref 19), some (.int l2), some (.int l3), some (.int (if s0 < s1 then s0 else s1)), some (.int (l5 + (1 : Int32)))], [], Wd f fl g gl hh v tx) P) :
    WP X (d) 8 (48, [some (.ref 38), some (.ref 19), some (.int l2), some (.int l3), some (.int l4), some (.int l5)], [.int s0, .int s1], Wd f fl g gl hh v tx) P := by
  refine WP.run hP_8 2 (c' := (53, [some (.ref 38), some (.ref 19), some (.int l2), some (.int l3), some (.int (if s0 < s1 then s0 else s1)), some (.int l5)], [], Wd f fl g gl hh v tx)) rfl ?_
  refine WP.run hP_8 2 (c' := (28, [some (.ref 38), some (.ref 19), some (.int l2), some (.int l3), some (.int (if s0 < s1 then s0 else s1)), some (.int (l5 + (1 : Int32)))], [], Wd f fl g gl hh v tx)) rfl ?_
  exact h

set_option maxRecDepth 20000 in
theorem b_yca_pick_38_19_139 (X : mm_X) (d : Nat) (f : Nat → Int32) (fl : Nat → Int64) (g : Nat → Nat → Int32) (gl : Nat → Nat → Int64) (hh : Nat → Nat → Option Nat) (v : Nat → Value) (tx : mm_W) (l2 : Int32) (l3 : Int32) (l4 : Int32) (s0 : Int32)  (P : Option Value → mm_W → Prop)
    (h : (¬ (l3 < 0 ∨ 13 ≤ l3.toNatClampNeg)) ∧ (((s0 = ((g 43) l3.toNatClampNeg)) → ((¬ ((f 2437) < 0 ∨ 12 ≤ (f 2437).toNatClampNeg)) ∧ ((¬ (l4 < 0 ∨ 8 ≤ l4.toNatClampNeg)) ∧ WP X (d) 8 (90, [some (.ref 38), some (.ref 19), some (.int l2), some (.int (l3 + (if 1 < ((g 21) l4.toNatClampNeg) then ((g 21) l4.toNatClampNeg) else 1))), none, none], [], Wd (va_up f 2437 ((f 2437) + (1 : Int32))) fl (va_up g 44 (upd (g 44) ((f 2437).toNatClampNeg) l4)) gl hh v tx) P))) ∧
    ((¬ s0 = ((g 43) l3.toNatClampNeg)) → WP X (d) 8 (119, [some (.ref 38), some (.ref 19), some (.int l2), some (.int l3), some (.int (l4 + (1 : Int32))), none], [], Wd f fl g gl hh v tx) P))) :
    WP X (d) 8 (139, [some (.ref 38), some (.ref 19), some (.int l2), some (.int l3), some (.int l4), none], [.int s0], Wd f fl g gl hh v tx) P := by
  refine WP.run hP_8 3 (c' := (144, [some (.ref 38), some (.ref 19), some (.int l2), some (.int l3), some (.int l4), none], [.int l3, .ref 43, .int s0], Wd f fl g gl hh v tx)) rfl ?_
  refine WP.of (fun _ _ => Ex.iald hP_8 rfl (Wa_43 _ _ _ _ _ _ _) h.1) ?_
  have h1 := h.2
  refine WP.br hP_8 (q := s0 = ((g 43) l3.toNatClampNeg)) (t := 154) (f := 148) (L := [some (.ref 38), some (.ref 19), some (.int l2), some (.int l3), some (.int l4), none]) (st := []) (w := Wd f fl g gl hh v tx) rfl (fun c2 => ?_) (fun c2 => ?_)
  · have h3 := h1.1 c2
    refine WP.run hP_8 5 (c' := (164, [some (.ref 38), some (.ref 19), some (.int l2), some (.int l3), some (.int l4), none], [.int l4, .int (f 2437), .ref 44], Wd f fl g gl hh v tx)) rfl ?_
    refine WP.of (fun _ _ => Ex.iast hP_8 (w2 := Wd f fl (va_up g 44 (upd (g 44) ((f 2437).toNatClampNeg) l4)) gl hh v tx) rfl (Wa_44 _ _ _ _ _ _ _) h3.1 (Ws_44 _ _ _ _ _ _ _ _)) ?_
    have h4 := h3.2
    refine WP.run hP_8 11 (c' := (183, [some (.ref 38), some (.ref 19), some (.int l2), some (.int l3), some (.int l4), none], [.int l4, .ref 21, .int 1, .int l3], Wd (va_up f 2437 ((f 2437) + (1 : Int32))) fl (va_up g 44 (upd (g 44) ((f 2437).toNatClampNeg) l4)) gl hh v tx)) rfl ?_
    refine WP.of (fun _ _ => Ex.iald hP_8 rfl (Wa_21 _ _ _ _ _ _ _) h4.1) ?_
    have h5 := h4.2
    refine WP.run hP_8 4 (c' := (90, [some (.ref 38), some (.ref 19), some (.int l2), some (.int (l3 + (if 1 < ((g 21) l4.toNatClampNeg) then ((g 21) l4.toNatClampNeg) else 1))), some (.int l4), none], [], Wd (va_up f 2437 ((f 2437) + (1 : Int32))) fl (va_up g 44 (upd (g 44) ((f 2437).toNatClampNeg) l4)) gl hh v tx)) rfl ?_
    refine WP.clr hP_8 (pc := 90) rfl ?_
    exact h5
  · have h6 := h1.2 c2
    refine WP.run hP_8 2 (c' := (119, [some (.ref 38), some (.ref 19), some (.int l2), some (.int l3), some (.int (l4 + (1 : Int32))), none], [], Wd f fl g gl hh v tx)) rfl ?_
    exact h6

set_option maxRecDepth 20000 in
theorem b_yca_weighs_38_19_0 (X : mm_X) (d : Nat) (f : Nat → Int32) (fl : Nat → Int64) (g : Nat → Nat → Int32) (gl : Nat → Nat → Int64) (hh : Nat → Nat → Option Nat) (v : Nat → Value) (tx : mm_W) (p0 : Int32)  (P : Option Value → mm_W → Prop)
    (h : (¬ (p0 < 0 ∨ 8 ≤ p0.toNatClampNeg)) ∧ ((¬ (p0 < 0 ∨ 8 ≤ p0.toNatClampNeg)) ∧ WP X (d) 6 (0, [some (.ref 38), some (.int 0), some (.int ((g 22) p0.toNatClampNeg)), none, none, none], [], Wd f fl (va_up (va_up g 41 (upd (g 41) 1 p0)) 41 (upd (upd (g 41) 1 p0) 2 ((g 21) p0.toNatClampNeg))) gl hh v tx) (fun rv w2 => WP X (d + 1) 3 (30, [some (.ref 38), some (.ref 19), some (.int p0), none, none], rv.toList ++ [], w2) P))) :
    WP X (d + 1) 3 (0, [some (.ref 38), some (.ref 19), some (.int p0), none, none], [], Wd f fl g gl hh v tx) P := by
  refine WP.run hP_3 4 (c' := (6, [some (.ref 38), some (.ref 19), some (.int p0), none, none], [.int p0, .int 1, .ref 41], Wd f fl g gl hh v tx)) rfl ?_
  refine WP.of (fun _ _ => Ex.iast hP_3 (w2 := Wd f fl (va_up g 41 (upd (g 41) 1 p0)) gl hh v tx) rfl (Wa_41 _ _ _ _ _ _ _) (by decide) (Ws_41 _ _ _ _ _ _ _ _)) ?_
  refine WP.run hP_3 6 (c' := (17, [some (.ref 38), some (.ref 19), some (.int p0), none, none], [.int p0, .ref 21, .int 2, .ref 41], Wd f fl (va_up g 41 (upd (g 41) 1 p0)) gl hh v tx)) rfl ?_
  refine WP.of (fun _ _ => Ex.iald hP_3 rfl (Wa_21 _ _ _ _ _ _ _) h.1) ?_
  have h1 := h.2
  refine WP.of (fun _ _ => Ex.iast hP_3 (w2 := Wd f fl (va_up (va_up g 41 (upd (g 41) 1 p0)) 41 (upd (upd (g 41) 1 p0) 2 ((g 21) p0.toNatClampNeg))) gl hh v tx) rfl (Wa_41 _ _ _ _ _ _ _) (by decide) (Ws_41 _ _ _ _ _ _ _ _)) ?_
  refine WP.run hP_3 5 (c' := (26, [some (.ref 38), some (.ref 19), some (.int p0), none, none], [.int p0, .ref 22, .int 0, .ref 38], Wd f fl (va_up (va_up g 41 (upd (g 41) 1 p0)) 41 (upd (upd (g 41) 1 p0) 2 ((g 21) p0.toNatClampNeg))) gl hh v tx)) rfl ?_
  refine WP.of (fun _ _ => Ex.iald hP_3 rfl (Wa_22 _ _ _ _ _ _ _) h1.1) ?_
  have h2 := h1.2
  refine WP.call hP_3 hP_6 (as := [.ref 38, .int 0, .int ((g 22) p0.toNatClampNeg)]) (pc' := 30) (L' := [some (.ref 38), some (.ref 19), some (.int p0), none, none]) (st' := []) (w1 := Wd f fl (va_up (va_up g 41 (upd (g 41) 1 p0)) 41 (upd (upd (g 41) 1 p0) 2 ((g 21) p0.toNatClampNeg))) gl hh v tx) rfl ⟨Nat.le_of_ble_eq_true rfl, Nat.le_of_ble_eq_true rfl⟩ rfl ?_
  exact h2

set_option maxRecDepth 20000 in
theorem b_yca_weighs_38_19_30 (X : mm_X) (d : Nat) (f : Nat → Int32) (fl : Nat → Int64) (g : Nat → Nat → Int32) (gl : Nat → Nat → Int64) (hh : Nat → Nat → Option Nat) (v : Nat → Value) (tx : mm_W) (l2 : Int32) (s0 : Int64)  (P : Option Value → mm_W → Prop)
    (h : ((¬ (lg_cmp s0 (-9223372036854775808)) = 0) → P (some (.int (((if (if s0 < 99 then s0 else 99) < 0 then 0 else (if s0 < 99 then s0 else 99)) : Int64).toInt32))) (Wd f fl g gl hh v tx)) ∧
    (((lg_cmp s0 (-9223372036854775808)) = 0) → ((¬ (l2 < 0 ∨ 8 ≤ l2.toNatClampNeg)) ∧ P (some (.int ((g 21) l2.toNatClampNeg))) (Wd f fl g gl hh v tx)))) :
    WP X (d) 3 (30, [some (.ref 38), some (.ref 19), some (.int l2), none, none], [.long s0], Wd f fl g gl hh v tx) P := by
  refine WP.run hP_3 4 (c' := (36, [some (.ref 38), some (.ref 19), some (.int l2), some (.long s0), none], [.int (lg_cmp s0 (-9223372036854775808))], Wd f fl g gl hh v tx)) rfl ?_
  refine WP.br hP_3 (q := ¬ (lg_cmp s0 (-9223372036854775808)) = 0) (t := 48) (f := 39) (L := [some (.ref 38), some (.ref 19), some (.int l2), some (.long s0), none]) (st := []) (w := Wd f fl g gl hh v tx) rfl (fun c1 => ?_) (fun c1 => ?_)
  · have h2 := h.1 c1
    refine WP.run hP_3 6 (c' := (60, [none, none, none, some (.long s0), none], [.int (((if (if s0 < 99 then s0 else 99) < 0 then 0 else (if s0 < 99 then s0 else 99)) : Int64).toInt32)], Wd f fl g gl hh v tx)) rfl ?_
    exact WP.retI hP_3 rfl rfl h2
  · have h3 := h.2 (Classical.not_not.mp c1)
    refine WP.run hP_3 3 (c' := (44, [some (.ref 38), some (.ref 19), some (.int l2), some (.long s0), none], [.int l2, .ref 21], Wd f fl g gl hh v tx)) rfl ?_
    refine WP.of (fun _ _ => Ex.iald hP_3 rfl (Wa_21 _ _ _ _ _ _ _) h3.1) ?_
    have h4 := h3.2
    refine WP.run hP_3 1 (c' := (60, [some (.ref 38), some (.ref 19), some (.int l2), some (.long s0), none], [.int ((g 21) l2.toNatClampNeg)], Wd f fl g gl hh v tx)) rfl ?_
    exact WP.retI hP_3 rfl rfl h4

set_option maxRecDepth 20000 in
theorem b_yca_choose_19n_0 (X : mm_X) (d : Nat) (f : Nat → Int32) (fl : Nat → Int64) (g : Nat → Nat → Int32) (gl : Nat → Nat → Int64) (hh : Nat → Nat → Option Nat) (v : Nat → Value) (tx : mm_W) (p0 : Int32)  (P : Option Value → mm_W → Prop)
    (h : (¬ (p0 < 0 ∨ 3 ≤ p0.toNatClampNeg)) ∧ WP X (d + 1) 7 (10, [some (.ref 38), some (.ref 19), none, none, some (.int 0)], [], Wd (va_up f 2440 ((g 23) p0.toNatClampNeg)) fl (va_up (va_up (va_up g 41 (upd (g 41) 0 p0)) 41 (upd (upd (g 41) 0 p0) 6 ((g 26) 0))) 41 (upd (upd (upd (g 41) 0 p0) 6 ((g 26) 0)) 7 ((g 26) 2))) gl hh (va_up v 2439 (.null)) tx) P) :
    WP X (d + 1) 7 (0, [some (.ref 38), some (.ref 19), some (.int p0), some (.null), none], [], Wd f fl g gl hh v tx) P := by
  refine WP.run hP_7 4 (c' := (4, [some (.ref 38), some (.ref 19), some (.int p0), some (.null), none], [.null, .int p0, .ref 19, .ref 38], Wd f fl g gl hh v tx)) rfl ?_
  refine WP.call hP_7 hP_2 (as := [.ref 38, .ref 19, .int p0, .null]) (pc' := 7) (L' := [some (.ref 38), some (.ref 19), some (.int p0), some (.null), none]) (st' := []) (w1 := Wd f fl g gl hh v tx) rfl ⟨Nat.le_of_ble_eq_true rfl, Nat.le_of_ble_eq_true rfl⟩ rfl (b_yca_board_19n_0 X (d) f fl g gl hh v tx p0 _ ?_)
  refine ⟨h.1, ?_⟩
  have h1 := h.2
  refine WP.run hP_7 2 (c' := (10, [some (.ref 38), some (.ref 19), some (.int p0), some (.null), some (.int 0)], [], Wd (va_up f 2440 ((g 23) p0.toNatClampNeg)) fl (va_up (va_up (va_up g 41 (upd (g 41) 0 p0)) 41 (upd (upd (g 41) 0 p0) 6 ((g 26) 0))) 41 (upd (upd (upd (g 41) 0 p0) 6 ((g 26) 0)) 7 ((g 26) 2))) gl hh (va_up v 2439 (.null)) tx)) rfl ?_
  refine WP.clr hP_7 (pc := 10) rfl ?_
  exact h1

set_option maxRecDepth 20000 in
theorem b_yca_choose_19n_10 (X : mm_X) (d : Nat) (f : Nat → Int32) (fl : Nat → Int64) (g : Nat → Nat → Int32) (gl : Nat → Nat → Int64) (hh : Nat → Nat → Option Nat) (v : Nat → Value) (tx : mm_W) (l4 : Int32)  (P : Option Value → mm_W → Prop)
    (h : (((f 1216) ≤ l4) → WP X (d) 8 (0, [some (.ref 38), some (.ref 19), some (.int 0), none, none, none], [], Wd f fl g gl hh v tx) (fun rv w2 => WP X (d + 1) 7 (45, [some (.ref 38), some (.ref 19), none, none, none], rv.toList ++ [], w2) P)) ∧
    ((¬ ((f 1216) ≤ l4)) → WP X (d) 3 (0, [some (.ref 38), some (.ref 19), some (.int l4), none, none], [], Wd f fl g gl hh v tx) (fun rv w2 => WP X (d + 1) 7 (32, [some (.ref 38), some (.ref 19), none, none, some (.int l4)], rv.toList ++ [.int l4, .ref 42], w2) P))) :
    WP X (d + 1) 7 (10, [some (.ref 38), some (.ref 19), none, none, some (.int l4)], [], Wd f fl g gl hh v tx) P := by
  refine WP.run hP_7 3 (c' := (16, [some (.ref 38), some (.ref 19), none, none, some (.int l4)], [.int (f 1216), .int l4], Wd f fl g gl hh v tx)) rfl ?_
  refine WP.br hP_7 (q := (f 1216) ≤ l4) (t := 39) (f := 19) (L := [some (.ref 38), some (.ref 19), none, none, some (.int l4)]) (st := []) (w := Wd f fl g gl hh v tx) rfl (fun c1 => ?_) (fun c1 => ?_)
  · have h2 := h.1 c1
    refine WP.run hP_7 3 (c' := (42, [some (.ref 38), some (.ref 19), none, none, none], [.int 0, .ref 19, .ref 38], Wd f fl g gl hh v tx)) rfl ?_
    refine WP.call hP_7 hP_8 (as := [.ref 38, .ref 19, .int 0]) (pc' := 45) (L' := [some (.ref 38), some (.ref 19), none, none, none]) (st' := []) (w1 := Wd f fl g gl hh v tx) rfl ⟨Nat.le_of_ble_eq_true rfl, Nat.le_of_ble_eq_true rfl⟩ rfl ?_
    exact h2
  · have h3 := h.2 c1
    refine WP.run hP_7 6 (c' := (29, [some (.ref 38), some (.ref 19), none, none, some (.int l4)], [.int l4, .ref 19, .ref 38, .int l4, .ref 42], Wd f fl g gl hh v tx)) rfl ?_
    refine WP.call hP_7 hP_3 (as := [.ref 38, .ref 19, .int l4]) (pc' := 32) (L' := [some (.ref 38), some (.ref 19), none, none, some (.int l4)]) (st' := [.int l4, .ref 42]) (w1 := Wd f fl g gl hh v tx) rfl ⟨Nat.le_of_ble_eq_true rfl, Nat.le_of_ble_eq_true rfl⟩ rfl ?_
    exact h3

set_option maxRecDepth 20000 in
theorem b_yca_choose_19n_45 (X : mm_X) (d : Nat) (f : Nat → Int32) (fl : Nat → Int64) (g : Nat → Nat → Int32) (gl : Nat → Nat → Int64) (hh : Nat → Nat → Option Nat) (v : Nat → Value) (tx : mm_W) (s0 : Int32)  (P : Option Value → mm_W → Prop)
    (h : (s0 = 0 ∨ s0 = 1) ∧ P (some (.int s0)) (Wd f fl g gl hh v tx)) :
    WP X (d) 7 (45, [some (.ref 38), some (.ref 19), none, none, none], [.int s0], Wd f fl g gl hh v tx) P := by
  exact WP.retZ hP_7 rfl rfl h.1 h.2

set_option maxRecDepth 20000 in
theorem b_yca_choose_19n_32 (X : mm_X) (d : Nat) (f : Nat → Int32) (fl : Nat → Int64) (g : Nat → Nat → Int32) (gl : Nat → Nat → Int64) (hh : Nat → Nat → Option Nat) (v : Nat → Value) (tx : mm_W) (l4 : Int32) (s0 : Int32) (s1 : Int32)  (P : Option Value → mm_W → Prop)
    (h : (¬ (s1 < 0 ∨ 8 ≤ s1.toNatClampNeg)) ∧ WP X (d) 7 (10, [some (.ref 38), some (.ref 19), none, none, some (.int (l4 + (1 : Int32)))], [], Wd f fl (va_up g 42 (upd (g 42) (s1.toNatClampNeg) s0)) gl hh v tx) P) :
    WP X (d) 7 (32, [some (.ref 38), some (.ref 19), none, none, some (.int l4)], [.int s0, .int s1, .ref 42], Wd f fl g gl hh v tx) P := by
  refine WP.of (fun _ _ => Ex.iast hP_7 (w2 := Wd f fl (va_up g 42 (upd (g 42) (s1.toNatClampNeg) s0)) gl hh v tx) rfl (Wa_42 _ _ _ _ _ _ _) h.1 (Ws_42 _ _ _ _ _ _ _ _)) ?_
  have h1 := h.2
  refine WP.run hP_7 2 (c' := (10, [some (.ref 38), some (.ref 19), none, none, some (.int (l4 + (1 : Int32)))], [], Wd f fl (va_up g 42 (upd (g 42) (s1.toNatClampNeg) s0)) gl hh v tx)) rfl ?_
  exact h1

set_option maxRecDepth 20000 in
theorem b_yca_board_19t_0 (X : mm_X) (d : Nat) (f : Nat → Int32) (fl : Nat → Int64) (g : Nat → Nat → Int32) (gl : Nat → Nat → Int64) (hh : Nat → Nat → Option Nat) (v : Nat → Value) (tx : mm_W) (p0 : Int32) (t0 : Nat)  (P : Option Value → mm_W → Prop)
    (h : (¬ (p0 < 0 ∨ 3 ≤ p0.toNatClampNeg)) ∧ P none (Wd (va_up f 2440 ((g 23) p0.toNatClampNeg)) fl (va_up (va_up (va_up g 41 (upd (g 41) 0 p0)) 41 (upd (upd (g 41) 0 p0) 6 ((g 26) 0))) 41 (upd (upd (upd (g 41) 0 p0) 6 ((g 26) 0)) 7 ((g 26) 2))) gl hh (va_up v 2439 (.ref t0)) tx)) :
    WP X (d) 2 (0, [some (.ref 38), some (.ref 19), some (.int p0), some (.ref t0)], [], Wd f fl g gl hh v tx) P := by
  refine WP.run hP_2 7 (c' := (11, [some (.ref 38), some (.ref 19), some (.int p0), some (.ref t0)], [.int p0, .ref 23, .ref 38], Wd f fl g gl hh (va_up v 2439 (.ref t0)) tx)) rfl ?_
  refine WP.of (fun _ _ => Ex.iald hP_2 rfl (Wa_23 _ _ _ _ _ _ _) h.1) ?_
  have h1 := h.2
  refine WP.run hP_2 5 (c' := (21, [some (.ref 38), some (.ref 19), some (.int p0), some (.ref t0)], [.int p0, .int 0, .ref 41], Wd (va_up f 2440 ((g 23) p0.toNatClampNeg)) fl g gl hh (va_up v 2439 (.ref t0)) tx)) rfl ?_
  refine WP.of (fun _ _ => Ex.iast hP_2 (w2 := Wd (va_up f 2440 ((g 23) p0.toNatClampNeg)) fl (va_up g 41 (upd (g 41) 0 p0)) gl hh (va_up v 2439 (.ref t0)) tx) rfl (Wa_41 _ _ _ _ _ _ _) (by decide) (Ws_41 _ _ _ _ _ _ _ _)) ?_
  refine WP.run hP_2 6 (c' := (33, [some (.ref 38), some (.ref 19), some (.int p0), some (.ref t0)], [.int 0, .ref 26, .int 6, .ref 41], Wd (va_up f 2440 ((g 23) p0.toNatClampNeg)) fl (va_up g 41 (upd (g 41) 0 p0)) gl hh (va_up v 2439 (.ref t0)) tx)) rfl ?_
  refine WP.of (fun _ _ => Ex.iald hP_2 rfl (Wa_26 _ _ _ _ _ _ _) (by decide)) ?_
  show WP X _ 2 (34, [some (.ref 38), some (.ref 19), some (.int p0), some (.ref t0)], [.int ((g 26) 0), .int 6, .ref 41], Wd (va_up f 2440 ((g 23) p0.toNatClampNeg)) fl (va_up g 41 (upd (g 41) 0 p0)) gl hh (va_up v 2439 (.ref t0)) tx) P
  refine WP.of (fun _ _ => Ex.iast hP_2 (w2 := Wd (va_up f 2440 ((g 23) p0.toNatClampNeg)) fl (va_up (va_up g 41 (upd (g 41) 0 p0)) 41 (upd (upd (g 41) 0 p0) 6 ((g 26) 0))) gl hh (va_up v 2439 (.ref t0)) tx) rfl (Wa_41 _ _ _ _ _ _ _) (by decide) (Ws_41 _ _ _ _ _ _ _ _)) ?_
  refine WP.run hP_2 6 (c' := (46, [some (.ref 38), some (.ref 19), some (.int p0), some (.ref t0)], [.int 2, .ref 26, .int 7, .ref 41], Wd (va_up f 2440 ((g 23) p0.toNatClampNeg)) fl (va_up (va_up g 41 (upd (g 41) 0 p0)) 41 (upd (upd (g 41) 0 p0) 6 ((g 26) 0))) gl hh (va_up v 2439 (.ref t0)) tx)) rfl ?_
  refine WP.of (fun _ _ => Ex.iald hP_2 rfl (Wa_26 _ _ _ _ _ _ _) (by decide)) ?_
  show WP X _ 2 (47, [some (.ref 38), some (.ref 19), some (.int p0), some (.ref t0)], [.int ((g 26) 2), .int 7, .ref 41], Wd (va_up f 2440 ((g 23) p0.toNatClampNeg)) fl (va_up (va_up g 41 (upd (g 41) 0 p0)) 41 (upd (upd (g 41) 0 p0) 6 ((g 26) 0))) gl hh (va_up v 2439 (.ref t0)) tx) P
  refine WP.of (fun _ _ => Ex.iast hP_2 (w2 := Wd (va_up f 2440 ((g 23) p0.toNatClampNeg)) fl (va_up (va_up (va_up g 41 (upd (g 41) 0 p0)) 41 (upd (upd (g 41) 0 p0) 6 ((g 26) 0))) 41 (upd (upd (upd (g 41) 0 p0) 6 ((g 26) 0)) 7 ((g 26) 2))) gl hh (va_up v 2439 (.ref t0)) tx) rfl (Wa_41 _ _ _ _ _ _ _) (by decide) (Ws_41 _ _ _ _ _ _ _ _)) ?_
  exact WP.ret hP_2 (r := none) (w' := Wd (va_up f 2440 ((g 23) p0.toNatClampNeg)) fl (va_up (va_up (va_up g 41 (upd (g 41) 0 p0)) 41 (upd (upd (g 41) 0 p0) 6 ((g 26) 0))) 41 (upd (upd (upd (g 41) 0 p0) 6 ((g 26) 0)) 7 ((g 26) 2))) gl hh (va_up v 2439 (.ref t0)) tx) rfl h1

set_option maxRecDepth 20000 in
theorem b_yca_choose_19t_0 (X : mm_X) (d : Nat) (f : Nat → Int32) (fl : Nat → Int64) (g : Nat → Nat → Int32) (gl : Nat → Nat → Int64) (hh : Nat → Nat → Option Nat) (v : Nat → Value) (tx : mm_W) (p0 : Int32) (t0 : Nat)  (P : Option Value → mm_W → Prop)
    (h : (¬ (p0 < 0 ∨ 3 ≤ p0.toNatClampNeg)) ∧ WP X (d + 1) 7 (10, [some (.ref 38), some (.ref 19), none, none, some (.int 0)], [], Wd (va_up f 2440 ((g 23) p0.toNatClampNeg)) fl (va_up (va_up (va_up g 41 (upd (g 41) 0 p0)) 41 (upd (upd (g 41) 0 p0) 6 ((g 26) 0))) 41 (upd (upd (upd (g 41) 0 p0) 6 ((g 26) 0)) 7 ((g 26) 2))) gl hh (va_up v 2439 (.ref t0)) tx) P) :
    WP X (d + 1) 7 (0, [some (.ref 38), some (.ref 19), some (.int p0), some (.ref t0), none], [], Wd f fl g gl hh v tx) P := by
  refine WP.run hP_7 4 (c' := (4, [some (.ref 38), some (.ref 19), some (.int p0), some (.ref t0), none], [.ref t0, .int p0, .ref 19, .ref 38], Wd f fl g gl hh v tx)) rfl ?_
  refine WP.call hP_7 hP_2 (as := [.ref 38, .ref 19, .int p0, .ref t0]) (pc' := 7) (L' := [some (.ref 38), some (.ref 19), some (.int p0), some (.ref t0), none]) (st' := []) (w1 := Wd f fl g gl hh v tx) rfl ⟨Nat.le_of_ble_eq_true rfl, Nat.le_of_ble_eq_true rfl⟩ rfl (b_yca_board_19t_0 X (d) f fl g gl hh v tx p0 _ ?_)
  refine ⟨h.1, ?_⟩
  have h1 := h.2
  refine WP.run hP_7 2 (c' := (10, [some (.ref 38), some (.ref 19), some (.int p0), some (.ref t0), some (.int 0)], [], Wd (va_up f 2440 ((g 23) p0.toNatClampNeg)) fl (va_up (va_up (va_up g 41 (upd (g 41) 0 p0)) 41 (upd (upd (g 41) 0 p0) 6 ((g 26) 0))) 41 (upd (upd (upd (g 41) 0 p0) 6 ((g 26) 0)) 7 ((g 26) 2))) gl hh (va_up v 2439 (.ref t0)) tx)) rfl ?_
  refine WP.clr hP_7 (pc := 10) rfl ?_
  exact h1

set_option maxRecDepth 20000 in
theorem b_yca_choose_19t_10 (X : mm_X) (d : Nat) (f : Nat → Int32) (fl : Nat → Int64) (g : Nat → Nat → Int32) (gl : Nat → Nat → Int64) (hh : Nat → Nat → Option Nat) (v : Nat → Value) (tx : mm_W) (l4 : Int32)  (P : Option Value → mm_W → Prop)
    (h : (((f 1216) ≤ l4) → WP X (d) 8 (0, [some (.ref 38), some (.ref 19), some (.int 0), none, none, none], [], Wd f fl g gl hh v tx) (fun rv w2 => WP X (d + 1) 7 (45, [some (.ref 38), some (.ref 19), none, none, none], rv.toList ++ [], w2) P)) ∧
    ((¬ ((f 1216) ≤ l4)) → WP X (d) 3 (0, [some (.ref 38), some (.ref 19), some (.int l4), none, none], [], Wd f fl g gl hh v tx) (fun rv w2 => WP X (d + 1) 7 (32, [some (.ref 38), some (.ref 19), none, none, some (.int l4)], rv.toList ++ [.int l4, .ref 42], w2) P))) :
    WP X (d + 1) 7 (10, [some (.ref 38), some (.ref 19), none, none, some (.int l4)], [], Wd f fl g gl hh v tx) P := by
  refine WP.run hP_7 3 (c' := (16, [some (.ref 38), some (.ref 19), none, none, some (.int l4)], [.int (f 1216), .int l4], Wd f fl g gl hh v tx)) rfl ?_
  refine WP.br hP_7 (q := (f 1216) ≤ l4) (t := 39) (f := 19) (L := [some (.ref 38), some (.ref 19), none, none, some (.int l4)]) (st := []) (w := Wd f fl g gl hh v tx) rfl (fun c1 => ?_) (fun c1 => ?_)
  · have h2 := h.1 c1
    refine WP.run hP_7 3 (c' := (42, [some (.ref 38), some (.ref 19), none, none, none], [.int 0, .ref 19, .ref 38], Wd f fl g gl hh v tx)) rfl ?_
    refine WP.call hP_7 hP_8 (as := [.ref 38, .ref 19, .int 0]) (pc' := 45) (L' := [some (.ref 38), some (.ref 19), none, none, none]) (st' := []) (w1 := Wd f fl g gl hh v tx) rfl ⟨Nat.le_of_ble_eq_true rfl, Nat.le_of_ble_eq_true rfl⟩ rfl ?_
    exact h2
  · have h3 := h.2 c1
    refine WP.run hP_7 6 (c' := (29, [some (.ref 38), some (.ref 19), none, none, some (.int l4)], [.int l4, .ref 19, .ref 38, .int l4, .ref 42], Wd f fl g gl hh v tx)) rfl ?_
    refine WP.call hP_7 hP_3 (as := [.ref 38, .ref 19, .int l4]) (pc' := 32) (L' := [some (.ref 38), some (.ref 19), none, none, some (.int l4)]) (st' := [.int l4, .ref 42]) (w1 := Wd f fl g gl hh v tx) rfl ⟨Nat.le_of_ble_eq_true rfl, Nat.le_of_ble_eq_true rfl⟩ rfl ?_
    exact h3

set_option maxRecDepth 20000 in
theorem b_yca_choose_19t_45 (X : mm_X) (d : Nat) (f : Nat → Int32) (fl : Nat → Int64) (g : Nat → Nat → Int32) (gl : Nat → Nat → Int64) (hh : Nat → Nat → Option Nat) (v : Nat → Value) (tx : mm_W) (s0 : Int32)  (P : Option Value → mm_W → Prop)
    (h : (s0 = 0 ∨ s0 = 1) ∧ P (some (.int s0)) (Wd f fl g gl hh v tx)) :
    WP X (d) 7 (45, [some (.ref 38), some (.ref 19), none, none, none], [.int s0], Wd f fl g gl hh v tx) P := by
  exact WP.retZ hP_7 rfl rfl h.1 h.2

set_option maxRecDepth 20000 in
theorem b_yca_choose_19t_32 (X : mm_X) (d : Nat) (f : Nat → Int32) (fl : Nat → Int64) (g : Nat → Nat → Int32) (gl : Nat → Nat → Int64) (hh : Nat → Nat → Option Nat) (v : Nat → Value) (tx : mm_W) (l4 : Int32) (s0 : Int32) (s1 : Int32)  (P : Option Value → mm_W → Prop)
    (h : (¬ (s1 < 0 ∨ 8 ≤ s1.toNatClampNeg)) ∧ WP X (d) 7 (10, [some (.ref 38), some (.ref 19), none, none, some (.int (l4 + (1 : Int32)))], [], Wd f fl (va_up g 42 (upd (g 42) (s1.toNatClampNeg) s0)) gl hh v tx) P) :
    WP X (d) 7 (32, [some (.ref 38), some (.ref 19), none, none, some (.int l4)], [.int s0, .int s1, .ref 42], Wd f fl g gl hh v tx) P := by
  refine WP.of (fun _ _ => Ex.iast hP_7 (w2 := Wd f fl (va_up g 42 (upd (g 42) (s1.toNatClampNeg) s0)) gl hh v tx) rfl (Wa_42 _ _ _ _ _ _ _) h.1 (Ws_42 _ _ _ _ _ _ _ _)) ?_
  have h1 := h.2
  refine WP.run hP_7 2 (c' := (10, [some (.ref 38), some (.ref 19), none, none, some (.int (l4 + (1 : Int32)))], [], Wd f fl (va_up g 42 (upd (g 42) (s1.toNatClampNeg) s0)) gl hh v tx)) rfl ?_
  exact h1

set_option maxRecDepth 20000 in
theorem b_yca_follow_38_19_0 (X : mm_X) (d : Nat) (f : Nat → Int32) (fl : Nat → Int64) (g : Nat → Nat → Int32) (gl : Nat → Nat → Int64) (hh : Nat → Nat → Option Nat) (v : Nat → Value) (tx : mm_W)   (P : Option Value → mm_W → Prop)
    (h : WP X (d) 11 (2, [some (.ref 38), some (.ref 19), some (.int 0), none], [], Wd f fl g gl hh v tx) P) :
    WP X (d) 11 (0, [some (.ref 38), some (.ref 19), none, none], [], Wd f fl g gl hh v tx) P := by
  refine WP.run hP_11 2 (c' := (2, [some (.ref 38), some (.ref 19), some (.int 0), none], [], Wd f fl g gl hh v tx)) rfl ?_
  exact h

set_option maxRecDepth 20000 in
theorem b_yca_follow_38_19_2 (X : mm_X) (d : Nat) (f : Nat → Int32) (fl : Nat → Int64) (g : Nat → Nat → Int32) (gl : Nat → Nat → Int64) (hh : Nat → Nat → Option Nat) (v : Nat → Value) (tx : mm_W) (l2 : Int32)  (P : Option Value → mm_W → Prop)
    (h : (((f 2437) ≤ l2) → P none (Wd f fl g gl hh v tx)) ∧
    ((¬ ((f 2437) ≤ l2)) → ((¬ (l2 < 0 ∨ 12 ≤ l2.toNatClampNeg)) ∧ ((¬ (((g 44) l2.toNatClampNeg) < 0 ∨ 8 ≤ ((g 44) l2.toNatClampNeg).toNatClampNeg)) ∧ WP X (d) 5 (0, [some (.ref 38), some (.int ((g 22) ((g 44) l2.toNatClampNeg).toNatClampNeg))], [], Wd f fl g gl hh v tx) (fun rv w2 => WP X (d + 1) 11 (27, [some (.ref 38), some (.ref 19), some (.int l2), some (.int ((g 22) ((g 44) l2.toNatClampNeg).toNatClampNeg))], rv.toList ++ [], w2) P))))) :
    WP X (d + 1) 11 (2, [some (.ref 38), some (.ref 19), some (.int l2), none], [], Wd f fl g gl hh v tx) P := by
  refine WP.run hP_11 3 (c' := (7, [some (.ref 38), some (.ref 19), some (.int l2), none], [.int (f 2437), .int l2], Wd f fl g gl hh v tx)) rfl ?_
  refine WP.br hP_11 (q := (f 2437) ≤ l2) (t := 60) (f := 10) (L := [some (.ref 38), some (.ref 19), some (.int l2), none]) (st := []) (w := Wd f fl g gl hh v tx) rfl (fun c1 => ?_) (fun c1 => ?_)
  · have h2 := h.1 c1
    exact WP.ret hP_11 (r := none) (w' := Wd f fl g gl hh v tx) rfl h2
  · have h3 := h.2 c1
    refine WP.run hP_11 5 (c' := (19, [some (.ref 38), some (.ref 19), some (.int l2), none], [.int l2, .ref 44, .ref 22], Wd f fl g gl hh v tx)) rfl ?_
    refine WP.of (fun _ _ => Ex.iald hP_11 rfl (Wa_44 _ _ _ _ _ _ _) h3.1) ?_
    have h4 := h3.2
    refine WP.of (fun _ _ => Ex.iald hP_11 rfl (Wa_22 _ _ _ _ _ _ _) h4.1) ?_
    have h5 := h4.2
    refine WP.run hP_11 3 (c' := (24, [some (.ref 38), some (.ref 19), some (.int l2), some (.int ((g 22) ((g 44) l2.toNatClampNeg).toNatClampNeg))], [.int ((g 22) ((g 44) l2.toNatClampNeg).toNatClampNeg), .ref 38], Wd f fl g gl hh v tx)) rfl ?_
    refine WP.call hP_11 hP_5 (as := [.ref 38, .int ((g 22) ((g 44) l2.toNatClampNeg).toNatClampNeg)]) (pc' := 27) (L' := [some (.ref 38), some (.ref 19), some (.int l2), some (.int ((g 22) ((g 44) l2.toNatClampNeg).toNatClampNeg))]) (st' := []) (w1 := Wd f fl g gl hh v tx) rfl ⟨Nat.le_of_ble_eq_true rfl, Nat.le_of_ble_eq_true rfl⟩ rfl ?_
    exact h5

set_option maxRecDepth 20000 in
theorem b_yca_follow_38_19_27 (X : mm_X) (d : Nat) (f : Nat → Int32) (fl : Nat → Int64) (g : Nat → Nat → Int32) (gl : Nat → Nat → Int64) (hh : Nat → Nat → Option Nat) (v : Nat → Value) (tx : mm_W) (l2 : Int32) (l3 : Int32) (s0 : Int32)  (P : Option Value → mm_W → Prop)
    (h : ((¬ s0 = 0) → WP X (d + 1) 11 (2, [some (.ref 38), some (.ref 19), some (.int (l2 + (1 : Int32))), none], [], Wd f fl g gl hh v tx) P) ∧
    ((s0 = 0) → (((¬ l3 = 0) → WP X (d) 114 (0, [some (.int (f 2440)), some (.int l3), some (.int 0), none], [], Wd f fl g gl hh v tx) (fun rv w2 => WP X (d + 1) 11 (51, [some (.ref 38), some (.ref 19), some (.int l2), none], rv.toList ++ [.ref 38], w2) P)) ∧
      ((l3 = 0) → WP X (d) 4 (0, [some (.ref 38), none, none], [], Wd f fl g gl hh v tx) (fun rv w2 => WP X (d + 1) 11 (44, [some (.ref 38), some (.ref 19), some (.int l2), some (.int l3)], rv.toList ++ [.int l3, .int (f 2440), .ref 38], w2) P))))) :
    WP X (d + 1) 11 (27, [some (.ref 38), some (.ref 19), some (.int l2), some (.int l3)], [.int s0], Wd f fl g gl hh v tx) P := by
  refine WP.br hP_11 (q := ¬ s0 = 0) (t := 54) (f := 30) (L := [some (.ref 38), some (.ref 19), some (.int l2), some (.int l3)]) (st := []) (w := Wd f fl g gl hh v tx) rfl (fun c1 => ?_) (fun c1 => ?_)
  · have h2 := h.1 c1
    refine WP.run hP_11 2 (c' := (2, [some (.ref 38), some (.ref 19), some (.int (l2 + (1 : Int32))), none], [], Wd f fl g gl hh v tx)) rfl ?_
    exact h2
  · have h3 := h.2 (Classical.not_not.mp c1)
    refine WP.run hP_11 5 (c' := (37, [some (.ref 38), some (.ref 19), some (.int l2), some (.int l3)], [.int l3, .int l3, .int (f 2440), .ref 38], Wd f fl g gl hh v tx)) rfl ?_
    refine WP.br hP_11 (q := ¬ l3 = 0) (t := 47) (f := 40) (L := [some (.ref 38), some (.ref 19), some (.int l2), some (.int l3)]) (st := [.int l3, .int (f 2440), .ref 38]) (w := Wd f fl g gl hh v tx) rfl (fun c4 => ?_) (fun c4 => ?_)
    · have h5 := h3.1 c4
      refine WP.run hP_11 1 (c' := (48, [some (.ref 38), some (.ref 19), some (.int l2), none], [.int 0, .int l3, .int (f 2440), .ref 38], Wd f fl g gl hh v tx)) rfl ?_
      refine WP.call hP_11 hP_114 (as := [.int (f 2440), .int l3, .int 0]) (pc' := 51) (L' := [some (.ref 38), some (.ref 19), some (.int l2), none]) (st' := [.ref 38]) (w1 := Wd f fl g gl hh v tx) rfl ⟨Nat.le_of_ble_eq_true rfl, Nat.le_of_ble_eq_true rfl⟩ rfl ?_
      exact h5
    · have h6 := h3.2 (Classical.not_not.mp c4)
      refine WP.run hP_11 1 (c' := (41, [some (.ref 38), some (.ref 19), some (.int l2), some (.int l3)], [.ref 38, .int l3, .int (f 2440), .ref 38], Wd f fl g gl hh v tx)) rfl ?_
      refine WP.call hP_11 hP_4 (as := [.ref 38]) (pc' := 44) (L' := [some (.ref 38), some (.ref 19), some (.int l2), some (.int l3)]) (st' := [.int l3, .int (f 2440), .ref 38]) (w1 := Wd f fl g gl hh v tx) rfl ⟨Nat.le_of_ble_eq_true rfl, Nat.le_of_ble_eq_true rfl⟩ rfl ?_
      exact h6

set_option maxRecDepth 20000 in
theorem b_yca_follow_38_19_51 (X : mm_X) (d : Nat) (f : Nat → Int32) (fl : Nat → Int64) (g : Nat → Nat → Int32) (gl : Nat → Nat → Int64) (hh : Nat → Nat → Option Nat) (v : Nat → Value) (tx : mm_W) (l2 : Int32) (s0 : Int32)  (P : Option Value → mm_W → Prop)
    (h : WP X (d) 11 (2, [some (.ref 38), some (.ref 19), some (.int (l2 + (1 : Int32))), none], [], Wd (va_up f 2440 s0) fl g gl hh v tx) P) :
    WP X (d) 11 (51, [some (.ref 38), some (.ref 19), some (.int l2), none], [.int s0, .ref 38], Wd f fl g gl hh v tx) P := by
  refine WP.run hP_11 3 (c' := (2, [some (.ref 38), some (.ref 19), some (.int (l2 + (1 : Int32))), none], [], Wd (va_up f 2440 s0) fl g gl hh v tx)) rfl ?_
  exact h

set_option maxRecDepth 20000 in
theorem b_yca_follow_38_19_44 (X : mm_X) (d : Nat) (f : Nat → Int32) (fl : Nat → Int64) (g : Nat → Nat → Int32) (gl : Nat → Nat → Int64) (hh : Nat → Nat → Option Nat) (v : Nat → Value) (tx : mm_W) (l2 : Int32) (l3 : Int32) (s0 : Int32) (s1 : Int32) (s2 : Int32)  (P : Option Value → mm_W → Prop)
    (h : WP X (d) 114 (0, [some (.int s2), some (.int s1), some (.int s0), none], [], Wd f fl g gl hh v tx) (fun rv w2 => WP X (d + 1) 11 (51, [some (.ref 38), some (.ref 19), some (.int l2), none], rv.toList ++ [.ref 38], w2) P)) :
    WP X (d + 1) 11 (44, [some (.ref 38), some (.ref 19), some (.int l2), some (.int l3)], [.int s0, .int s1, .int s2, .ref 38], Wd f fl g gl hh v tx) P := by
  refine WP.run hP_11 1 (c' := (48, [some (.ref 38), some (.ref 19), some (.int l2), some (.int l3)], [.int s0, .int s1, .int s2, .ref 38], Wd f fl g gl hh v tx)) rfl ?_
  refine WP.call hP_11 hP_114 (as := [.int s2, .int s1, .int s0]) (pc' := 51) (L' := [some (.ref 38), some (.ref 19), some (.int l2), none]) (st' := [.ref 38]) (w1 := Wd f fl g gl hh v tx) rfl ⟨Nat.le_of_ble_eq_true rfl, Nat.le_of_ble_eq_true rfl⟩ rfl ?_
  exact h

set_option maxRecDepth 20000 in
theorem b_yca_told_38_0 (X : mm_X) (d : Nat) (f : Nat → Int32) (fl : Nat → Int64) (g : Nat → Nat → Int32) (gl : Nat → Nat → Int64) (hh : Nat → Nat → Option Nat) (v : Nat → Value) (tx : mm_W) (p0 : Int32) (p1 : Int32)  (P : Option Value → mm_W → Prop)
    (h : ((¬ p1 = (-1)) → (((0 ≤ p1 ∧ p1 < (f 2437)) → ((¬ (p1 < 0 ∨ 12 ≤ p1.toNatClampNeg)) ∧ P (some (.int ((g 44) p1.toNatClampNeg))) (Wd f fl g gl hh v tx))) ∧
      ((¬ (0 ≤ p1 ∧ p1 < (f 2437))) → P (some (.int (-1))) (Wd f fl g gl hh v tx)))) ∧
    ((p1 = (-1)) → P (some (.int p0)) (Wd f fl g gl hh v tx))) :
    WP X (d + 1) 10 (0, [some (.ref 38), some (.int p0), some (.int p1)], [], Wd f fl g gl hh v tx) P := by
  refine WP.run hP_10 2 (c' := (2, [some (.ref 38), some (.int p0), some (.int p1)], [.int (-1), .int p1], Wd f fl g gl hh v tx)) rfl ?_
  refine WP.br hP_10 (q := ¬ p1 = (-1)) (t := 7) (f := 5) (L := [some (.ref 38), some (.int p0), some (.int p1)]) (st := []) (w := Wd f fl g gl hh v tx) rfl (fun c1 => ?_) (fun c1 => ?_)
  · have h2 := h.1 c1
    refine WP.run hP_10 3 (c' := (12, [some (.ref 38), none, some (.int p1)], [.int (f 2437), .int p1], Wd f fl g gl hh v tx)) rfl ?_
    refine WP.call hP_10 hP_99 (as := [.int p1, .int (f 2437)]) (pc' := 15) (L' := [some (.ref 38), none, some (.int p1)]) (st' := []) (w1 := Wd f fl g gl hh v tx) rfl ⟨Nat.le_of_ble_eq_true rfl, Nat.le_of_ble_eq_true rfl⟩ rfl (b_within_m X (d) f fl g gl hh v tx p1 (f 2437) _ ?_)
    refine ⟨fun c3 => ?_, fun c3 => ?_⟩
    · have h4 := h2.1 c3
      refine WP.run hP_10 4 (c' := (23, [some (.ref 38), none, some (.int p1)], [.int p1, .ref 44], Wd f fl g gl hh v tx)) rfl ?_
      refine WP.of (fun _ _ => Ex.iald hP_10 rfl (Wa_44 _ _ _ _ _ _ _) h4.1) ?_
      have h5 := h4.2
      refine WP.run hP_10 1 (c' := (28, [some (.ref 38), none, some (.int p1)], [.int ((g 44) p1.toNatClampNeg)], Wd f fl g gl hh v tx)) rfl ?_
      exact WP.retI hP_10 rfl rfl h5
    · have h6 := h2.2 c3
      refine WP.run hP_10 2 (c' := (28, [none, none, none], [.int (-1)], Wd f fl g gl hh v tx)) rfl ?_
      exact WP.retI hP_10 rfl rfl h6
  · have h7 := h.2 (Classical.not_not.mp c1)
    refine WP.run hP_10 1 (c' := (6, [some (.ref 38), some (.int p0), some (.int p1)], [.int p0], Wd f fl g gl hh v tx)) rfl ?_
    exact WP.retI hP_10 rfl rfl h7

set_option maxRecDepth 20000 in
theorem b_yca_waysFrom_38_1_0 (X : mm_X) (d : Nat) (f : Nat → Int32) (fl : Nat → Int64) (g : Nat → Nat → Int32) (gl : Nat → Nat → Int64) (hh : Nat → Nat → Option Nat) (v : Nat → Value) (tx : mm_W) (p0 : Int32) (p1 : Int32)  (P : Option Value → mm_W → Prop)
    (h : WP X (d) 13 (6, [some (.ref 38), some (.ref 1), some (.int p0), some (.int p1), some (.int 0), some (.int 0), none], [], Wd f fl g gl hh v tx) P) :
    WP X (d) 13 (0, [some (.ref 38), some (.ref 1), some (.int p0), some (.int p1), none, none, none], [], Wd f fl g gl hh v tx) P := by
  refine WP.run hP_13 3 (c' := (4, [some (.ref 38), some (.ref 1), some (.int p0), some (.int p1), some (.int 0), none, none], [.int 0], Wd f fl g gl hh v tx)) rfl ?_
  refine WP.run hP_13 1 (c' := (6, [some (.ref 38), some (.ref 1), some (.int p0), some (.int p1), some (.int 0), some (.int 0), none], [], Wd f fl g gl hh v tx)) rfl ?_
  exact h

set_option maxRecDepth 20000 in
theorem b_yca_waysFrom_38_1_6 (X : mm_X) (d : Nat) (f : Nat → Int32) (fl : Nat → Int64) (g : Nat → Nat → Int32) (gl : Nat → Nat → Int64) (hh : Nat → Nat → Option Nat) (v : Nat → Value) (tx : mm_W) (l2 : Int32) (l3 : Int32) (l4 : Int32) (l5 : Int32)  (P : Option Value → mm_W → Prop)
    (h : (((f 64) ≤ l5) → P (some (.int l4)) (Wd f fl g gl hh v tx)) ∧
    ((¬ ((f 64) ≤ l5)) → (((l3 = (-1)) → WP X (d) 48 (0, [some (.ref 1), some (.int l5), some (.int l2), none, none], [], Wd f fl g gl hh v tx) (fun rv w2 => WP X (d + 1) 13 (50, [some (.ref 38), some (.ref 1), some (.int l2), some (.int l3), some (.int l4), some (.int l5), some (.int 1)], rv.toList ++ [], w2) P)) ∧
      ((¬ l3 = (-1)) → ((¬ (l5 < 0 ∨ 8 ≤ l5.toNatClampNeg)) ∧ (((¬ ((g 4) l5.toNatClampNeg) = l3) → WP X (d + 1) 13 (6, [some (.ref 38), some (.ref 1), some (.int l2), some (.int l3), some (.int l4), some (.int (l5 + (1 : Int32))), none], [], Wd f fl g gl hh v tx) P) ∧
        ((((g 4) l5.toNatClampNeg) = l3) → WP X (d) 48 (0, [some (.ref 1), some (.int l5), some (.int l2), none, none], [], Wd f fl g gl hh v tx) (fun rv w2 => WP X (d + 1) 13 (50, [some (.ref 38), some (.ref 1), some (.int l2), some (.int l3), some (.int l4), some (.int l5), some (.int 1)], rv.toList ++ [], w2) P)))))))) :
    WP X (d + 1) 13 (6, [some (.ref 38), some (.ref 1), some (.int l2), some (.int l3), some (.int l4), some (.int l5), none], [], Wd f fl g gl hh v tx) P := by
  refine WP.run hP_13 3 (c' := (12, [some (.ref 38), some (.ref 1), some (.int l2), some (.int l3), some (.int l4), some (.int l5), none], [.int (f 64), .int l5], Wd f fl g gl hh v tx)) rfl ?_
  refine WP.br hP_13 (q := (f 64) ≤ l5) (t := 78) (f := 15) (L := [some (.ref 38), some (.ref 1), some (.int l2), some (.int l3), some (.int l4), some (.int l5), none]) (st := []) (w := Wd f fl g gl hh v tx) rfl (fun c1 => ?_) (fun c1 => ?_)
  · have h2 := h.1 c1
    refine WP.run hP_13 1 (c' := (80, [none, none, none, none, some (.int l4), none, none], [.int l4], Wd f fl g gl hh v tx)) rfl ?_
    exact WP.retI hP_13 rfl rfl h2
  · have h3 := h.2 c1
    refine WP.run hP_13 2 (c' := (17, [some (.ref 38), some (.ref 1), some (.int l2), some (.int l3), some (.int l4), some (.int l5), none], [.int (-1), .int l3], Wd f fl g gl hh v tx)) rfl ?_
    refine WP.br hP_13 (q := l3 = (-1)) (t := 31) (f := 20) (L := [some (.ref 38), some (.ref 1), some (.int l2), some (.int l3), some (.int l4), some (.int l5), none]) (st := []) (w := Wd f fl g gl hh v tx) rfl (fun c4 => ?_) (fun c4 => ?_)
    · have h5 := h3.1 c4
      refine WP.run hP_13 2 (c' := (36, [some (.ref 38), some (.ref 1), some (.int l2), some (.int l3), some (.int l4), some (.int l5), none], [.int 1], Wd f fl g gl hh v tx)) rfl ?_
      refine WP.run hP_13 6 (c' := (47, [some (.ref 38), some (.ref 1), some (.int l2), some (.int l3), some (.int l4), some (.int l5), some (.int 1)], [.int l2, .int l5, .ref 1], Wd f fl g gl hh v tx)) rfl ?_
      refine WP.call hP_13 hP_48 (as := [.ref 1, .int l5, .int l2]) (pc' := 50) (L' := [some (.ref 38), some (.ref 1), some (.int l2), some (.int l3), some (.int l4), some (.int l5), some (.int 1)]) (st' := []) (w1 := Wd f fl g gl hh v tx) rfl ⟨Nat.le_of_ble_eq_true rfl, Nat.le_of_ble_eq_true rfl⟩ rfl ?_
      exact h5
    · have h6 := h3.2 c4
      refine WP.run hP_13 3 (c' := (26, [some (.ref 38), some (.ref 1), some (.int l2), some (.int l3), some (.int l4), some (.int l5), none], [.int l5, .ref 4], Wd f fl g gl hh v tx)) rfl ?_
      refine WP.of (fun _ _ => Ex.iald hP_13 rfl (Wa_4 _ _ _ _ _ _ _) h6.1) ?_
      have h7 := h6.2
      refine WP.run hP_13 1 (c' := (28, [some (.ref 38), some (.ref 1), some (.int l2), some (.int l3), some (.int l4), some (.int l5), none], [.int l3, .int ((g 4) l5.toNatClampNeg)], Wd f fl g gl hh v tx)) rfl ?_
      refine WP.br hP_13 (q := ¬ ((g 4) l5.toNatClampNeg) = l3) (t := 35) (f := 31) (L := [some (.ref 38), some (.ref 1), some (.int l2), some (.int l3), some (.int l4), some (.int l5), none]) (st := []) (w := Wd f fl g gl hh v tx) rfl (fun c8 => ?_) (fun c8 => ?_)
      · have h9 := h7.1 c8
        refine WP.run hP_13 1 (c' := (36, [some (.ref 38), some (.ref 1), some (.int l2), some (.int l3), some (.int l4), some (.int l5), none], [.int 0], Wd f fl g gl hh v tx)) rfl ?_
        refine WP.run hP_13 3 (c' := (72, [some (.ref 38), some (.ref 1), some (.int l2), some (.int l3), some (.int l4), some (.int l5), some (.int 0)], [], Wd f fl g gl hh v tx)) rfl ?_
        refine WP.run hP_13 2 (c' := (6, [some (.ref 38), some (.ref 1), some (.int l2), some (.int l3), some (.int l4), some (.int (l5 + (1 : Int32))), none], [], Wd f fl g gl hh v tx)) rfl ?_
        exact h9
      · have h10 := h7.2 (Classical.not_not.mp c8)
        refine WP.run hP_13 2 (c' := (36, [some (.ref 38), some (.ref 1), some (.int l2), some (.int l3), some (.int l4), some (.int l5), none], [.int 1], Wd f fl g gl hh v tx)) rfl ?_
        refine WP.run hP_13 6 (c' := (47, [some (.ref 38), some (.ref 1), some (.int l2), some (.int l3), some (.int l4), some (.int l5), some (.int 1)], [.int l2, .int l5, .ref 1], Wd f fl g gl hh v tx)) rfl ?_
        refine WP.call hP_13 hP_48 (as := [.ref 1, .int l5, .int l2]) (pc' := 50) (L' := [some (.ref 38), some (.ref 1), some (.int l2), some (.int l3), some (.int l4), some (.int l5), some (.int 1)]) (st' := []) (w1 := Wd f fl g gl hh v tx) rfl ⟨Nat.le_of_ble_eq_true rfl, Nat.le_of_ble_eq_true rfl⟩ rfl ?_
        exact h10

set_option maxRecDepth 20000 in
theorem b_yca_waysFrom_38_1_50 (X : mm_X) (d : Nat) (f : Nat → Int32) (fl : Nat → Int64) (g : Nat → Nat → Int32) (gl : Nat → Nat → Int64) (hh : Nat → Nat → Option Nat) (v : Nat → Value) (tx : mm_W) (l2 : Int32) (l3 : Int32) (l4 : Int32) (l5 : Int32) (l6 : Int32) (s0 : Int32)  (P : Option Value → mm_W → Prop)
    (h : ((¬ s0 = 0) → WP X (d) 13 (6, [some (.ref 38), some (.ref 1), some (.int l2), some (.int l3), some (.int l4), some (.int (l5 + (1 : Int32))), none], [], Wd f fl g gl hh v tx) P) ∧
    ((s0 = 0) → ((¬ (l5 < 0 ∨ 8 ≤ l5.toNatClampNeg)) ∧ ((¬ ((l2 + ((g 3) l5.toNatClampNeg)) < 0 ∨ 13 ≤ (l2 + ((g 3) l5.toNatClampNeg)).toNatClampNeg)) ∧ WP X (d) 13 (6, [some (.ref 38), some (.ref 1), some (.int l2), some (.int l3), some (.int (l4 + ((g 43) (l2 + ((g 3) l5.toNatClampNeg)).toNatClampNeg))), some (.int (l5 + (1 : Int32))), none], [], Wd f fl g gl hh v tx) P)))) :
    WP X (d) 13 (50, [some (.ref 38), some (.ref 1), some (.int l2), some (.int l3), some (.int l4), some (.int l5), some (.int l6)], [.int s0], Wd f fl g gl hh v tx) P := by
  refine WP.br hP_13 (q := ¬ s0 = 0) (t := 72) (f := 53) (L := [some (.ref 38), some (.ref 1), some (.int l2), some (.int l3), some (.int l4), some (.int l5), some (.int l6)]) (st := []) (w := Wd f fl g gl hh v tx) rfl (fun c1 => ?_) (fun c1 => ?_)
  · have h2 := h.1 c1
    refine WP.run hP_13 2 (c' := (6, [some (.ref 38), some (.ref 1), some (.int l2), some (.int l3), some (.int l4), some (.int (l5 + (1 : Int32))), none], [], Wd f fl g gl hh v tx)) rfl ?_
    exact h2
  · have h3 := h.2 (Classical.not_not.mp c1)
    refine WP.run hP_13 7 (c' := (66, [some (.ref 38), some (.ref 1), some (.int l2), some (.int l3), some (.int l4), some (.int l5), some (.int l6)], [.int l5, .ref 3, .int l2, .ref 43, .int l4], Wd f fl g gl hh v tx)) rfl ?_
    refine WP.of (fun _ _ => Ex.iald hP_13 rfl (Wa_3 _ _ _ _ _ _ _) h3.1) ?_
    have h4 := h3.2
    refine WP.run hP_13 1 (c' := (68, [some (.ref 38), some (.ref 1), some (.int l2), some (.int l3), some (.int l4), some (.int l5), some (.int l6)], [.int (l2 + ((g 3) l5.toNatClampNeg)), .ref 43, .int l4], Wd f fl g gl hh v tx)) rfl ?_
    refine WP.of (fun _ _ => Ex.iald hP_13 rfl (Wa_43 _ _ _ _ _ _ _) h4.1) ?_
    have h5 := h4.2
    refine WP.run hP_13 2 (c' := (72, [some (.ref 38), some (.ref 1), some (.int l2), some (.int l3), some (.int (l4 + ((g 43) (l2 + ((g 3) l5.toNatClampNeg)).toNatClampNeg))), some (.int l5), some (.int l6)], [], Wd f fl g gl hh v tx)) rfl ?_
    refine WP.run hP_13 2 (c' := (6, [some (.ref 38), some (.ref 1), some (.int l2), some (.int l3), some (.int (l4 + ((g 43) (l2 + ((g 3) l5.toNatClampNeg)).toNatClampNeg))), some (.int (l5 + (1 : Int32))), none], [], Wd f fl g gl hh v tx)) rfl ?_
    exact h5

set_option maxRecDepth 20000 in
theorem b_yca_fitting_38_1_0 (X : mm_X) (d : Nat) (f : Nat → Int32) (fl : Nat → Int64) (g : Nat → Nat → Int32) (gl : Nat → Nat → Int64) (hh : Nat → Nat → Option Nat) (v : Nat → Value) (tx : mm_W) (p0 : Int32)  (P : Option Value → mm_W → Prop)
    (h : (¬ ((f 70) < 0 ∨ 13 ≤ (f 70).toNatClampNeg)) ∧ WP X (d) 12 (17, [some (.ref 38), some (.ref 1), some (.int p0), some (.int ((f 70) - (1 : Int32))), none], [], Wd f fl (va_up g 43 (upd (g 43) ((f 70).toNatClampNeg) 1)) gl hh v tx) P) :
    WP X (d) 12 (0, [some (.ref 38), some (.ref 1), some (.int p0), none, none], [], Wd f fl g gl hh v tx) P := by
  refine WP.run hP_12 5 (c' := (9, [some (.ref 38), some (.ref 1), some (.int p0), none, none], [.int 1, .int (f 70), .ref 43], Wd f fl g gl hh v tx)) rfl ?_
  refine WP.of (fun _ _ => Ex.iast hP_12 (w2 := Wd f fl (va_up g 43 (upd (g 43) ((f 70).toNatClampNeg) 1)) gl hh v tx) rfl (Wa_43 _ _ _ _ _ _ _) h.1 (Ws_43 _ _ _ _ _ _ _ _)) ?_
  have h1 := h.2
  refine WP.run hP_12 5 (c' := (17, [some (.ref 38), some (.ref 1), some (.int p0), some (.int ((f 70) - (1 : Int32))), none], [], Wd f fl (va_up g 43 (upd (g 43) ((f 70).toNatClampNeg) 1)) gl hh v tx)) rfl ?_
  exact h1

set_option maxRecDepth 20000 in
theorem b_yca_fitting_38_1_17 (X : mm_X) (d : Nat) (f : Nat → Int32) (fl : Nat → Int64) (g : Nat → Nat → Int32) (gl : Nat → Nat → Int64) (hh : Nat → Nat → Option Nat) (v : Nat → Value) (tx : mm_W) (l2 : Int32) (l3 : Int32)  (P : Option Value → mm_W → Prop)
    (h : ((l3 < 0) → WP X (d + 1) 12 (44, [some (.ref 38), some (.ref 1), none, some (.int (l2 - (1 : Int32))), none], [], Wd f fl g gl hh v tx) P) ∧
    ((¬ (l3 < 0)) → WP X (d) 13 (0, [some (.ref 38), some (.ref 1), some (.int l3), some (.int (-1)), none, none, none], [], Wd f fl g gl hh v tx) (fun rv w2 => WP X (d + 1) 12 (33, [some (.ref 38), some (.ref 1), some (.int l2), some (.int l3), none], rv.toList ++ [.int l3, .ref 43], w2) P))) :
    WP X (d + 1) 12 (17, [some (.ref 38), some (.ref 1), some (.int l2), some (.int l3), none], [], Wd f fl g gl hh v tx) P := by
  refine WP.run hP_12 1 (c' := (18, [some (.ref 38), some (.ref 1), some (.int l2), some (.int l3), none], [.int l3], Wd f fl g gl hh v tx)) rfl ?_
  refine WP.br hP_12 (q := l3 < 0) (t := 40) (f := 21) (L := [some (.ref 38), some (.ref 1), some (.int l2), some (.int l3), none]) (st := []) (w := Wd f fl g gl hh v tx) rfl (fun c1 => ?_) (fun c1 => ?_)
  · have h2 := h.1 c1
    refine WP.run hP_12 3 (c' := (43, [some (.ref 38), some (.ref 1), some (.int l2), none, none], [.int (l2 - (1 : Int32))], Wd f fl g gl hh v tx)) rfl ?_
    refine WP.run hP_12 1 (c' := (44, [some (.ref 38), some (.ref 1), some (.int l2), some (.int (l2 - (1 : Int32))), none], [], Wd f fl g gl hh v tx)) rfl ?_
    refine WP.clr hP_12 (pc := 44) rfl ?_
    exact h2
  · have h3 := h.2 c1
    refine WP.run hP_12 7 (c' := (30, [some (.ref 38), some (.ref 1), some (.int l2), some (.int l3), none], [.int (-1), .int l3, .ref 1, .ref 38, .int l3, .ref 43], Wd f fl g gl hh v tx)) rfl ?_
    refine WP.call hP_12 hP_13 (as := [.ref 38, .ref 1, .int l3, .int (-1)]) (pc' := 33) (L' := [some (.ref 38), some (.ref 1), some (.int l2), some (.int l3), none]) (st' := [.int l3, .ref 43]) (w1 := Wd f fl g gl hh v tx) rfl ⟨Nat.le_of_ble_eq_true rfl, Nat.le_of_ble_eq_true rfl⟩ rfl ?_
    exact h3

set_option maxRecDepth 20000 in
theorem b_yca_fitting_38_1_44 (X : mm_X) (d : Nat) (f : Nat → Int32) (fl : Nat → Int64) (g : Nat → Nat → Int32) (gl : Nat → Nat → Int64) (hh : Nat → Nat → Option Nat) (v : Nat → Value) (tx : mm_W) (l3 : Int32)  (P : Option Value → mm_W → Prop)
    (h : ((l3 < 0) → P (some (.int ((g 43) 0))) (Wd f fl g gl hh v tx)) ∧
    ((¬ (l3 < 0)) → WP X (d) 12 (51, [some (.ref 38), some (.ref 1), none, some (.int l3), some (.int 0)], [], Wd f fl g gl hh v tx) P)) :
    WP X (d) 12 (44, [some (.ref 38), some (.ref 1), none, some (.int l3), none], [], Wd f fl g gl hh v tx) P := by
  refine WP.run hP_12 1 (c' := (45, [some (.ref 38), some (.ref 1), none, some (.int l3), none], [.int l3], Wd f fl g gl hh v tx)) rfl ?_
  refine WP.br hP_12 (q := l3 < 0) (t := 102) (f := 48) (L := [some (.ref 38), some (.ref 1), none, some (.int l3), none]) (st := []) (w := Wd f fl g gl hh v tx) rfl (fun c1 => ?_) (fun c1 => ?_)
  · have h2 := h.1 c1
    refine WP.run hP_12 3 (c' := (107, [some (.ref 38), none, none, none, none], [.int 0, .ref 43], Wd f fl g gl hh v tx)) rfl ?_
    refine WP.of (fun _ _ => Ex.iald hP_12 rfl (Wa_43 _ _ _ _ _ _ _) (by decide)) ?_
    show WP X _ 12 (108, [some (.ref 38), none, none, none, none], [.int ((g 43) 0)], Wd f fl g gl hh v tx) P
    exact WP.retI hP_12 rfl rfl h2
  · have h3 := h.2 c1
    refine WP.run hP_12 2 (c' := (51, [some (.ref 38), some (.ref 1), none, some (.int l3), some (.int 0)], [], Wd f fl g gl hh v tx)) rfl ?_
    exact h3

set_option maxRecDepth 20000 in
theorem b_yca_fitting_38_1_33 (X : mm_X) (d : Nat) (f : Nat → Int32) (fl : Nat → Int64) (g : Nat → Nat → Int32) (gl : Nat → Nat → Int64) (hh : Nat → Nat → Option Nat) (v : Nat → Value) (tx : mm_W) (l2 : Int32) (l3 : Int32) (s0 : Int32) (s1 : Int32)  (P : Option Value → mm_W → Prop)
    (h : (¬ (s1 < 0 ∨ 13 ≤ s1.toNatClampNeg)) ∧ WP X (d) 12 (17, [some (.ref 38), some (.ref 1), some (.int l2), some (.int (l3 + (-1 : Int32))), none], [], Wd f fl (va_up g 43 (upd (g 43) (s1.toNatClampNeg) s0)) gl hh v tx) P) :
    WP X (d) 12 (33, [some (.ref 38), some (.ref 1), some (.int l2), some (.int l3), none], [.int s0, .int s1, .ref 43], Wd f fl g gl hh v tx) P := by
  refine WP.of (fun _ _ => Ex.iast hP_12 (w2 := Wd f fl (va_up g 43 (upd (g 43) (s1.toNatClampNeg) s0)) gl hh v tx) rfl (Wa_43 _ _ _ _ _ _ _) h.1 (Ws_43 _ _ _ _ _ _ _ _)) ?_
  have h1 := h.2
  refine WP.run hP_12 2 (c' := (17, [some (.ref 38), some (.ref 1), some (.int l2), some (.int (l3 + (-1 : Int32))), none], [], Wd f fl (va_up g 43 (upd (g 43) (s1.toNatClampNeg) s0)) gl hh v tx)) rfl ?_
  exact h1

set_option maxRecDepth 20000 in
theorem b_yca_fitting_38_1_51 (X : mm_X) (d : Nat) (f : Nat → Int32) (fl : Nat → Int64) (g : Nat → Nat → Int32) (gl : Nat → Nat → Int64) (hh : Nat → Nat → Option Nat) (v : Nat → Value) (tx : mm_W) (l3 : Int32) (l4 : Int32)  (P : Option Value → mm_W → Prop)
    (h : (((f 70) ≤ l4) → ((¬ ((f 70) < 0 ∨ 13 ≤ (f 70).toNatClampNeg)) ∧ WP X (d + 1) 12 (44, [some (.ref 38), some (.ref 1), none, some (.int (l3 + (-1 : Int32))), none], [], Wd f fl (va_up g 43 (upd (g 43) ((f 70).toNatClampNeg) 0)) gl hh v tx) P)) ∧
    ((¬ ((f 70) ≤ l4)) → ((¬ (l3 < 0 ∨ 6 ≤ l3.toNatClampNeg)) ∧ WP X (d) 13 (0, [some (.ref 38), some (.ref 1), some (.int l4), some (.int ((g 6) l3.toNatClampNeg)), none, none, none], [], Wd f fl g gl hh v tx) (fun rv w2 => WP X (d + 1) 12 (79, [some (.ref 38), some (.ref 1), none, some (.int l3), some (.int l4)], rv.toList ++ [.int l4, .ref 43], w2) P)))) :
    WP X (d + 1) 12 (51, [some (.ref 38), some (.ref 1), none, some (.int l3), some (.int l4)], [], Wd f fl g gl hh v tx) P := by
  refine WP.run hP_12 3 (c' := (57, [some (.ref 38), some (.ref 1), none, some (.int l3), some (.int l4)], [.int (f 70), .int l4], Wd f fl g gl hh v tx)) rfl ?_
  refine WP.br hP_12 (q := (f 70) ≤ l4) (t := 86) (f := 60) (L := [some (.ref 38), some (.ref 1), none, some (.int l3), some (.int l4)]) (st := []) (w := Wd f fl g gl hh v tx) rfl (fun c1 => ?_) (fun c1 => ?_)
  · have h2 := h.1 c1
    refine WP.run hP_12 5 (c' := (95, [some (.ref 38), some (.ref 1), none, some (.int l3), none], [.int 0, .int (f 70), .ref 43], Wd f fl g gl hh v tx)) rfl ?_
    refine WP.of (fun _ _ => Ex.iast hP_12 (w2 := Wd f fl (va_up g 43 (upd (g 43) ((f 70).toNatClampNeg) 0)) gl hh v tx) rfl (Wa_43 _ _ _ _ _ _ _) h2.1 (Ws_43 _ _ _ _ _ _ _ _)) ?_
    have h3 := h2.2
    refine WP.run hP_12 2 (c' := (44, [some (.ref 38), some (.ref 1), none, some (.int (l3 + (-1 : Int32))), none], [], Wd f fl (va_up g 43 (upd (g 43) ((f 70).toNatClampNeg) 0)) gl hh v tx)) rfl ?_
    exact h3
  · have h4 := h.2 c1
    refine WP.run hP_12 9 (c' := (75, [some (.ref 38), some (.ref 1), none, some (.int l3), some (.int l4)], [.int l3, .ref 6, .int l4, .ref 1, .ref 38, .int l4, .ref 43], Wd f fl g gl hh v tx)) rfl ?_
    refine WP.of (fun _ _ => Ex.iald hP_12 rfl (Wa_6 _ _ _ _ _ _ _) h4.1) ?_
    have h5 := h4.2
    refine WP.call hP_12 hP_13 (as := [.ref 38, .ref 1, .int l4, .int ((g 6) l3.toNatClampNeg)]) (pc' := 79) (L' := [some (.ref 38), some (.ref 1), none, some (.int l3), some (.int l4)]) (st' := [.int l4, .ref 43]) (w1 := Wd f fl g gl hh v tx) rfl ⟨Nat.le_of_ble_eq_true rfl, Nat.le_of_ble_eq_true rfl⟩ rfl ?_
    exact h5

set_option maxRecDepth 20000 in
theorem b_yca_fitting_38_1_79 (X : mm_X) (d : Nat) (f : Nat → Int32) (fl : Nat → Int64) (g : Nat → Nat → Int32) (gl : Nat → Nat → Int64) (hh : Nat → Nat → Option Nat) (v : Nat → Value) (tx : mm_W) (l3 : Int32) (l4 : Int32) (s0 : Int32) (s1 : Int32)  (P : Option Value → mm_W → Prop)
    (h : (¬ (s1 < 0 ∨ 13 ≤ s1.toNatClampNeg)) ∧ WP X (d) 12 (51, [some (.ref 38), some (.ref 1), none, some (.int l3), some (.int (l4 + (1 : Int32)))], [], Wd f fl (va_up g 43 (upd (g 43) (s1.toNatClampNeg) s0)) gl hh v tx) P) :
    WP X (d) 12 (79, [some (.ref 38), some (.ref 1), none, some (.int l3), some (.int l4)], [.int s0, .int s1, .ref 43], Wd f fl g gl hh v tx) P := by
  refine WP.of (fun _ _ => Ex.iast hP_12 (w2 := Wd f fl (va_up g 43 (upd (g 43) (s1.toNatClampNeg) s0)) gl hh v tx) rfl (Wa_43 _ _ _ _ _ _ _) h.1 (Ws_43 _ _ _ _ _ _ _ _)) ?_
  have h1 := h.2
  refine WP.run hP_12 2 (c' := (51, [some (.ref 38), some (.ref 1), none, some (.int l3), some (.int (l4 + (1 : Int32)))], [], Wd f fl (va_up g 43 (upd (g 43) (s1.toNatClampNeg) s0)) gl hh v tx)) rfl ?_
  exact h1

set_option maxRecDepth 20000 in
theorem b_yca_lawTells_n_0 (X : mm_X) (d : Nat) (f : Nat → Int32) (fl : Nat → Int64) (g : Nat → Nat → Int32) (gl : Nat → Nat → Int64) (hh : Nat → Nat → Option Nat) (v : Nat → Value) (tx : mm_W) (p0 : Int32) (p1 : Int32) (e0 : v 2439 = .null) (P : Option Value → mm_W → Prop)
    (h : P (some (.long (-9223372036854775808))) (Wd f fl g gl hh v tx)) :
    WP X (d) 6 (0, [some (.ref 38), some (.int p0), some (.int p1), none, none, none], [], Wd f fl g gl hh v tx) P := by
  refine WP.run hP_6 2 (c' := (4, [some (.ref 38), some (.int p0), some (.int p1), none, none, none], [(v 2439)], Wd f fl g gl hh v tx)) rfl ?_
  rw [e0]
  refine WP.run hP_6 2 (c' := (10, [some (.ref 38), some (.int p0), some (.int p1), none, none, none], [.long (-9223372036854775808)], Wd f fl g gl hh v tx)) rfl ?_
  exact WP.ret hP_6 (r := some (.long (-9223372036854775808))) (w' := Wd f fl g gl hh v tx) rfl h
