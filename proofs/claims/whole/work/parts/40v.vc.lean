set_option maxRecDepth 20000 in
theorem b_yca_priceFrom_38_1_0 (X : mm_X) (d : Nat) (f : Nat → Int32) (fl : Nat → Int64) (g : Nat → Nat → Int32) (gl : Nat → Nat → Int64) (hh : Nat → Nat → Option Nat) (v : Nat → Value) (tx : mm_W) (p0 : Int32) (p1 : Int32) (p2 : Int32)  (P : Option Value → mm_W → Prop)
    (h : WP X (d) 48 (0, [some (.ref 1), some (.int p0), some (.int p1), none, none], [], Wd f fl g gl hh v tx) (fun rv w2 => WP X (d + 1) 9 (6, [some (.ref 38), some (.ref 1), some (.int p0), some (.int p1), some (.int p2), none, none], rv.toList ++ [], w2) P)) :
    WP X (d + 1) 9 (0, [some (.ref 38), some (.ref 1), some (.int p0), some (.int p1), some (.int p2), none, none], [], Wd f fl g gl hh v tx) P := by
  refine WP.run hP_9 3 (c' := (3, [some (.ref 38), some (.ref 1), some (.int p0), some (.int p1), some (.int p2), none, none], [.int p1, .int p0, .ref 1], Wd f fl g gl hh v tx)) rfl ?_
  refine WP.call hP_9 hP_48 (as := [.ref 1, .int p0, .int p1]) (pc' := 6) (L' := [some (.ref 38), some (.ref 1), some (.int p0), some (.int p1), some (.int p2), none, none]) (st' := []) (w1 := Wd f fl g gl hh v tx) rfl ⟨Nat.le_of_ble_eq_true rfl, Nat.le_of_ble_eq_true rfl⟩ rfl ?_
  exact h

set_option maxRecDepth 20000 in
theorem b_yca_priceFrom_38_1_6 (X : mm_X) (d : Nat) (f : Nat → Int32) (fl : Nat → Int64) (g : Nat → Nat → Int32) (gl : Nat → Nat → Int64) (hh : Nat → Nat → Option Nat) (v : Nat → Value) (tx : mm_W) (l2 : Int32) (l3 : Int32) (l4 : Int32) (s0 : Int32)  (P : Option Value → mm_W → Prop)
    (h : ((1000000 ≤ s0) → P (some (.int 1000000)) (Wd f fl g gl hh v tx)) ∧
    ((¬ (1000000 ≤ s0)) → (((s0 ≤ 0) → (((l4 = 0) → ((¬ (l2 < 0 ∨ 8 ≤ l2.toNatClampNeg)) ∧ ((¬ (l2 < 0 ∨ 8 ≤ l2.toNatClampNeg)) ∧ ((¬ ((l3 + ((g 3) l2.toNatClampNeg)) < 0 ∨ 13 ≤ (l3 + ((g 3) l2.toNatClampNeg)).toNatClampNeg)) ∧ P (some (.int (if (((g 42) l2.toNatClampNeg) + ((g 43) (l3 + ((g 3) l2.toNatClampNeg)).toNatClampNeg)) < 1000000 then (((g 42) l2.toNatClampNeg) + ((g 43) (l3 + ((g 3) l2.toNatClampNeg)).toNatClampNeg)) else 1000000))) (Wd f fl g gl hh v tx))))) ∧
        ((¬ l4 = 0) → ((¬ (l2 < 0 ∨ 8 ≤ l2.toNatClampNeg)) ∧ ((¬ ((l3 + ((g 3) l2.toNatClampNeg)) < 0 ∨ 13 ≤ (l3 + ((g 3) l2.toNatClampNeg)).toNatClampNeg)) ∧ P (some (.int (if (s0 + ((g 43) (l3 + ((g 3) l2.toNatClampNeg)).toNatClampNeg)) < 1000000 then (s0 + ((g 43) (l3 + ((g 3) l2.toNatClampNeg)).toNatClampNeg)) else 1000000))) (Wd f fl g gl hh v tx)))))) ∧
      ((¬ (s0 ≤ 0)) → (((¬ l4 = 0) → (((l4 = 0) → ((¬ (l2 < 0 ∨ 8 ≤ l2.toNatClampNeg)) ∧ ((¬ (l2 < 0 ∨ 8 ≤ l2.toNatClampNeg)) ∧ ((¬ ((l3 + ((g 3) l2.toNatClampNeg)) < 0 ∨ 13 ≤ (l3 + ((g 3) l2.toNatClampNeg)).toNatClampNeg)) ∧ P (some (.int (if (((g 42) l2.toNatClampNeg) + ((g 43) (l3 + ((g 3) l2.toNatClampNeg)).toNatClampNeg)) < 1000000 then (((g 42) l2.toNatClampNeg) + ((g 43) (l3 + ((g 3) l2.toNatClampNeg)).toNatClampNeg)) else 1000000))) (Wd f fl g gl hh v tx))))) ∧
          ((¬ l4 = 0) → ((¬ (l2 < 0 ∨ 8 ≤ l2.toNatClampNeg)) ∧ ((¬ ((l3 + ((g 3) l2.toNatClampNeg)) < 0 ∨ 13 ≤ (l3 + ((g 3) l2.toNatClampNeg)).toNatClampNeg)) ∧ P (some (.int (if (s0 + ((g 43) (l3 + ((g 3) l2.toNatClampNeg)).toNatClampNeg)) < 1000000 then (s0 + ((g 43) (l3 + ((g 3) l2.toNatClampNeg)).toNatClampNeg)) else 1000000))) (Wd f fl g gl hh v tx)))))) ∧
        ((l4 = 0) → P (some (.int 1000000)) (Wd f fl g gl hh v tx))))))) :
    WP X (d) 9 (6, [some (.ref 38), some (.ref 1), some (.int l2), some (.int l3), some (.int l4), none, none], [.int s0], Wd f fl g gl hh v tx) P := by
  refine WP.run hP_9 3 (c' := (12, [some (.ref 38), some (.ref 1), some (.int l2), some (.int l3), some (.int l4), some (.int s0), none], [.int 1000000, .int s0], Wd f fl g gl hh v tx)) rfl ?_
  refine WP.br hP_9 (q := 1000000 ≤ s0) (t := 25) (f := 15) (L := [some (.ref 38), some (.ref 1), some (.int l2), some (.int l3), some (.int l4), some (.int s0), none]) (st := []) (w := Wd f fl g gl hh v tx) rfl (fun c1 => ?_) (fun c1 => ?_)
  · have h2 := h.1 c1
    refine WP.run hP_9 1 (c' := (27, [none, none, none, none, none, none, none], [.int 1000000], Wd f fl g gl hh v tx)) rfl ?_
    exact WP.retI hP_9 rfl rfl h2
  · have h3 := h.2 c1
    refine WP.run hP_9 1 (c' := (17, [some (.ref 38), some (.ref 1), some (.int l2), some (.int l3), some (.int l4), some (.int s0), none], [.int s0], Wd f fl g gl hh v tx)) rfl ?_
    refine WP.br hP_9 (q := s0 ≤ 0) (t := 28) (f := 20) (L := [some (.ref 38), some (.ref 1), some (.int l2), some (.int l3), some (.int l4), some (.int s0), none]) (st := []) (w := Wd f fl g gl hh v tx) rfl (fun c4 => ?_) (fun c4 => ?_)
    · have h5 := h3.1 c4
      refine WP.run hP_9 1 (c' := (30, [some (.ref 38), some (.ref 1), some (.int l2), some (.int l3), some (.int l4), some (.int s0), none], [.int l4], Wd f fl g gl hh v tx)) rfl ?_
      refine WP.br hP_9 (q := l4 = 0) (t := 38) (f := 33) (L := [some (.ref 38), some (.ref 1), some (.int l2), some (.int l3), some (.int l4), some (.int s0), none]) (st := []) (w := Wd f fl g gl hh v tx) rfl (fun c6 => ?_) (fun c6 => ?_)
      · have h7 := h5.1 c6
        refine WP.run hP_9 3 (c' := (43, [some (.ref 38), some (.ref 1), some (.int l2), some (.int l3), none, none, none], [.int l2, .ref 42], Wd f fl g gl hh v tx)) rfl ?_
        refine WP.of (fun _ _ => Ex.iald hP_9 rfl (Wa_42 _ _ _ _ _ _ _) h7.1) ?_
        have h8 := h7.2
        refine WP.run hP_9 9 (c' := (60, [some (.ref 38), some (.ref 1), some (.int l2), some (.int l3), none, none, some (.int ((g 42) l2.toNatClampNeg))], [.int l2, .ref 3, .int l3, .ref 43, .int ((g 42) l2.toNatClampNeg), .int 1000000], Wd f fl g gl hh v tx)) rfl ?_
        refine WP.of (fun _ _ => Ex.iald hP_9 rfl (Wa_3 _ _ _ _ _ _ _) h8.1) ?_
        have h9 := h8.2
        refine WP.run hP_9 1 (c' := (62, [some (.ref 38), some (.ref 1), some (.int l2), some (.int l3), none, none, some (.int ((g 42) l2.toNatClampNeg))], [.int (l3 + ((g 3) l2.toNatClampNeg)), .ref 43, .int ((g 42) l2.toNatClampNeg), .int 1000000], Wd f fl g gl hh v tx)) rfl ?_
        refine WP.of (fun _ _ => Ex.iald hP_9 rfl (Wa_43 _ _ _ _ _ _ _) h9.1) ?_
        have h10 := h9.2
        refine WP.run hP_9 2 (c' := (67, [some (.ref 38), some (.ref 1), some (.int l2), some (.int l3), none, none, some (.int ((g 42) l2.toNatClampNeg))], [.int (if (((g 42) l2.toNatClampNeg) + ((g 43) (l3 + ((g 3) l2.toNatClampNeg)).toNatClampNeg)) < 1000000 then (((g 42) l2.toNatClampNeg) + ((g 43) (l3 + ((g 3) l2.toNatClampNeg)).toNatClampNeg)) else 1000000)], Wd f fl g gl hh v tx)) rfl ?_
        exact WP.retI hP_9 rfl rfl h10
      · have h11 := h5.2 c6
        refine WP.run hP_9 11 (c' := (60, [some (.ref 38), some (.ref 1), some (.int l2), some (.int l3), none, none, some (.int s0)], [.int l2, .ref 3, .int l3, .ref 43, .int s0, .int 1000000], Wd f fl g gl hh v tx)) rfl ?_
        refine WP.of (fun _ _ => Ex.iald hP_9 rfl (Wa_3 _ _ _ _ _ _ _) h11.1) ?_
        have h12 := h11.2
        refine WP.run hP_9 1 (c' := (62, [some (.ref 38), some (.ref 1), some (.int l2), some (.int l3), none, none, some (.int s0)], [.int (l3 + ((g 3) l2.toNatClampNeg)), .ref 43, .int s0, .int 1000000], Wd f fl g gl hh v tx)) rfl ?_
        refine WP.of (fun _ _ => Ex.iald hP_9 rfl (Wa_43 _ _ _ _ _ _ _) h12.1) ?_
        have h13 := h12.2
        refine WP.run hP_9 2 (c' := (67, [some (.ref 38), some (.ref 1), some (.int l2), some (.int l3), none, none, some (.int s0)], [.int (if (s0 + ((g 43) (l3 + ((g 3) l2.toNatClampNeg)).toNatClampNeg)) < 1000000 then (s0 + ((g 43) (l3 + ((g 3) l2.toNatClampNeg)).toNatClampNeg)) else 1000000)], Wd f fl g gl hh v tx)) rfl ?_
        exact WP.retI hP_9 rfl rfl h13
    · have h14 := h3.2 c4
      refine WP.run hP_9 1 (c' := (22, [some (.ref 38), some (.ref 1), some (.int l2), some (.int l3), some (.int l4), some (.int s0), none], [.int l4], Wd f fl g gl hh v tx)) rfl ?_
      refine WP.br hP_9 (q := ¬ l4 = 0) (t := 28) (f := 25) (L := [some (.ref 38), some (.ref 1), some (.int l2), some (.int l3), some (.int l4), some (.int s0), none]) (st := []) (w := Wd f fl g gl hh v tx) rfl (fun c15 => ?_) (fun c15 => ?_)
      · have h16 := h14.1 c15
        refine WP.run hP_9 1 (c' := (30, [some (.ref 38), some (.ref 1), some (.int l2), some (.int l3), some (.int l4), some (.int s0), none], [.int l4], Wd f fl g gl hh v tx)) rfl ?_
        refine WP.br hP_9 (q := l4 = 0) (t := 38) (f := 33) (L := [some (.ref 38), some (.ref 1), some (.int l2), some (.int l3), some (.int l4), some (.int s0), none]) (st := []) (w := Wd f fl g gl hh v tx) rfl (fun c17 => ?_) (fun c17 => ?_)
        · have h18 := h16.1 c17
          refine WP.run hP_9 3 (c' := (43, [some (.ref 38), some (.ref 1), some (.int l2), some (.int l3), none, none, none], [.int l2, .ref 42], Wd f fl g gl hh v tx)) rfl ?_
          refine WP.of (fun _ _ => Ex.iald hP_9 rfl (Wa_42 _ _ _ _ _ _ _) h18.1) ?_
          have h19 := h18.2
          refine WP.run hP_9 9 (c' := (60, [some (.ref 38), some (.ref 1), some (.int l2), some (.int l3), none, none, some (.int ((g 42) l2.toNatClampNeg))], [.int l2, .ref 3, .int l3, .ref 43, .int ((g 42) l2.toNatClampNeg), .int 1000000], Wd f fl g gl hh v tx)) rfl ?_
          refine WP.of (fun _ _ => Ex.iald hP_9 rfl (Wa_3 _ _ _ _ _ _ _) h19.1) ?_
          have h20 := h19.2
          refine WP.run hP_9 1 (c' := (62, [some (.ref 38), some (.ref 1), some (.int l2), some (.int l3), none, none, some (.int ((g 42) l2.toNatClampNeg))], [.int (l3 + ((g 3) l2.toNatClampNeg)), .ref 43, .int ((g 42) l2.toNatClampNeg), .int 1000000], Wd f fl g gl hh v tx)) rfl ?_
          refine WP.of (fun _ _ => Ex.iald hP_9 rfl (Wa_43 _ _ _ _ _ _ _) h20.1) ?_
          have h21 := h20.2
          refine WP.run hP_9 2 (c' := (67, [some (.ref 38), some (.ref 1), some (.int l2), some (.int l3), none, none, some (.int ((g 42) l2.toNatClampNeg))], [.int (if (((g 42) l2.toNatClampNeg) + ((g 43) (l3 + ((g 3) l2.toNatClampNeg)).toNatClampNeg)) < 1000000 then (((g 42) l2.toNatClampNeg) + ((g 43) (l3 + ((g 3) l2.toNatClampNeg)).toNatClampNeg)) else 1000000)], Wd f fl g gl hh v tx)) rfl ?_
          exact WP.retI hP_9 rfl rfl h21
        · have h22 := h16.2 c17
          refine WP.run hP_9 11 (c' := (60, [some (.ref 38), some (.ref 1), some (.int l2), some (.int l3), none, none, some (.int s0)], [.int l2, .ref 3, .int l3, .ref 43, .int s0, .int 1000000], Wd f fl g gl hh v tx)) rfl ?_
          refine WP.of (fun _ _ => Ex.iald hP_9 rfl (Wa_3 _ _ _ _ _ _ _) h22.1) ?_
          have h23 := h22.2
          refine WP.run hP_9 1 (c' := (62, [some (.ref 38), some (.ref 1), some (.int l2), some (.int l3), none, none, some (.int s0)], [.int (l3 + ((g 3) l2.toNatClampNeg)), .ref 43, .int s0, .int 1000000], Wd f fl g gl hh v tx)) rfl ?_
          refine WP.of (fun _ _ => Ex.iald hP_9 rfl (Wa_43 _ _ _ _ _ _ _) h23.1) ?_
          have h24 := h23.2
          refine WP.run hP_9 2 (c' := (67, [some (.ref 38), some (.ref 1), some (.int l2), some (.int l3), none, none, some (.int s0)], [.int (if (s0 + ((g 43) (l3 + ((g 3) l2.toNatClampNeg)).toNatClampNeg)) < 1000000 then (s0 + ((g 43) (l3 + ((g 3) l2.toNatClampNeg)).toNatClampNeg)) else 1000000)], Wd f fl g gl hh v tx)) rfl ?_
          exact WP.retI hP_9 rfl rfl h24
      · have h25 := h14.2 (Classical.not_not.mp c15)
        refine WP.run hP_9 1 (c' := (27, [none, none, none, none, none, none, none], [.int 1000000], Wd f fl g gl hh v tx)) rfl ?_
        exact WP.retI hP_9 rfl rfl h25

set_option maxRecDepth 20000 in
theorem b_yca_pick_38_1_0 (X : mm_X) (d : Nat) (f : Nat → Int32) (fl : Nat → Int64) (g : Nat → Nat → Int32) (gl : Nat → Nat → Int64) (hh : Nat → Nat → Option Nat) (v : Nat → Value) (tx : mm_W) (p0 : Int32)  (P : Option Value → mm_W → Prop)
    (h : (¬ ((f 70) < 0 ∨ 13 ≤ (f 70).toNatClampNeg)) ∧ WP X (d) 8 (17, [some (.ref 38), some (.ref 1), some (.int p0), some (.int ((f 70) - (1 : Int32))), none, none], [], Wd f fl (va_up g 43 (upd (g 43) ((f 70).toNatClampNeg) 0)) gl hh v tx) P) :
    WP X (d) 8 (0, [some (.ref 38), some (.ref 1), some (.int p0), none, none, none], [], Wd f fl g gl hh v tx) P := by
  refine WP.run hP_8 5 (c' := (9, [some (.ref 38), some (.ref 1), some (.int p0), none, none, none], [.int 0, .int (f 70), .ref 43], Wd f fl g gl hh v tx)) rfl ?_
  refine WP.of (fun _ _ => Ex.iast hP_8 (w2 := Wd f fl (va_up g 43 (upd (g 43) ((f 70).toNatClampNeg) 0)) gl hh v tx) rfl (Wa_43 _ _ _ _ _ _ _) h.1 (Ws_43 _ _ _ _ _ _ _ _)) ?_
  have h1 := h.2
  refine WP.run hP_8 5 (c' := (17, [some (.ref 38), some (.ref 1), some (.int p0), some (.int ((f 70) - (1 : Int32))), none, none], [], Wd f fl (va_up g 43 (upd (g 43) ((f 70).toNatClampNeg) 0)) gl hh v tx)) rfl ?_
  exact h1

set_option maxRecDepth 20000 in
theorem b_yca_pick_38_1_17 (X : mm_X) (d : Nat) (f : Nat → Int32) (fl : Nat → Int64) (g : Nat → Nat → Int32) (gl : Nat → Nat → Int64) (hh : Nat → Nat → Option Nat) (v : Nat → Value) (tx : mm_W) (l2 : Int32) (l3 : Int32)  (P : Option Value → mm_W → Prop)
    (h : ((l3 < 0) → WP X (d) 8 (90, [some (.ref 38), some (.ref 1), some (.int l2), some (.int 0), none, none], [], Wd (va_up (va_up f 2438 ((g 43) 0)) 2437 0) fl g gl hh v tx) P) ∧
    ((¬ (l3 < 0)) → WP X (d) 8 (28, [some (.ref 38), some (.ref 1), some (.int l2), some (.int l3), some (.int 1000000), some (.int 0)], [], Wd f fl g gl hh v tx) P)) :
    WP X (d) 8 (17, [some (.ref 38), some (.ref 1), some (.int l2), some (.int l3), none, none], [], Wd f fl g gl hh v tx) P := by
  refine WP.run hP_8 1 (c' := (18, [some (.ref 38), some (.ref 1), some (.int l2), some (.int l3), none, none], [.int l3], Wd f fl g gl hh v tx)) rfl ?_
  refine WP.br hP_8 (q := l3 < 0) (t := 73) (f := 21) (L := [some (.ref 38), some (.ref 1), some (.int l2), some (.int l3), none, none]) (st := []) (w := Wd f fl g gl hh v tx) rfl (fun c1 => ?_) (fun c1 => ?_)
  · have h2 := h.1 c1
    refine WP.run hP_8 4 (c' := (79, [some (.ref 38), some (.ref 1), some (.int l2), none, none, none], [.int 0, .ref 43, .ref 38], Wd f fl g gl hh v tx)) rfl ?_
    refine WP.of (fun _ _ => Ex.iald hP_8 rfl (Wa_43 _ _ _ _ _ _ _) (by decide)) ?_
    show WP X _ 8 (80, [some (.ref 38), some (.ref 1), some (.int l2), none, none, none], [.int ((g 43) 0), .ref 38], Wd f fl g gl hh v tx) P
    refine WP.run hP_8 5 (c' := (89, [some (.ref 38), some (.ref 1), some (.int l2), none, none, none], [.int 0], Wd (va_up (va_up f 2438 ((g 43) 0)) 2437 0) fl g gl hh v tx)) rfl ?_
    refine WP.run hP_8 1 (c' := (90, [some (.ref 38), some (.ref 1), some (.int l2), some (.int 0), none, none], [], Wd (va_up (va_up f 2438 ((g 43) 0)) 2437 0) fl g gl hh v tx)) rfl ?_
    exact h2
  · have h3 := h.2 c1
    refine WP.run hP_8 3 (c' := (26, [some (.ref 38), some (.ref 1), some (.int l2), some (.int l3), some (.int 1000000), none], [.int 0], Wd f fl g gl hh v tx)) rfl ?_
    refine WP.run hP_8 1 (c' := (28, [some (.ref 38), some (.ref 1), some (.int l2), some (.int l3), some (.int 1000000), some (.int 0)], [], Wd f fl g gl hh v tx)) rfl ?_
    exact h3

set_option maxRecDepth 20000 in
theorem b_yca_pick_38_1_90 (X : mm_X) (d : Nat) (f : Nat → Int32) (fl : Nat → Int64) (g : Nat → Nat → Int32) (gl : Nat → Nat → Int64) (hh : Nat → Nat → Option Nat) (v : Nat → Value) (tx : mm_W) (l2 : Int32) (l3 : Int32)  (P : Option Value → mm_W → Prop)
    (h : ((1000000 ≤ (f 2438)) → (((1000000 ≤ (f 2438)) → P (some (.int 0)) (Wd f fl g gl hh v tx)) ∧
      ((¬ (1000000 ≤ (f 2438))) → P (some (.int 1)) (Wd f fl g gl hh v tx)))) ∧
    ((¬ (1000000 ≤ (f 2438))) → ((((f 70) ≤ l3) → (((1000000 ≤ (f 2438)) → P (some (.int 0)) (Wd f fl g gl hh v tx)) ∧
        ((¬ (1000000 ≤ (f 2438))) → P (some (.int 1)) (Wd f fl g gl hh v tx)))) ∧
      ((¬ ((f 70) ≤ l3)) → (((12 ≤ (f 2437)) → (((1000000 ≤ (f 2438)) → P (some (.int 0)) (Wd f fl g gl hh v tx)) ∧
          ((¬ (1000000 ≤ (f 2438))) → P (some (.int 1)) (Wd f fl g gl hh v tx)))) ∧
        ((¬ (12 ≤ (f 2437))) → WP X (d) 8 (119, [some (.ref 38), some (.ref 1), some (.int l2), some (.int l3), some (.int 0), none], [], Wd f fl g gl hh v tx) P)))))) :
    WP X (d) 8 (90, [some (.ref 38), some (.ref 1), some (.int l2), some (.int l3), none, none], [], Wd f fl g gl hh v tx) P := by
  refine WP.run hP_8 3 (c' := (96, [some (.ref 38), some (.ref 1), some (.int l2), some (.int l3), none, none], [.int 1000000, .int (f 2438)], Wd f fl g gl hh v tx)) rfl ?_
  refine WP.br hP_8 (q := 1000000 ≤ (f 2438)) (t := 192) (f := 99) (L := [some (.ref 38), some (.ref 1), some (.int l2), some (.int l3), none, none]) (st := []) (w := Wd f fl g gl hh v tx) rfl (fun c1 => ?_) (fun c1 => ?_)
  · have h2 := h.1 c1
    refine WP.run hP_8 3 (c' := (198, [some (.ref 38), none, none, none, none, none], [.int 1000000, .int (f 2438)], Wd f fl g gl hh v tx)) rfl ?_
    refine WP.br hP_8 (q := 1000000 ≤ (f 2438)) (t := 205) (f := 201) (L := [some (.ref 38), none, none, none, none, none]) (st := []) (w := Wd f fl g gl hh v tx) rfl (fun c3 => ?_) (fun c3 => ?_)
    · have h4 := h2.1 c3
      refine WP.run hP_8 1 (c' := (206, [none, none, none, none, none, none], [.int 0], Wd f fl g gl hh v tx)) rfl ?_
      exact WP.ret hP_8 (r := some (.int 0)) (w' := Wd f fl g gl hh v tx) rfl h4
    · have h5 := h2.2 c3
      refine WP.run hP_8 2 (c' := (206, [some (.ref 38), none, none, none, none, none], [.int 1], Wd f fl g gl hh v tx)) rfl ?_
      exact WP.ret hP_8 (r := some (.int 1)) (w' := Wd f fl g gl hh v tx) rfl h5
  · have h6 := h.2 c1
    refine WP.run hP_8 3 (c' := (104, [some (.ref 38), some (.ref 1), some (.int l2), some (.int l3), none, none], [.int (f 70), .int l3], Wd f fl g gl hh v tx)) rfl ?_
    refine WP.br hP_8 (q := (f 70) ≤ l3) (t := 192) (f := 107) (L := [some (.ref 38), some (.ref 1), some (.int l2), some (.int l3), none, none]) (st := []) (w := Wd f fl g gl hh v tx) rfl (fun c7 => ?_) (fun c7 => ?_)
    · have h8 := h6.1 c7
      refine WP.run hP_8 3 (c' := (198, [some (.ref 38), none, none, none, none, none], [.int 1000000, .int (f 2438)], Wd f fl g gl hh v tx)) rfl ?_
      refine WP.br hP_8 (q := 1000000 ≤ (f 2438)) (t := 205) (f := 201) (L := [some (.ref 38), none, none, none, none, none]) (st := []) (w := Wd f fl g gl hh v tx) rfl (fun c9 => ?_) (fun c9 => ?_)
      · have h10 := h8.1 c9
        refine WP.run hP_8 1 (c' := (206, [none, none, none, none, none, none], [.int 0], Wd f fl g gl hh v tx)) rfl ?_
        exact WP.ret hP_8 (r := some (.int 0)) (w' := Wd f fl g gl hh v tx) rfl h10
      · have h11 := h8.2 c9
        refine WP.run hP_8 2 (c' := (206, [some (.ref 38), none, none, none, none, none], [.int 1], Wd f fl g gl hh v tx)) rfl ?_
        exact WP.ret hP_8 (r := some (.int 1)) (w' := Wd f fl g gl hh v tx) rfl h11
    · have h12 := h6.2 c7
      refine WP.run hP_8 3 (c' := (113, [some (.ref 38), some (.ref 1), some (.int l2), some (.int l3), none, none], [.int 12, .int (f 2437)], Wd f fl g gl hh v tx)) rfl ?_
      refine WP.br hP_8 (q := 12 ≤ (f 2437)) (t := 192) (f := 116) (L := [some (.ref 38), some (.ref 1), some (.int l2), some (.int l3), none, none]) (st := []) (w := Wd f fl g gl hh v tx) rfl (fun c13 => ?_) (fun c13 => ?_)
      · have h14 := h12.1 c13
        refine WP.run hP_8 3 (c' := (198, [some (.ref 38), none, none, none, none, none], [.int 1000000, .int (f 2438)], Wd f fl g gl hh v tx)) rfl ?_
        refine WP.br hP_8 (q := 1000000 ≤ (f 2438)) (t := 205) (f := 201) (L := [some (.ref 38), none, none, none, none, none]) (st := []) (w := Wd f fl g gl hh v tx) rfl (fun c15 => ?_) (fun c15 => ?_)
        · have h16 := h14.1 c15
          refine WP.run hP_8 1 (c' := (206, [none, none, none, none, none, none], [.int 0], Wd f fl g gl hh v tx)) rfl ?_
          exact WP.ret hP_8 (r := some (.int 0)) (w' := Wd f fl g gl hh v tx) rfl h16
        · have h17 := h14.2 c15
          refine WP.run hP_8 2 (c' := (206, [some (.ref 38), none, none, none, none, none], [.int 1], Wd f fl g gl hh v tx)) rfl ?_
          exact WP.ret hP_8 (r := some (.int 1)) (w' := Wd f fl g gl hh v tx) rfl h17
      · have h18 := h12.2 c13
        refine WP.run hP_8 2 (c' := (119, [some (.ref 38), some (.ref 1), some (.int l2), some (.int l3), some (.int 0), none], [], Wd f fl g gl hh v tx)) rfl ?_
        exact h18

set_option maxRecDepth 20000 in
theorem b_yca_pick_38_1_28 (X : mm_X) (d : Nat) (f : Nat → Int32) (fl : Nat → Int64) (g : Nat → Nat → Int32) (gl : Nat → Nat → Int64) (hh : Nat → Nat → Option Nat) (v : Nat → Value) (tx : mm_W) (l2 : Int32) (l3 : Int32) (l4 : Int32) (l5 : Int32)  (P : Option Value → mm_W → Prop)
    (h : (((f 64) ≤ l5) → ((¬ (l3 < 0 ∨ 13 ≤ l3.toNatClampNeg)) ∧ WP X (d + 1) 8 (17, [some (.ref 38), some (.ref 1), some (.int l2), some (.int (l3 + (-1 : Int32))), none, none], [], Wd f fl (va_up g 43 (upd (g 43) (l3.toNatClampNeg) l4)) gl hh v tx) P)) ∧
    ((¬ ((f 64) ≤ l5)) → WP X (d) 9 (0, [some (.ref 38), some (.ref 1), some (.int l5), some (.int l3), some (.int l2), none, none], [], Wd f fl g gl hh v tx) (fun rv w2 => WP X (d + 1) 8 (48, [some (.ref 38), some (.ref 1), some (.int l2), some (.int l3), some (.int l4), some (.int l5)], rv.toList ++ [.int l4], w2) P))) :
    WP X (d + 1) 8 (28, [some (.ref 38), some (.ref 1), some (.int l2), some (.int l3), some (.int l4), some (.int l5)], [], Wd f fl g gl hh v tx) P := by
  refine WP.run hP_8 3 (c' := (34, [some (.ref 38), some (.ref 1), some (.int l2), some (.int l3), some (.int l4), some (.int l5)], [.int (f 64), .int l5], Wd f fl g gl hh v tx)) rfl ?_
  refine WP.br hP_8 (q := (f 64) ≤ l5) (t := 59) (f := 37) (L := [some (.ref 38), some (.ref 1), some (.int l2), some (.int l3), some (.int l4), some (.int l5)]) (st := []) (w := Wd f fl g gl hh v tx) rfl (fun c1 => ?_) (fun c1 => ?_)
  · have h2 := h.1 c1
    refine WP.run hP_8 4 (c' := (66, [some (.ref 38), some (.ref 1), some (.int l2), some (.int l3), some (.int l4), none], [.int l4, .int l3, .ref 43], Wd f fl g gl hh v tx)) rfl ?_
    refine WP.of (fun _ _ => Ex.iast hP_8 (w2 := Wd f fl (va_up g 43 (upd (g 43) (l3.toNatClampNeg) l4)) gl hh v tx) rfl (Wa_43 _ _ _ _ _ _ _) h2.1 (Ws_43 _ _ _ _ _ _ _ _)) ?_
    have h3 := h2.2
    refine WP.run hP_8 2 (c' := (17, [some (.ref 38), some (.ref 1), some (.int l2), some (.int (l3 + (-1 : Int32))), some (.int l4), none], [], Wd f fl (va_up g 43 (upd (g 43) (l3.toNatClampNeg) l4)) gl hh v tx)) rfl ?_
    refine WP.clr hP_8 (pc := 17) rfl ?_
    exact h3
  · have h4 := h.2 c1
    refine WP.run hP_8 6 (c' := (45, [some (.ref 38), some (.ref 1), some (.int l2), some (.int l3), some (.int l4), some (.int l5)], [.int l2, .int l3, .int l5, .ref 1, .ref 38, .int l4], Wd f fl g gl hh v tx)) rfl ?_
    refine WP.call hP_8 hP_9 (as := [.ref 38, .ref 1, .int l5, .int l3, .int l2]) (pc' := 48) (L' := [some (.ref 38), some (.ref 1), some (.int l2), some (.int l3), some (.int l4), some (.int l5)]) (st' := [.int l4]) (w1 := Wd f fl g gl hh v tx) rfl ⟨Nat.le_of_ble_eq_true rfl, Nat.le_of_ble_eq_true rfl⟩ rfl ?_
    exact h4

set_option maxRecDepth 20000 in
theorem b_yca_pick_38_1_119 (X : mm_X) (d : Nat) (f : Nat → Int32) (fl : Nat → Int64) (g : Nat → Nat → Int32) (gl : Nat → Nat → Int64) (hh : Nat → Nat → Option Nat) (v : Nat → Value) (tx : mm_W) (l2 : Int32) (l3 : Int32) (l4 : Int32)  (P : Option Value → mm_W → Prop)
    (h : ((((f 64) - (1 : Int32)) ≤ l4) → ((¬ ((f 2437) < 0 ∨ 12 ≤ (f 2437).toNatClampNeg)) ∧ ((¬ (l4 < 0 ∨ 8 ≤ l4.toNatClampNeg)) ∧ WP X (d + 1) 8 (90, [some (.ref 38), some (.ref 1), some (.int l2), some (.int (l3 + (if 1 < ((g 3) l4.toNatClampNeg) then ((g 3) l4.toNatClampNeg) else 1))), none, none], [], Wd (va_up f 2437 ((f 2437) + (1 : Int32))) fl (va_up g 44 (upd (g 44) ((f 2437).toNatClampNeg) l4)) gl hh v tx) P))) ∧
    ((¬ (((f 64) - (1 : Int32)) ≤ l4)) → WP X (d) 9 (0, [some (.ref 38), some (.ref 1), some (.int l4), some (.int l3), some (.int l2), none, none], [], Wd f fl g gl hh v tx) (fun rv w2 => WP X (d + 1) 8 (139, [some (.ref 38), some (.ref 1), some (.int l2), some (.int l3), some (.int l4), none], rv.toList ++ [], w2) P))) :
    WP X (d + 1) 8 (119, [some (.ref 38), some (.ref 1), some (.int l2), some (.int l3), some (.int l4), none], [], Wd f fl g gl hh v tx) P := by
  refine WP.run hP_8 5 (c' := (127, [some (.ref 38), some (.ref 1), some (.int l2), some (.int l3), some (.int l4), none], [.int ((f 64) - (1 : Int32)), .int l4], Wd f fl g gl hh v tx)) rfl ?_
  refine WP.br hP_8 (q := ((f 64) - (1 : Int32)) ≤ l4) (t := 154) (f := 130) (L := [some (.ref 38), some (.ref 1), some (.int l2), some (.int l3), some (.int l4), none]) (st := []) (w := Wd f fl g gl hh v tx) rfl (fun c1 => ?_) (fun c1 => ?_)
  · have h2 := h.1 c1
    refine WP.run hP_8 5 (c' := (164, [some (.ref 38), some (.ref 1), some (.int l2), some (.int l3), some (.int l4), none], [.int l4, .int (f 2437), .ref 44], Wd f fl g gl hh v tx)) rfl ?_
    refine WP.of (fun _ _ => Ex.iast hP_8 (w2 := Wd f fl (va_up g 44 (upd (g 44) ((f 2437).toNatClampNeg) l4)) gl hh v tx) rfl (Wa_44 _ _ _ _ _ _ _) h2.1 (Ws_44 _ _ _ _ _ _ _ _)) ?_
    have h3 := h2.2
    refine WP.run hP_8 11 (c' := (183, [some (.ref 38), some (.ref 1), some (.int l2), some (.int l3), some (.int l4), none], [.int l4, .ref 3, .int 1, .int l3], Wd (va_up f 2437 ((f 2437) + (1 : Int32))) fl (va_up g 44 (upd (g 44) ((f 2437).toNatClampNeg) l4)) gl hh v tx)) rfl ?_
    refine WP.of (fun _ _ => Ex.iald hP_8 rfl (Wa_3 _ _ _ _ _ _ _) h3.1) ?_
    have h4 := h3.2
    refine WP.run hP_8 4 (c' := (90, [some (.ref 38), some (.ref 1), some (.int l2), some (.int (l3 + (if 1 < ((g 3) l4.toNatClampNeg) then ((g 3) l4.toNatClampNeg) else 1))), some (.int l4), none], [], Wd (va_up f 2437 ((f 2437) + (1 : Int32))) fl (va_up g 44 (upd (g 44) ((f 2437).toNatClampNeg) l4)) gl hh v tx)) rfl ?_
    refine WP.clr hP_8 (pc := 90) rfl ?_
    exact h4
  · have h5 := h.2 c1
    refine WP.run hP_8 5 (c' := (136, [some (.ref 38), some (.ref 1), some (.int l2), some (.int l3), some (.int l4), none], [.int l2, .int l3, .int l4, .ref 1, .ref 38], Wd f fl g gl hh v tx)) rfl ?_
    refine WP.call hP_8 hP_9 (as := [.ref 38, .ref 1, .int l4, .int l3, .int l2]) (pc' := 139) (L' := [some (.ref 38), some (.ref 1), some (.int l2), some (.int l3), some (.int l4), none]) (st' := []) (w1 := Wd f fl g gl hh v tx) rfl ⟨Nat.le_of_ble_eq_true rfl, Nat.le_of_ble_eq_true rfl⟩ rfl ?_
    exact h5

set_option maxRecDepth 20000 in
theorem b_yca_pick_38_1_48 (X : mm_X) (d : Nat) (f : Nat → Int32) (fl : Nat → Int64) (g : Nat → Nat → Int32) (gl : Nat → Nat → Int64) (hh : Nat → Nat → Option Nat) (v : Nat → Value) (tx : mm_W) (l2 : Int32) (l3 : Int32) (l4 : Int32) (l5 : Int32) (s0 : Int32) (s1 : Int32)  (P : Option Value → mm_W → Prop)
    (h : WP X (d) 8 (28, [some (.ref 38), some (.ref 1), some (.int l2), some (.int l3), some (.int (if s0 < s1 then s0 else s1)), some (.int (l5 + (1 : Int32)))], [], Wd f fl g gl hh v tx) P) :
    WP X (d) 8 (48, [some (.ref 38), some (.ref 1), some (.int l2), some (.int l3), some (.int l4), some (.int l5)], [.int s0, .int s1], Wd f fl g gl hh v tx) P := by
  refine WP.run hP_8 2 (c' := (53, [some (.ref 38), some (.ref 1), some (.int l2), some (.int l3), some (.int (if s0 < s1 then s0 else s1)), some (.int l5)], [], Wd f fl g gl hh v tx)) rfl ?_
  refine WP.run hP_8 2 (c' := (28, [some (.ref 38), some (.ref 1), some (.int l2), some (.int l3), some (.int (if s0 < s1 then s0 else s1)), some (.int (l5 + (1 : Int32)))], [], Wd f fl g gl hh v tx)) rfl ?_
  exact h

set_option maxRecDepth 20000 in
theorem b_yca_pick_38_1_139 (X : mm_X) (d : Nat) (f : Nat → Int32) (fl : Nat → Int64) (g : Nat → Nat → Int32) (gl : Nat → Nat → Int64) (hh : Nat → Nat → Option Nat) (v : Nat → Value) (tx : mm_W) (l2 : Int32) (l3 : Int32) (l4 : Int32) (s0 : Int32)  (P : Option Value → mm_W → Prop)
    (h : (¬ (l3 < 0 ∨ 13 ≤ l3.toNatClampNeg)) ∧ (((s0 = ((g 43) l3.toNatClampNeg)) → ((¬ ((f 2437) < 0 ∨ 12 ≤ (f 2437).toNatClampNeg)) ∧ ((¬ (l4 < 0 ∨ 8 ≤ l4.toNatClampNeg)) ∧ WP X (d) 8 (90, [some (.ref 38), some (.ref 1), some (.int l2), some (.int (l3 + (if 1 < ((g 3) l4.toNatClampNeg) then ((g 3) l4.toNatClampNeg) else 1))), none, none], [], Wd (va_up f 2437 ((f 2437) + (1 : Int32))) fl (va_up g 44 (upd (g 44) ((f 2437).toNatClampNeg) l4)) gl hh v tx) P))) ∧
    ((¬ s0 = ((g 43) l3.toNatClampNeg)) → WP X (d) 8 (119, [some (.ref 38), some (.ref 1), some (.int l2), some (.int l3), some (.int (l4 + (1 : Int32))), none], [], Wd f fl g gl hh v tx) P))) :
    WP X (d) 8 (139, [some (.ref 38), some (.ref 1), some (.int l2), some (.int l3), some (.int l4), none], [.int s0], Wd f fl g gl hh v tx) P := by
  refine WP.run hP_8 3 (c' := (144, [some (.ref 38), some (.ref 1), some (.int l2), some (.int l3), some (.int l4), none], [.int l3, .ref 43, .int s0], Wd f fl g gl hh v tx)) rfl ?_
  refine WP.of (fun _ _ => Ex.iald hP_8 rfl (Wa_43 _ _ _ _ _ _ _) h.1) ?_
  have h1 := h.2
  refine WP.br hP_8 (q := s0 = ((g 43) l3.toNatClampNeg)) (t := 154) (f := 148) (L := [some (.ref 38), some (.ref 1), some (.int l2), some (.int l3), some (.int l4), none]) (st := []) (w := Wd f fl g gl hh v tx) rfl (fun c2 => ?_) (fun c2 => ?_)
  · have h3 := h1.1 c2
    refine WP.run hP_8 5 (c' := (164, [some (.ref 38), some (.ref 1), some (.int l2), some (.int l3), some (.int l4), none], [.int l4, .int (f 2437), .ref 44], Wd f fl g gl hh v tx)) rfl ?_
    refine WP.of (fun _ _ => Ex.iast hP_8 (w2 := Wd f fl (va_up g 44 (upd (g 44) ((f 2437).toNatClampNeg) l4)) gl hh v tx) rfl (Wa_44 _ _ _ _ _ _ _) h3.1 (Ws_44 _ _ _ _ _ _ _ _)) ?_
    have h4 := h3.2
    refine WP.run hP_8 11 (c' := (183, [some (.ref 38), some (.ref 1), some (.int l2), some (.int l3), some (.int l4), none], [.int l4, .ref 3, .int 1, .int l3], Wd (va_up f 2437 ((f 2437) + (1 : Int32))) fl (va_up g 44 (upd (g 44) ((f 2437).toNatClampNeg) l4)) gl hh v tx)) rfl ?_
    refine WP.of (fun _ _ => Ex.iald hP_8 rfl (Wa_3 _ _ _ _ _ _ _) h4.1) ?_
    have h5 := h4.2
    refine WP.run hP_8 4 (c' := (90, [some (.ref 38), some (.ref 1), some (.int l2), some (.int (l3 + (if 1 < ((g 3) l4.toNatClampNeg) then ((g 3) l4.toNatClampNeg) else 1))), some (.int l4), none], [], Wd (va_up f 2437 ((f 2437) + (1 : Int32))) fl (va_up g 44 (upd (g 44) ((f 2437).toNatClampNeg) l4)) gl hh v tx)) rfl ?_
    refine WP.clr hP_8 (pc := 90) rfl ?_
    exact h5
  · have h6 := h1.2 c2
    refine WP.run hP_8 2 (c' := (119, [some (.ref 38), some (.ref 1), some (.int l2), some (.int l3), some (.int (l4 + (1 : Int32))), none], [], Wd f fl g gl hh v tx)) rfl ?_
    exact h6

set_option maxRecDepth 20000 in
theorem b_yca_told_38_0 (X : mm_X) (d : Nat) (f : Nat → Int32) (fl : Nat → Int64) (g : Nat → Nat → Int32) (gl : Nat → Nat → Int64) (hh : Nat → Nat → Option Nat) (v : Nat → Value) (tx : mm_W) (p0 : Int32) (p1 : Int32)  (P : Option Value → mm_W → Prop)
    (h : ((¬ p1 = (-1)) → (((0 ≤ p1 ∧ p1 < (f 2437)) → ((¬ (p1 < 0 ∨ 12 ≤ p1.toNatClampNeg)) ∧ P (some (.int ((g 44) p1.toNatClampNeg))) (Wd f fl g gl hh v tx))) ∧
      ((¬ (0 ≤ p1 ∧ p1 < (f 2437))) → P (some (.int (-1))) (Wd f fl g gl hh v tx)))) ∧
    ((p1 = (-1)) → P (some (.int p0)) (Wd f fl g gl hh v tx))) :
    WP X (d + 1) 10 (0, [some (.ref 38), some (.int p0), some (.int p1)], [], Wd f fl g gl hh v tx) P := by
  refine WP.run hP_10 2 (c' := (2, [some (.ref 38), some (.int p0), some (.int p1)], [.int (-1), .int p1], Wd f fl g gl hh v tx)) rfl ?_
  refine WP.br hP_10 (q := ¬ p1 = (-1)) (t := 7) (f := 5) (L := [some (.ref 38), some (.int p0), some (.int p1)]) (st := []) (w := Wd f fl g gl hh v tx) rfl (fun c1 => ?_) (fun c1 => ?_)
  · have h2 := h.1 c1
    refine WP.run hP_10 3 (c' := (12, [some (.ref 38), none, some (.int p1)], [.int (f 2437), .int p1], Wd f fl g gl hh v tx)) rfl ?_
    refine WP.call hP_10 hP_99 (as := [.int p1, .int (f 2437)]) (pc' := 15) (L' := [some (.ref 38), none, some (.int p1)]) (st' := []) (w1 := Wd f fl g gl hh v tx) rfl ⟨Nat.le_of_ble_eq_true rfl, Nat.le_of_ble_eq_true rfl⟩ rfl (b_within_m X (d) f fl g gl hh v tx p1 (f 2437) _ ?_)
    refine ⟨fun c3 => ?_, fun c3 => ?_⟩
    · have h4 := h2.1 c3
      refine WP.run hP_10 4 (c' := (23, [some (.ref 38), none, some (.int p1)], [.int p1, .ref 44], Wd f fl g gl hh v tx)) rfl ?_
      refine WP.of (fun _ _ => Ex.iald hP_10 rfl (Wa_44 _ _ _ _ _ _ _) h4.1) ?_
      have h5 := h4.2
      refine WP.run hP_10 1 (c' := (28, [some (.ref 38), none, some (.int p1)], [.int ((g 44) p1.toNatClampNeg)], Wd f fl g gl hh v tx)) rfl ?_
      exact WP.retI hP_10 rfl rfl h5
    · have h6 := h2.2 c3
      refine WP.run hP_10 2 (c' := (28, [none, none, none], [.int (-1)], Wd f fl g gl hh v tx)) rfl ?_
      exact WP.retI hP_10 rfl rfl h6
  · have h7 := h.2 (Classical.not_not.mp c1)
    refine WP.run hP_10 1 (c' := (6, [some (.ref 38), some (.int p0), some (.int p1)], [.int p0], Wd f fl g gl hh v tx)) rfl ?_
    exact WP.retI hP_10 rfl rfl h7

set_option maxRecDepth 20000 in
theorem b_x_append_0 (X : mm_X) (d : Nat) (f : Nat → Int32) (fl : Nat → Int64) (g : Nat → Nat → Int32) (gl : Nat → Nat → Int64) (hh : Nat → Nat → Option Nat) (v : Nat → Value) (tx : mm_W) (p0 : Int32)  (P : Option Value → mm_W → Prop)
    (h : WP X (d) 103 (3, [some (.ref 0), some (.int p0), some (.int 24)], [], Wd f fl g gl hh v tx) P) :
    WP X (d) 103 (0, [some (.ref 0), some (.int p0), none], [], Wd f fl g gl hh v tx) P := by
  refine WP.run hP_103 2 (c' := (3, [some (.ref 0), some (.int p0), some (.int 24)], [], Wd f fl g gl hh v tx)) rfl ?_
  exact h

set_option maxRecDepth 20000 in
theorem b_x_append_3 (X : mm_X) (d : Nat) (f : Nat → Int32) (fl : Nat → Int64) (g : Nat → Nat → Int32) (gl : Nat → Nat → Int64) (hh : Nat → Nat → Option Nat) (v : Nat → Value) (tx : mm_W) (l1 : Int32) (l2 : Int32)  (P : Option Value → mm_W → Prop)
    (h : ((l2 < 0) → P none (Wd f fl g gl hh v tx)) ∧
    ((¬ (l2 < 0)) → (((400 ≤ (f 6)) → P none (Wd f fl g gl hh v tx)) ∧
      ((¬ (400 ≤ (f 6))) → ((¬ ((f 6) < 0 ∨ 400 ≤ (f 6).toNatClampNeg)) ∧ WP X (d) 103 (3, [some (.ref 0), some (.int l1), some (.int (l2 + (-8 : Int32)))], [], Wd (va_up f 6 ((f 6) + (1 : Int32))) fl (va_up g 30 (upd (g 30) ((f 6).toNatClampNeg) (((l1 >>> (l2 &&& (31 : Int32))) : Int32) &&& (255 : Int32)))) gl hh v tx) P))))) :
    WP X (d) 103 (3, [some (.ref 0), some (.int l1), some (.int l2)], [], Wd f fl g gl hh v tx) P := by
  refine WP.run hP_103 1 (c' := (4, [some (.ref 0), some (.int l1), some (.int l2)], [.int l2], Wd f fl g gl hh v tx)) rfl ?_
  refine WP.br hP_103 (q := l2 < 0) (t := 49) (f := 7) (L := [some (.ref 0), some (.int l1), some (.int l2)]) (st := []) (w := Wd f fl g gl hh v tx) rfl (fun c1 => ?_) (fun c1 => ?_)
  · have h2 := h.1 c1
    exact WP.ret hP_103 (r := none) (w' := Wd f fl g gl hh v tx) rfl h2
  · have h3 := h.2 c1
    refine WP.run hP_103 3 (c' := (14, [some (.ref 0), some (.int l1), some (.int l2)], [.int 400, .int (f 6)], Wd f fl g gl hh v tx)) rfl ?_
    refine WP.br hP_103 (q := 400 ≤ (f 6)) (t := 49) (f := 17) (L := [some (.ref 0), some (.int l1), some (.int l2)]) (st := []) (w := Wd f fl g gl hh v tx) rfl (fun c4 => ?_) (fun c4 => ?_)
    · have h5 := h3.1 c4
      exact WP.ret hP_103 (r := none) (w' := Wd f fl g gl hh v tx) rfl h5
    · have h6 := h3.2 c4
      refine WP.run hP_103 9 (c' := (32, [some (.ref 0), some (.int l1), some (.int l2)], [.int (((l1 >>> (l2 &&& (31 : Int32))) : Int32) &&& (255 : Int32)), .int (f 6), .ref 30], Wd f fl g gl hh v tx)) rfl ?_
      refine WP.of (fun _ _ => Ex.iast hP_103 (w2 := Wd f fl (va_up g 30 (upd (g 30) ((f 6).toNatClampNeg) (((l1 >>> (l2 &&& (31 : Int32))) : Int32) &&& (255 : Int32)))) gl hh v tx) rfl (Wa_30 _ _ _ _ _ _ _) h6.1 (Ws_30 _ _ _ _ _ _ _ _)) ?_
      have h7 := h6.2
      refine WP.run hP_103 8 (c' := (3, [some (.ref 0), some (.int l1), some (.int (l2 + (-8 : Int32)))], [], Wd (va_up f 6 ((f 6) + (1 : Int32))) fl (va_up g 30 (upd (g 30) ((f 6).toNatClampNeg) (((l1 >>> (l2 &&& (31 : Int32))) : Int32) &&& (255 : Int32)))) gl hh v tx)) rfl ?_
      exact h7

set_option maxRecDepth 20000 in
theorem b_x_feed_0 (X : mm_X) (d : Nat) (f : Nat → Int32) (fl : Nat → Int64) (g : Nat → Nat → Int32) (gl : Nat → Nat → Int64) (hh : Nat → Nat → Option Nat) (v : Nat → Value) (tx : mm_W) (p0 : Int32) (p1 : Int32) (p2 : Int32) (p3 : Int32) (p4 : Int32)  (P : Option Value → mm_W → Prop)
    (h : ((((f 6) + (20 : Int32)) ≤ 400) → WP X (d) 103 (0, [some (.ref 0), some (.int p0), none], [], Wd f fl g gl hh v tx) (fun rv w2 => WP X (d + 1) 65 (20, [some (.ref 0), some (.int p0), some (.int p1), some (.int p2), some (.int p3), some (.int p4)], rv.toList ++ [], w2) P)) ∧
    ((¬ (((f 6) + (20 : Int32)) ≤ 400)) → P (some (.int (-1))) (Wd f fl g gl hh v tx))) :
    WP X (d + 1) 65 (0, [some (.ref 0), some (.int p0), some (.int p1), some (.int p2), some (.int p3), some (.int p4)], [], Wd f fl g gl hh v tx) P := by
  refine WP.run hP_65 5 (c' := (10, [some (.ref 0), some (.int p0), some (.int p1), some (.int p2), some (.int p3), some (.int p4)], [.int 400, .int ((f 6) + (20 : Int32))], Wd f fl g gl hh v tx)) rfl ?_
  refine WP.br hP_65 (q := ((f 6) + (20 : Int32)) ≤ 400) (t := 15) (f := 13) (L := [some (.ref 0), some (.int p0), some (.int p1), some (.int p2), some (.int p3), some (.int p4)]) (st := []) (w := Wd f fl g gl hh v tx) rfl (fun c1 => ?_) (fun c1 => ?_)
  · have h2 := h.1 c1
    refine WP.run hP_65 2 (c' := (17, [some (.ref 0), some (.int p0), some (.int p1), some (.int p2), some (.int p3), some (.int p4)], [.int p0, .ref 0], Wd f fl g gl hh v tx)) rfl ?_
    refine WP.call hP_65 hP_103 (as := [.ref 0, .int p0]) (pc' := 20) (L' := [some (.ref 0), some (.int p0), some (.int p1), some (.int p2), some (.int p3), some (.int p4)]) (st' := []) (w1 := Wd f fl g gl hh v tx) rfl ⟨Nat.le_of_ble_eq_true rfl, Nat.le_of_ble_eq_true rfl⟩ rfl ?_
    exact h2
  · have h3 := h.2 c1
    refine WP.run hP_65 1 (c' := (14, [some (.ref 0), some (.int p0), some (.int p1), some (.int p2), some (.int p3), some (.int p4)], [.int (-1)], Wd f fl g gl hh v tx)) rfl ?_
    exact WP.retI hP_65 rfl rfl h3

set_option maxRecDepth 20000 in
theorem b_x_feed_20 (X : mm_X) (d : Nat) (f : Nat → Int32) (fl : Nat → Int64) (g : Nat → Nat → Int32) (gl : Nat → Nat → Int64) (hh : Nat → Nat → Option Nat) (v : Nat → Value) (tx : mm_W) (l1 : Int32) (l2 : Int32) (l3 : Int32) (l4 : Int32) (l5 : Int32)  (P : Option Value → mm_W → Prop)
    (h : WP X (d) 103 (0, [some (.ref 0), some (.int l2), none], [], Wd f fl g gl hh v tx) (fun rv w2 => WP X (d + 1) 65 (25, [some (.ref 0), some (.int l1), some (.int l2), some (.int l3), some (.int l4), some (.int l5)], rv.toList ++ [], w2) P)) :
    WP X (d + 1) 65 (20, [some (.ref 0), some (.int l1), some (.int l2), some (.int l3), some (.int l4), some (.int l5)], [], Wd f fl g gl hh v tx) P := by
  refine WP.run hP_65 2 (c' := (22, [some (.ref 0), some (.int l1), some (.int l2), some (.int l3), some (.int l4), some (.int l5)], [.int l2, .ref 0], Wd f fl g gl hh v tx)) rfl ?_
  refine WP.call hP_65 hP_103 (as := [.ref 0, .int l2]) (pc' := 25) (L' := [some (.ref 0), some (.int l1), some (.int l2), some (.int l3), some (.int l4), some (.int l5)]) (st' := []) (w1 := Wd f fl g gl hh v tx) rfl ⟨Nat.le_of_ble_eq_true rfl, Nat.le_of_ble_eq_true rfl⟩ rfl ?_
  exact h

set_option maxRecDepth 20000 in
theorem b_x_feed_25 (X : mm_X) (d : Nat) (f : Nat → Int32) (fl : Nat → Int64) (g : Nat → Nat → Int32) (gl : Nat → Nat → Int64) (hh : Nat → Nat → Option Nat) (v : Nat → Value) (tx : mm_W) (l1 : Int32) (l2 : Int32) (l3 : Int32) (l4 : Int32) (l5 : Int32)  (P : Option Value → mm_W → Prop)
    (h : WP X (d) 103 (0, [some (.ref 0), some (.int l3), none], [], Wd f fl g gl hh v tx) (fun rv w2 => WP X (d + 1) 65 (30, [some (.ref 0), some (.int l1), some (.int l2), some (.int l3), some (.int l4), some (.int l5)], rv.toList ++ [], w2) P)) :
    WP X (d + 1) 65 (25, [some (.ref 0), some (.int l1), some (.int l2), some (.int l3), some (.int l4), some (.int l5)], [], Wd f fl g gl hh v tx) P := by
  refine WP.run hP_65 2 (c' := (27, [some (.ref 0), some (.int l1), some (.int l2), some (.int l3), some (.int l4), some (.int l5)], [.int l3, .ref 0], Wd f fl g gl hh v tx)) rfl ?_
  refine WP.call hP_65 hP_103 (as := [.ref 0, .int l3]) (pc' := 30) (L' := [some (.ref 0), some (.int l1), some (.int l2), some (.int l3), some (.int l4), some (.int l5)]) (st' := []) (w1 := Wd f fl g gl hh v tx) rfl ⟨Nat.le_of_ble_eq_true rfl, Nat.le_of_ble_eq_true rfl⟩ rfl ?_
  exact h

set_option maxRecDepth 20000 in
theorem b_x_feed_30 (X : mm_X) (d : Nat) (f : Nat → Int32) (fl : Nat → Int64) (g : Nat → Nat → Int32) (gl : Nat → Nat → Int64) (hh : Nat → Nat → Option Nat) (v : Nat → Value) (tx : mm_W) (l1 : Int32) (l2 : Int32) (l3 : Int32) (l4 : Int32) (l5 : Int32)  (P : Option Value → mm_W → Prop)
    (h : WP X (d) 103 (0, [some (.ref 0), some (.int l4), none], [], Wd f fl g gl hh v tx) (fun rv w2 => WP X (d + 1) 65 (36, [some (.ref 0), some (.int l1), some (.int l2), some (.int l3), some (.int l4), some (.int l5)], rv.toList ++ [], w2) P)) :
    WP X (d + 1) 65 (30, [some (.ref 0), some (.int l1), some (.int l2), some (.int l3), some (.int l4), some (.int l5)], [], Wd f fl g gl hh v tx) P := by
  refine WP.run hP_65 2 (c' := (33, [some (.ref 0), some (.int l1), some (.int l2), some (.int l3), some (.int l4), some (.int l5)], [.int l4, .ref 0], Wd f fl g gl hh v tx)) rfl ?_
  refine WP.call hP_65 hP_103 (as := [.ref 0, .int l4]) (pc' := 36) (L' := [some (.ref 0), some (.int l1), some (.int l2), some (.int l3), some (.int l4), some (.int l5)]) (st' := []) (w1 := Wd f fl g gl hh v tx) rfl ⟨Nat.le_of_ble_eq_true rfl, Nat.le_of_ble_eq_true rfl⟩ rfl ?_
  exact h

set_option maxRecDepth 20000 in
theorem b_x_feed_36 (X : mm_X) (d : Nat) (f : Nat → Int32) (fl : Nat → Int64) (g : Nat → Nat → Int32) (gl : Nat → Nat → Int64) (hh : Nat → Nat → Option Nat) (v : Nat → Value) (tx : mm_W) (l1 : Int32) (l2 : Int32) (l3 : Int32) (l4 : Int32) (l5 : Int32)  (P : Option Value → mm_W → Prop)
    (h : WP X (d) 103 (0, [some (.ref 0), some (.int l5), none], [], Wd f fl g gl hh v tx) (fun rv w2 => WP X (d + 1) 65 (42, [some (.ref 0), some (.int l1), some (.int l2), some (.int l3), some (.int l4), some (.int l5)], rv.toList ++ [], w2) P)) :
    WP X (d + 1) 65 (36, [some (.ref 0), some (.int l1), some (.int l2), some (.int l3), some (.int l4), some (.int l5)], [], Wd f fl g gl hh v tx) P := by
  refine WP.run hP_65 2 (c' := (39, [some (.ref 0), some (.int l1), some (.int l2), some (.int l3), some (.int l4), some (.int l5)], [.int l5, .ref 0], Wd f fl g gl hh v tx)) rfl ?_
  refine WP.call hP_65 hP_103 (as := [.ref 0, .int l5]) (pc' := 42) (L' := [some (.ref 0), some (.int l1), some (.int l2), some (.int l3), some (.int l4), some (.int l5)]) (st' := []) (w1 := Wd f fl g gl hh v tx) rfl ⟨Nat.le_of_ble_eq_true rfl, Nat.le_of_ble_eq_true rfl⟩ rfl ?_
  exact h

set_option maxRecDepth 20000 in
theorem b_x_feed_42 (X : mm_X) (d : Nat) (f : Nat → Int32) (fl : Nat → Int64) (g : Nat → Nat → Int32) (gl : Nat → Nat → Int64) (hh : Nat → Nat → Option Nat) (v : Nat → Value) (tx : mm_W) (l1 : Int32) (l2 : Int32) (l3 : Int32) (l4 : Int32) (l5 : Int32)  (P : Option Value → mm_W → Prop)
    (h : P (some (.int (f 6))) (Wd f fl g gl hh v tx)) :
    WP X (d) 65 (42, [some (.ref 0), some (.int l1), some (.int l2), some (.int l3), some (.int l4), some (.int l5)], [], Wd f fl g gl hh v tx) P := by
  refine WP.run hP_65 2 (c' := (46, [some (.ref 0), some (.int l1), some (.int l2), some (.int l3), some (.int l4), some (.int l5)], [.int (f 6)], Wd f fl g gl hh v tx)) rfl ?_
  exact WP.retI hP_65 rfl rfl h

set_option maxRecDepth 20000 in
theorem b_x_mended_0 (X : mm_X) (d : Nat) (f : Nat → Int32) (fl : Nat → Int64) (g : Nat → Nat → Int32) (gl : Nat → Nat → Int64) (hh : Nat → Nat → Option Nat) (v : Nat → Value) (tx : mm_W) (p0 : Int32)  (P : Option Value → mm_W → Prop)
    (h : WP X (d) 8 (0, [some (.ref 38), some (.ref 1), some (.int 1), none, none, none], [], Wd f fl g gl hh v tx) (fun rv w2 => WP X (d + 1) 84 (12, [some (.ref 0), some (.int p0)], rv.toList ++ [], w2) P)) :
    WP X (d + 1) 84 (0, [some (.ref 0), some (.int p0)], [], Wd f fl g gl hh v tx) P := by
  refine WP.run hP_84 5 (c' := (9, [some (.ref 0), some (.int p0)], [.int 1, .ref 1, .ref 38], Wd f fl g gl hh v tx)) rfl ?_
  refine WP.call hP_84 hP_8 (as := [.ref 38, .ref 1, .int 1]) (pc' := 12) (L' := [some (.ref 0), some (.int p0)]) (st' := []) (w1 := Wd f fl g gl hh v tx) rfl ⟨Nat.le_of_ble_eq_true rfl, Nat.le_of_ble_eq_true rfl⟩ rfl ?_
  exact h

set_option maxRecDepth 20000 in
theorem b_x_mended_12 (X : mm_X) (d : Nat) (f : Nat → Int32) (fl : Nat → Int64) (g : Nat → Nat → Int32) (gl : Nat → Nat → Int64) (hh : Nat → Nat → Option Nat) (v : Nat → Value) (tx : mm_W) (l1 : Int32) (s0 : Int32)  (P : Option Value → mm_W → Prop)
    (h : ((s0 = 0) → P (some (.int (-1))) (Wd f fl g gl hh v tx)) ∧
    ((¬ s0 = 0) → (((¬ l1 = (-1)) → (((0 ≤ l1 ∧ l1 < (f 2437)) → ((¬ (l1 < 0 ∨ 12 ≤ l1.toNatClampNeg)) ∧ P (some (.int ((g 44) l1.toNatClampNeg))) (Wd f fl g gl hh v tx))) ∧
        ((¬ (0 ≤ l1 ∧ l1 < (f 2437))) → P (some (.int (-1))) (Wd f fl g gl hh v tx)))) ∧
      ((l1 = (-1)) → P (some (.int (f 2438))) (Wd f fl g gl hh v tx))))) :
    WP X (d + 2) 84 (12, [some (.ref 0), some (.int l1)], [.int s0], Wd f fl g gl hh v tx) P := by
  refine WP.br hP_84 (q := s0 = 0) (t := 33) (f := 15) (L := [some (.ref 0), some (.int l1)]) (st := []) (w := Wd f fl g gl hh v tx) rfl (fun c1 => ?_) (fun c1 => ?_)
  · have h2 := h.1 c1
    refine WP.run hP_84 1 (c' := (34, [none, none], [.int (-1)], Wd f fl g gl hh v tx)) rfl ?_
    exact WP.retI hP_84 rfl rfl h2
  · have h3 := h.2 c1
    refine WP.run hP_84 6 (c' := (27, [some (.ref 0), some (.int l1)], [.int l1, .int (f 2438), .ref 38], Wd f fl g gl hh v tx)) rfl ?_
    refine WP.call hP_84 hP_10 (as := [.ref 38, .int (f 2438), .int l1]) (pc' := 30) (L' := [some (.ref 0), some (.int l1)]) (st' := []) (w1 := Wd f fl g gl hh v tx) rfl ⟨Nat.le_of_ble_eq_true rfl, Nat.le_of_ble_eq_true rfl⟩ rfl (b_yca_told_38_0 X (d) f fl g gl hh v tx (f 2438) l1 _ ?_)
    refine ⟨fun c4 => ?_, fun c4 => ?_⟩
    · have h5 := h3.1 c4
      refine ⟨fun c6 => ?_, fun c6 => ?_⟩
      · have h7 := h5.1 c6
        refine ⟨h7.1, ?_⟩
        have h8 := h7.2
        refine WP.run hP_84 1 (c' := (34, [some (.ref 0), some (.int l1)], [.int ((g 44) l1.toNatClampNeg)], Wd f fl g gl hh v tx)) rfl ?_
        exact WP.retI hP_84 rfl rfl h8
      · have h9 := h5.2 c6
        refine WP.run hP_84 1 (c' := (34, [some (.ref 0), some (.int l1)], [.int (-1)], Wd f fl g gl hh v tx)) rfl ?_
        exact WP.retI hP_84 rfl rfl h9
    · have h10 := h3.2 c4
      refine WP.run hP_84 1 (c' := (34, [some (.ref 0), some (.int l1)], [.int (f 2438)], Wd f fl g gl hh v tx)) rfl ?_
      exact WP.retI hP_84 rfl rfl h10

set_option maxRecDepth 20000 in
theorem b_x_few_0 (X : mm_X) (d : Nat) (f : Nat → Int32) (fl : Nat → Int64) (g : Nat → Nat → Int32) (gl : Nat → Nat → Int64) (hh : Nat → Nat → Option Nat) (v : Nat → Value) (tx : mm_W) (p0 : Int32) (p1 : Int32)  (P : Option Value → mm_W → Prop)
    (h : ((p0 < 1) → P (some (.long (-1))) (Wd f fl g gl hh v tx)) ∧
    ((¬ (p0 < 1)) → (((20 < p0) → P (some (.long (-1))) (Wd f fl g gl hh v tx)) ∧
      ((¬ (20 < p0)) → (((p1 < 0) → P (some (.long (-1))) (Wd f fl g gl hh v tx)) ∧
        ((¬ (p1 < 0)) → (((p1 ≤ 99) → WP X (d) 257 (0, [some (.ref 54), some (.long 0), none, none, none], [], Wd f fl g gl hh v tx) (fun rv w2 => WP X (d + 1) 91 (43, [some (.ref 0), some (.int p0), some (.int p1), some (.int ((g 8) 1)), none, none, none], rv.toList ++ [], w2) P)) ∧
          ((¬ (p1 ≤ 99)) → P (some (.long (-1))) (Wd f fl g gl hh v tx))))))))) :
    WP X (d + 1) 91 (0, [some (.ref 0), some (.int p0), some (.int p1), none, none, none, none], [], Wd f fl g gl hh v tx) P := by
  refine WP.run hP_91 2 (c' := (2, [some (.ref 0), some (.int p0), some (.int p1), none, none, none, none], [.int 1, .int p0], Wd f fl g gl hh v tx)) rfl ?_
  refine WP.br hP_91 (q := p0 < 1) (t := 21) (f := 5) (L := [some (.ref 0), some (.int p0), some (.int p1), none, none, none, none]) (st := []) (w := Wd f fl g gl hh v tx) rfl (fun c1 => ?_) (fun c1 => ?_)
  · have h2 := h.1 c1
    refine WP.run hP_91 1 (c' := (24, [none, none, none, none, none, none, none], [.long (-1)], Wd f fl g gl hh v tx)) rfl ?_
    exact WP.ret hP_91 (r := some (.long (-1))) (w' := Wd f fl g gl hh v tx) rfl h2
  · have h3 := h.2 c1
    refine WP.run hP_91 2 (c' := (8, [some (.ref 0), some (.int p0), some (.int p1), none, none, none, none], [.int 20, .int p0], Wd f fl g gl hh v tx)) rfl ?_
    refine WP.br hP_91 (q := 20 < p0) (t := 21) (f := 11) (L := [some (.ref 0), some (.int p0), some (.int p1), none, none, none, none]) (st := []) (w := Wd f fl g gl hh v tx) rfl (fun c4 => ?_) (fun c4 => ?_)
    · have h5 := h3.1 c4
      refine WP.run hP_91 1 (c' := (24, [none, none, none, none, none, none, none], [.long (-1)], Wd f fl g gl hh v tx)) rfl ?_
      exact WP.ret hP_91 (r := some (.long (-1))) (w' := Wd f fl g gl hh v tx) rfl h5
    · have h6 := h3.2 c4
      refine WP.run hP_91 1 (c' := (12, [some (.ref 0), some (.int p0), some (.int p1), none, none, none, none], [.int p1], Wd f fl g gl hh v tx)) rfl ?_
      refine WP.br hP_91 (q := p1 < 0) (t := 21) (f := 15) (L := [some (.ref 0), some (.int p0), some (.int p1), none, none, none, none]) (st := []) (w := Wd f fl g gl hh v tx) rfl (fun c7 => ?_) (fun c7 => ?_)
      · have h8 := h6.1 c7
        refine WP.run hP_91 1 (c' := (24, [none, none, none, none, none, none, none], [.long (-1)], Wd f fl g gl hh v tx)) rfl ?_
        exact WP.ret hP_91 (r := some (.long (-1))) (w' := Wd f fl g gl hh v tx) rfl h8
      · have h9 := h6.2 c7
        refine WP.run hP_91 2 (c' := (18, [some (.ref 0), some (.int p0), some (.int p1), none, none, none, none], [.int 99, .int p1], Wd f fl g gl hh v tx)) rfl ?_
        refine WP.br hP_91 (q := p1 ≤ 99) (t := 25) (f := 21) (L := [some (.ref 0), some (.int p0), some (.int p1), none, none, none, none]) (st := []) (w := Wd f fl g gl hh v tx) rfl (fun c10 => ?_) (fun c10 => ?_)
        · have h11 := h9.1 c10
          refine WP.run hP_91 4 (c' := (33, [some (.ref 0), some (.int p0), some (.int p1), none, none, none, none], [.int 1, .ref 8], Wd f fl g gl hh v tx)) rfl ?_
          refine WP.of (fun _ _ => Ex.iald hP_91 rfl (Wa_8 _ _ _ _ _ _ _) (by decide)) ?_
          show WP X _ 91 (34, [some (.ref 0), some (.int p0), some (.int p1), none, none, none, none], [.int ((g 8) 1)], Wd f fl g gl hh v tx) P
          refine WP.run hP_91 4 (c' := (40, [some (.ref 0), some (.int p0), some (.int p1), some (.int ((g 8) 1)), none, none, none], [.long 0, .ref 54], Wd f fl g gl hh v tx)) rfl ?_
          refine WP.call hP_91 hP_257 (as := [.ref 54, .long 0]) (pc' := 43) (L' := [some (.ref 0), some (.int p0), some (.int p1), some (.int ((g 8) 1)), none, none, none]) (st' := []) (w1 := Wd f fl g gl hh v tx) rfl ⟨Nat.le_of_ble_eq_true rfl, Nat.le_of_ble_eq_true rfl⟩ rfl ?_
          exact h11
        · have h12 := h9.2 c10
          refine WP.run hP_91 1 (c' := (24, [none, none, none, none, none, none, none], [.long (-1)], Wd f fl g gl hh v tx)) rfl ?_
          exact WP.ret hP_91 (r := some (.long (-1))) (w' := Wd f fl g gl hh v tx) rfl h12

set_option maxRecDepth 20000 in
theorem b_x_few_43 (X : mm_X) (d : Nat) (f : Nat → Int32) (fl : Nat → Int64) (g : Nat → Nat → Int32) (gl : Nat → Nat → Int64) (hh : Nat → Nat → Option Nat) (v : Nat → Value) (tx : mm_W) (l1 : Int32) (l2 : Int32) (l3 : Int32)  (P : Option Value → mm_W → Prop)
    (h : WP X (d) 91 (55, [some (.ref 0), some (.int l1), some (.int l2), some (.int l3), some (.int 0), none, none], [], Wd f fl g (va_up gl 54 (vp_updL (gl 54) 0 1000000000000)) hh v tx) P) :
    WP X (d) 91 (43, [some (.ref 0), some (.int l1), some (.int l2), some (.int l3), none, none, none], [], Wd f fl g gl hh v tx) P := by
  refine WP.run hP_91 4 (c' := (51, [some (.ref 0), some (.int l1), some (.int l2), some (.int l3), none, none, none], [.long 1000000000000, .int 0, .ref 54], Wd f fl g gl hh v tx)) rfl ?_
  refine WP.of (fun _ _ => Ex.last hP_91 (w2 := Wd f fl g (va_up gl 54 (vp_updL (gl 54) 0 1000000000000)) hh v tx) rfl (Wa_54 _ _ _ _ _ _ _) (by decide) (Ws_54 _ _ _ _ _ _ _ _)) ?_
  refine WP.run hP_91 2 (c' := (55, [some (.ref 0), some (.int l1), some (.int l2), some (.int l3), some (.int 0), none, none], [], Wd f fl g (va_up gl 54 (vp_updL (gl 54) 0 1000000000000)) hh v tx)) rfl ?_
  exact h

set_option maxRecDepth 20000 in
theorem b_x_few_55 (X : mm_X) (d : Nat) (f : Nat → Int32) (fl : Nat → Int64) (g : Nat → Nat → Int32) (gl : Nat → Nat → Int64) (hh : Nat → Nat → Option Nat) (v : Nat → Value) (tx : mm_W) (l1 : Int32) (l2 : Int32) (l3 : Int32) (l4 : Int32)  (P : Option Value → mm_W → Prop)
    (h : ((l2 ≤ l4) → WP X (d) 91 (152, [some (.ref 0), some (.int l1), none, none, some (.long 0), none, some (.int 0)], [], Wd f fl g gl hh v tx) P) ∧
    ((¬ (l2 ≤ l4)) → WP X (d) 91 (66, [some (.ref 0), some (.int l1), some (.int l2), some (.int l3), some (.int l4), some (.int (l1 - (1 : Int32))), none], [], Wd f fl g gl hh v tx) P)) :
    WP X (d) 91 (55, [some (.ref 0), some (.int l1), some (.int l2), some (.int l3), some (.int l4), none, none], [], Wd f fl g gl hh v tx) P := by
  refine WP.run hP_91 2 (c' := (58, [some (.ref 0), some (.int l1), some (.int l2), some (.int l3), some (.int l4), none, none], [.int l2, .int l4], Wd f fl g gl hh v tx)) rfl ?_
  refine WP.br hP_91 (q := l2 ≤ l4) (t := 146) (f := 61) (L := [some (.ref 0), some (.int l1), some (.int l2), some (.int l3), some (.int l4), none, none]) (st := []) (w := Wd f fl g gl hh v tx) rfl (fun c1 => ?_) (fun c1 => ?_)
  · have h2 := h.1 c1
    refine WP.run hP_91 1 (c' := (147, [some (.ref 0), some (.int l1), none, none, none, none, none], [.long 0], Wd f fl g gl hh v tx)) rfl ?_
    refine WP.run hP_91 2 (c' := (150, [some (.ref 0), some (.int l1), none, none, some (.long 0), none, none], [.int 0], Wd f fl g gl hh v tx)) rfl ?_
    refine WP.run hP_91 1 (c' := (152, [some (.ref 0), some (.int l1), none, none, some (.long 0), none, some (.int 0)], [], Wd f fl g gl hh v tx)) rfl ?_
    exact h2
  · have h3 := h.2 c1
    refine WP.run hP_91 4 (c' := (66, [some (.ref 0), some (.int l1), some (.int l2), some (.int l3), some (.int l4), some (.int (l1 - (1 : Int32))), none], [], Wd f fl g gl hh v tx)) rfl ?_
    exact h3

set_option maxRecDepth 20000 in
theorem b_x_few_152 (X : mm_X) (d : Nat) (f : Nat → Int32) (fl : Nat → Int64) (g : Nat → Nat → Int32) (gl : Nat → Nat → Int64) (hh : Nat → Nat → Option Nat) (v : Nat → Value) (tx : mm_W) (l1 : Int32) (l4 : Int64) (l6 : Int32)  (P : Option Value → mm_W → Prop)
    (h : ((l1 ≤ l6) → P (some (.long l4)) (Wd f fl g gl hh v tx)) ∧
    ((¬ (l1 ≤ l6)) → ((¬ (l6 < 0 ∨ 21 ≤ l6.toNatClampNeg)) ∧ WP X (d) 91 (152, [some (.ref 0), some (.int l1), none, none, some (.long (l4 + ((gl 54) l6.toNatClampNeg))), none, some (.int (l6 + (1 : Int32)))], [], Wd f fl g gl hh v tx) P))) :
    WP X (d) 91 (152, [some (.ref 0), some (.int l1), none, none, some (.long l4), none, some (.int l6)], [], Wd f fl g gl hh v tx) P := by
  refine WP.run hP_91 2 (c' := (155, [some (.ref 0), some (.int l1), none, none, some (.long l4), none, some (.int l6)], [.int l1, .int l6], Wd f fl g gl hh v tx)) rfl ?_
  refine WP.br hP_91 (q := l1 ≤ l6) (t := 176) (f := 158) (L := [some (.ref 0), some (.int l1), none, none, some (.long l4), none, some (.int l6)]) (st := []) (w := Wd f fl g gl hh v tx) rfl (fun c1 => ?_) (fun c1 => ?_)
  · have h2 := h.1 c1
    refine WP.run hP_91 1 (c' := (178, [none, none, none, none, some (.long l4), none, none], [.long l4], Wd f fl g gl hh v tx)) rfl ?_
    exact WP.ret hP_91 (r := some (.long l4)) (w' := Wd f fl g gl hh v tx) rfl h2
  · have h3 := h.2 c1
    refine WP.run hP_91 4 (c' := (166, [some (.ref 0), some (.int l1), none, none, some (.long l4), none, some (.int l6)], [.int l6, .ref 54, .long l4], Wd f fl g gl hh v tx)) rfl ?_
    refine WP.of (fun _ _ => Ex.lald hP_91 rfl (Wa_54 _ _ _ _ _ _ _) h3.1) ?_
    have h4 := h3.2
    refine WP.run hP_91 2 (c' := (170, [some (.ref 0), some (.int l1), none, none, some (.long (l4 + ((gl 54) l6.toNatClampNeg))), none, some (.int l6)], [], Wd f fl g gl hh v tx)) rfl ?_
    refine WP.run hP_91 2 (c' := (152, [some (.ref 0), some (.int l1), none, none, some (.long (l4 + ((gl 54) l6.toNatClampNeg))), none, some (.int (l6 + (1 : Int32)))], [], Wd f fl g gl hh v tx)) rfl ?_
    exact h4

set_option maxRecDepth 20000 in
theorem b_x_few_66 (X : mm_X) (d : Nat) (f : Nat → Int32) (fl : Nat → Int64) (g : Nat → Nat → Int32) (gl : Nat → Nat → Int64) (hh : Nat → Nat → Option Nat) (v : Nat → Value) (tx : mm_W) (l1 : Int32) (l2 : Int32) (l3 : Int32) (l4 : Int32) (l5 : Int32)  (P : Option Value → mm_W → Prop)
    (h : ((l5 ≤ 0) → WP X (d) 91 (55, [some (.ref 0), some (.int l1), some (.int l2), some (.int l3), some (.int (l4 + (1 : Int32))), none, none], [], Wd f fl g (va_up gl 54 (vp_updL (gl 54) 0 ((((gl 54) 0) * ((((10 : Int32) - l3) : Int32).toInt64)) / (10 : Int64)))) hh v tx) P) ∧
    ((¬ (l5 ≤ 0)) → ((¬ (l5 < 0 ∨ 21 ≤ l5.toNatClampNeg)) ∧ ((¬ ((l5 - (1 : Int32)) < 0 ∨ 21 ≤ (l5 - (1 : Int32)).toNatClampNeg)) ∧ ((¬ (l5 < 0 ∨ 21 ≤ l5.toNatClampNeg)) ∧ WP X (d) 91 (66, [some (.ref 0), some (.int l1), some (.int l2), some (.int l3), some (.int l4), some (.int (l5 + (-1 : Int32))), none], [], Wd f fl g (va_up gl 54 (vp_updL (gl 54) (l5.toNatClampNeg) (((((gl 54) l5.toNatClampNeg) * ((((10 : Int32) - l3) : Int32).toInt64)) / (10 : Int64)) + ((((gl 54) (l5 - (1 : Int32)).toNatClampNeg) * ((l3 : Int32).toInt64)) / (10 : Int64))))) hh v tx) P))))) :
    WP X (d) 91 (66, [some (.ref 0), some (.int l1), some (.int l2), some (.int l3), some (.int l4), some (.int l5), none], [], Wd f fl g gl hh v tx) P := by
  refine WP.run hP_91 1 (c' := (68, [some (.ref 0), some (.int l1), some (.int l2), some (.int l3), some (.int l4), some (.int l5), none], [.int l5], Wd f fl g gl hh v tx)) rfl ?_
  refine WP.br hP_91 (q := l5 ≤ 0) (t := 118) (f := 71) (L := [some (.ref 0), some (.int l1), some (.int l2), some (.int l3), some (.int l4), some (.int l5), none]) (st := []) (w := Wd f fl g gl hh v tx) rfl (fun c1 => ?_) (fun c1 => ?_)
  · have h2 := h.1 c1
    refine WP.run hP_91 6 (c' := (128, [some (.ref 0), some (.int l1), some (.int l2), some (.int l3), some (.int l4), none, none], [.int 0, .ref 54, .int 0, .ref 54], Wd f fl g gl hh v tx)) rfl ?_
    refine WP.of (fun _ _ => Ex.lald hP_91 rfl (Wa_54 _ _ _ _ _ _ _) (by decide)) ?_
    show WP X _ 91 (129, [some (.ref 0), some (.int l1), some (.int l2), some (.int l3), some (.int l4), none, none], [.long ((gl 54) 0), .int 0, .ref 54], Wd f fl g gl hh v tx) P
    refine WP.run hP_91 7 (c' := (139, [some (.ref 0), some (.int l1), some (.int l2), some (.int l3), some (.int l4), none, none], [.long ((((gl 54) 0) * ((((10 : Int32) - l3) : Int32).toInt64)) / (10 : Int64)), .int 0, .ref 54], Wd f fl g gl hh v tx)) rfl ?_
    refine WP.of (fun _ _ => Ex.last hP_91 (w2 := Wd f fl g (va_up gl 54 (vp_updL (gl 54) 0 ((((gl 54) 0) * ((((10 : Int32) - l3) : Int32).toInt64)) / (10 : Int64)))) hh v tx) rfl (Wa_54 _ _ _ _ _ _ _) (by decide) (Ws_54 _ _ _ _ _ _ _ _)) ?_
    refine WP.run hP_91 2 (c' := (55, [some (.ref 0), some (.int l1), some (.int l2), some (.int l3), some (.int (l4 + (1 : Int32))), none, none], [], Wd f fl g (va_up gl 54 (vp_updL (gl 54) 0 ((((gl 54) 0) * ((((10 : Int32) - l3) : Int32).toInt64)) / (10 : Int64)))) hh v tx)) rfl ?_
    exact h2
  · have h3 := h.2 c1
    refine WP.run hP_91 6 (c' := (83, [some (.ref 0), some (.int l1), some (.int l2), some (.int l3), some (.int l4), some (.int l5), none], [.int l5, .ref 54, .int l5, .ref 54], Wd f fl g gl hh v tx)) rfl ?_
    refine WP.of (fun _ _ => Ex.lald hP_91 rfl (Wa_54 _ _ _ _ _ _ _) h3.1) ?_
    have h4 := h3.2
    refine WP.run hP_91 12 (c' := (102, [some (.ref 0), some (.int l1), some (.int l2), some (.int l3), some (.int l4), some (.int l5), none], [.int (l5 - (1 : Int32)), .ref 54, .long ((((gl 54) l5.toNatClampNeg) * ((((10 : Int32) - l3) : Int32).toInt64)) / (10 : Int64)), .int l5, .ref 54], Wd f fl g gl hh v tx)) rfl ?_
    refine WP.of (fun _ _ => Ex.lald hP_91 rfl (Wa_54 _ _ _ _ _ _ _) h4.1) ?_
    have h5 := h4.2
    refine WP.run hP_91 6 (c' := (111, [some (.ref 0), some (.int l1), some (.int l2), some (.int l3), some (.int l4), some (.int l5), none], [.long (((((gl 54) l5.toNatClampNeg) * ((((10 : Int32) - l3) : Int32).toInt64)) / (10 : Int64)) + ((((gl 54) (l5 - (1 : Int32)).toNatClampNeg) * ((l3 : Int32).toInt64)) / (10 : Int64))), .int l5, .ref 54], Wd f fl g gl hh v tx)) rfl ?_
    refine WP.of (fun _ _ => Ex.last hP_91 (w2 := Wd f fl g (va_up gl 54 (vp_updL (gl 54) (l5.toNatClampNeg) (((((gl 54) l5.toNatClampNeg) * ((((10 : Int32) - l3) : Int32).toInt64)) / (10 : Int64)) + ((((gl 54) (l5 - (1 : Int32)).toNatClampNeg) * ((l3 : Int32).toInt64)) / (10 : Int64))))) hh v tx) rfl (Wa_54 _ _ _ _ _ _ _) h5.1 (Ws_54 _ _ _ _ _ _ _ _)) ?_
    have h6 := h5.2
    refine WP.run hP_91 2 (c' := (66, [some (.ref 0), some (.int l1), some (.int l2), some (.int l3), some (.int l4), some (.int (l5 + (-1 : Int32))), none], [], Wd f fl g (va_up gl 54 (vp_updL (gl 54) (l5.toNatClampNeg) (((((gl 54) l5.toNatClampNeg) * ((((10 : Int32) - l3) : Int32).toInt64)) / (10 : Int64)) + ((((gl 54) (l5 - (1 : Int32)).toNatClampNeg) * ((l3 : Int32).toInt64)) / (10 : Int64))))) hh v tx)) rfl ?_
    exact h6

set_option maxRecDepth 20000 in
theorem b_m_lesser_0 (X : mm_X) (d : Nat) (f : Nat → Int32) (fl : Nat → Int64) (g : Nat → Nat → Int32) (gl : Nat → Nat → Int64) (hh : Nat → Nat → Option Nat) (v : Nat → Value) (tx : mm_W) (p0 : Int32) (p1 : Int32)  (P : Option Value → mm_W → Prop)
    (h : ((p1 ≤ p0) → P (some (.int p1)) (Wd f fl g gl hh v tx)) ∧
    ((¬ (p1 ≤ p0)) → P (some (.int p0)) (Wd f fl g gl hh v tx))) :
    WP X (d) 117 (0, [some (.int p0), some (.int p1)], [], Wd f fl g gl hh v tx) P := by
  refine WP.run hP_117 2 (c' := (2, [some (.int p0), some (.int p1)], [.int p1, .int p0], Wd f fl g gl hh v tx)) rfl ?_
  refine WP.br hP_117 (q := p1 ≤ p0) (t := 9) (f := 5) (L := [some (.int p0), some (.int p1)]) (st := []) (w := Wd f fl g gl hh v tx) rfl (fun c1 => ?_) (fun c1 => ?_)
  · have h2 := h.1 c1
    refine WP.run hP_117 1 (c' := (10, [none, some (.int p1)], [.int p1], Wd f fl g gl hh v tx)) rfl ?_
    exact WP.retI hP_117 rfl rfl h2
  · have h3 := h.2 c1
    refine WP.run hP_117 2 (c' := (10, [some (.int p0), some (.int p1)], [.int p0], Wd f fl g gl hh v tx)) rfl ?_
    exact WP.retI hP_117 rfl rfl h3

set_option maxRecDepth 20000 in
theorem b_m_feed_0 (X : mm_X) (d : Nat) (f : Nat → Int32) (fl : Nat → Int64) (g : Nat → Nat → Int32) (gl : Nat → Nat → Int64) (hh : Nat → Nat → Option Nat) (v : Nat → Value) (tx : mm_W) (p0 : Int32) (p1 : Int32) (p2 : Int32) (p3 : Int32) (p4 : Int32)  (P : Option Value → mm_W → Prop)
    (h : ((((f 4749) + (20 : Int32)) ≤ 400) → WP X (d) 149 (55, [some (.ref 74), none, none, none, none, none, some (.int 0)], [], Wd f fl (va_up (va_up (va_up (va_up (va_up g 82 (upd (g 82) 0 p0)) 82 (upd (upd (g 82) 0 p0) 1 p1)) 82 (upd (upd (upd (g 82) 0 p0) 1 p1) 2 p2)) 82 (upd (upd (upd (upd (g 82) 0 p0) 1 p1) 2 p2) 3 p3)) 82 (upd (upd (upd (upd (upd (g 82) 0 p0) 1 p1) 2 p2) 3 p3) 4 p4)) gl hh v tx) P) ∧
    ((¬ (((f 4749) + (20 : Int32)) ≤ 400)) → P (some (.int (-1))) (Wd f fl g gl hh v tx))) :
    WP X (d) 149 (0, [some (.ref 74), some (.int p0), some (.int p1), some (.int p2), some (.int p3), some (.int p4), none], [], Wd f fl g gl hh v tx) P := by
  refine WP.run hP_149 5 (c' := (10, [some (.ref 74), some (.int p0), some (.int p1), some (.int p2), some (.int p3), some (.int p4), none], [.int 400, .int ((f 4749) + (20 : Int32))], Wd f fl g gl hh v tx)) rfl ?_
  refine WP.br hP_149 (q := ((f 4749) + (20 : Int32)) ≤ 400) (t := 15) (f := 13) (L := [some (.ref 74), some (.int p0), some (.int p1), some (.int p2), some (.int p3), some (.int p4), none]) (st := []) (w := Wd f fl g gl hh v tx) rfl (fun c1 => ?_) (fun c1 => ?_)
  · have h2 := h.1 c1
    refine WP.run hP_149 4 (c' := (21, [some (.ref 74), some (.int p0), some (.int p1), some (.int p2), some (.int p3), some (.int p4), none], [.int p0, .int 0, .ref 82], Wd f fl g gl hh v tx)) rfl ?_
    refine WP.of (fun _ _ => Ex.iast hP_149 (w2 := Wd f fl (va_up g 82 (upd (g 82) 0 p0)) gl hh v tx) rfl (Wa_82 _ _ _ _ _ _ _) (by decide) (Ws_82 _ _ _ _ _ _ _ _)) ?_
    refine WP.run hP_149 4 (c' := (28, [some (.ref 74), some (.int p0), some (.int p1), some (.int p2), some (.int p3), some (.int p4), none], [.int p1, .int 1, .ref 82], Wd f fl (va_up g 82 (upd (g 82) 0 p0)) gl hh v tx)) rfl ?_
    refine WP.of (fun _ _ => Ex.iast hP_149 (w2 := Wd f fl (va_up (va_up g 82 (upd (g 82) 0 p0)) 82 (upd (upd (g 82) 0 p0) 1 p1)) gl hh v tx) rfl (Wa_82 _ _ _ _ _ _ _) (by decide) (Ws_82 _ _ _ _ _ _ _ _)) ?_
    refine WP.run hP_149 4 (c' := (35, [some (.ref 74), some (.int p0), some (.int p1), some (.int p2), some (.int p3), some (.int p4), none], [.int p2, .int 2, .ref 82], Wd f fl (va_up (va_up g 82 (upd (g 82) 0 p0)) 82 (upd (upd (g 82) 0 p0) 1 p1)) gl hh v tx)) rfl ?_
    refine WP.of (fun _ _ => Ex.iast hP_149 (w2 := Wd f fl (va_up (va_up (va_up g 82 (upd (g 82) 0 p0)) 82 (upd (upd (g 82) 0 p0) 1 p1)) 82 (upd (upd (upd (g 82) 0 p0) 1 p1) 2 p2)) gl hh v tx) rfl (Wa_82 _ _ _ _ _ _ _) (by decide) (Ws_82 _ _ _ _ _ _ _ _)) ?_
    refine WP.run hP_149 4 (c' := (43, [some (.ref 74), some (.int p0), some (.int p1), some (.int p2), some (.int p3), some (.int p4), none], [.int p3, .int 3, .ref 82], Wd f fl (va_up (va_up (va_up g 82 (upd (g 82) 0 p0)) 82 (upd (upd (g 82) 0 p0) 1 p1)) 82 (upd (upd (upd (g 82) 0 p0) 1 p1) 2 p2)) gl hh v tx)) rfl ?_
    refine WP.of (fun _ _ => Ex.iast hP_149 (w2 := Wd f fl (va_up (va_up (va_up (va_up g 82 (upd (g 82) 0 p0)) 82 (upd (upd (g 82) 0 p0) 1 p1)) 82 (upd (upd (upd (g 82) 0 p0) 1 p1) 2 p2)) 82 (upd (upd (upd (upd (g 82) 0 p0) 1 p1) 2 p2) 3 p3)) gl hh v tx) rfl (Wa_82 _ _ _ _ _ _ _) (by decide) (Ws_82 _ _ _ _ _ _ _ _)) ?_
    refine WP.run hP_149 4 (c' := (51, [some (.ref 74), some (.int p0), some (.int p1), some (.int p2), some (.int p3), some (.int p4), none], [.int p4, .int 4, .ref 82], Wd f fl (va_up (va_up (va_up (va_up g 82 (upd (g 82) 0 p0)) 82 (upd (upd (g 82) 0 p0) 1 p1)) 82 (upd (upd (upd (g 82) 0 p0) 1 p1) 2 p2)) 82 (upd (upd (upd (upd (g 82) 0 p0) 1 p1) 2 p2) 3 p3)) gl hh v tx)) rfl ?_
    refine WP.of (fun _ _ => Ex.iast hP_149 (w2 := Wd f fl (va_up (va_up (va_up (va_up (va_up g 82 (upd (g 82) 0 p0)) 82 (upd (upd (g 82) 0 p0) 1 p1)) 82 (upd (upd (upd (g 82) 0 p0) 1 p1) 2 p2)) 82 (upd (upd (upd (upd (g 82) 0 p0) 1 p1) 2 p2) 3 p3)) 82 (upd (upd (upd (upd (upd (g 82) 0 p0) 1 p1) 2 p2) 3 p3) 4 p4)) gl hh v tx) rfl (Wa_82 _ _ _ _ _ _ _) (by decide) (Ws_82 _ _ _ _ _ _ _ _)) ?_
    refine WP.run hP_149 2 (c' := (55, [some (.ref 74), some (.int p0), some (.int p1), some (.int p2), some (.int p3), some (.int p4), some (.int 0)], [], Wd f fl (va_up (va_up (va_up (va_up (va_up g 82 (upd (g 82) 0 p0)) 82 (upd (upd (g 82) 0 p0) 1 p1)) 82 (upd (upd (upd (g 82) 0 p0) 1 p1) 2 p2)) 82 (upd (upd (upd (upd (g 82) 0 p0) 1 p1) 2 p2) 3 p3)) 82 (upd (upd (upd (upd (upd (g 82) 0 p0) 1 p1) 2 p2) 3 p3) 4 p4)) gl hh v tx)) rfl ?_
    refine WP.clr hP_149 (pc := 55) rfl ?_
    exact h2
  · have h3 := h.2 c1
    refine WP.run hP_149 1 (c' := (14, [some (.ref 74), some (.int p0), some (.int p1), some (.int p2), some (.int p3), some (.int p4), none], [.int (-1)], Wd f fl g gl hh v tx)) rfl ?_
    exact WP.retI hP_149 rfl rfl h3

set_option maxRecDepth 20000 in
theorem b_m_feed_55 (X : mm_X) (d : Nat) (f : Nat → Int32) (fl : Nat → Int64) (g : Nat → Nat → Int32) (gl : Nat → Nat → Int64) (hh : Nat → Nat → Option Nat) (v : Nat → Value) (tx : mm_W) (l6 : Int32)  (P : Option Value → mm_W → Prop)
    (h : ((20 ≤ l6) → P (some (.int ((f 4749) + (20 : Int32)))) (Wd (va_up f 4749 ((f 4749) + (20 : Int32))) fl g gl hh v tx)) ∧
    ((¬ (20 ≤ l6)) → ((¬ ((l6 / (4 : Int32)) < 0 ∨ 5 ≤ (l6 / (4 : Int32)).toNatClampNeg)) ∧ ((¬ (((f 4749) + l6) < 0 ∨ 400 ≤ ((f 4749) + l6).toNatClampNeg)) ∧ WP X (d) 149 (55, [some (.ref 74), none, none, none, none, none, some (.int (l6 + (1 : Int32)))], [], Wd f fl (va_up g 81 (upd (g 81) (((f 4749) + l6).toNatClampNeg) (vp_nar .byte ((((((g 82) (l6 / (4 : Int32)).toNatClampNeg) >>> (((24 : Int32) - ((8 : Int32) * (l6 - (l6 / (4 : Int32)) * (4 : Int32)))) &&& (31 : Int32))) : Int32) : Int32).toInt8.toInt32)))) gl hh v tx) P)))) :
    WP X (d) 149 (55, [some (.ref 74), none, none, none, none, none, some (.int l6)], [], Wd f fl g gl hh v tx) P := by
  refine WP.run hP_149 2 (c' := (59, [some (.ref 74), none, none, none, none, none, some (.int l6)], [.int 20, .int l6], Wd f fl g gl hh v tx)) rfl ?_
  refine WP.br hP_149 (q := 20 ≤ l6) (t := 101) (f := 62) (L := [some (.ref 74), none, none, none, none, none, some (.int l6)]) (st := []) (w := Wd f fl g gl hh v tx) rfl (fun c1 => ?_) (fun c1 => ?_)
  · have h2 := h.1 c1
    refine WP.run hP_149 8 (c' := (116, [some (.ref 74), none, none, none, none, none, none], [.int ((f 4749) + (20 : Int32))], Wd (va_up f 4749 ((f 4749) + (20 : Int32))) fl g gl hh v tx)) rfl ?_
    exact WP.retI hP_149 rfl rfl h2
  · have h3 := h.2 c1
    refine WP.run hP_149 11 (c' := (81, [some (.ref 74), none, none, none, none, none, some (.int l6)], [.int (l6 / (4 : Int32)), .ref 82, .int ((f 4749) + l6), .ref 81], Wd f fl g gl hh v tx)) rfl ?_
    refine WP.of (fun _ _ => Ex.iald hP_149 rfl (Wa_82 _ _ _ _ _ _ _) h3.1) ?_
    have h4 := h3.2
    refine WP.run hP_149 9 (c' := (94, [some (.ref 74), none, none, none, none, none, some (.int l6)], [.int ((((((g 82) (l6 / (4 : Int32)).toNatClampNeg) >>> (((24 : Int32) - ((8 : Int32) * (l6 - (l6 / (4 : Int32)) * (4 : Int32)))) &&& (31 : Int32))) : Int32) : Int32).toInt8.toInt32), .int ((f 4749) + l6), .ref 81], Wd f fl g gl hh v tx)) rfl ?_
    refine WP.of (fun _ _ => Ex.bast hP_149 (w2 := Wd f fl (va_up g 81 (upd (g 81) (((f 4749) + l6).toNatClampNeg) (vp_nar .byte ((((((g 82) (l6 / (4 : Int32)).toNatClampNeg) >>> (((24 : Int32) - ((8 : Int32) * (l6 - (l6 / (4 : Int32)) * (4 : Int32)))) &&& (31 : Int32))) : Int32) : Int32).toInt8.toInt32)))) gl hh v tx) rfl (Wa_81 _ _ _ _ _ _ _) h4.1 (Ws_81 _ _ _ _ _ _ _ _)) ?_
    have h5 := h4.2
    refine WP.run hP_149 2 (c' := (55, [some (.ref 74), none, none, none, none, none, some (.int (l6 + (1 : Int32)))], [], Wd f fl (va_up g 81 (upd (g 81) (((f 4749) + l6).toNatClampNeg) (vp_nar .byte ((((((g 82) (l6 / (4 : Int32)).toNatClampNeg) >>> (((24 : Int32) - ((8 : Int32) * (l6 - (l6 / (4 : Int32)) * (4 : Int32)))) &&& (31 : Int32))) : Int32) : Int32).toInt8.toInt32)))) gl hh v tx)) rfl ?_
    exact h5

set_option maxRecDepth 20000 in
theorem b_m_leastWith_0 (X : mm_X) (d : Nat) (f : Nat → Int32) (fl : Nat → Int64) (g : Nat → Nat → Int32) (gl : Nat → Nat → Int64) (hh : Nat → Nat → Option Nat) (v : Nat → Value) (tx : mm_W) (p0 : Int32) (p1 : Int32) (p2 : Int32)  (P : Option Value → mm_W → Prop)
    (h : WP X (d) 194 (0, [some (.ref 74), some (.int p0), some (.int p1), none, none], [], Wd f fl g gl hh v tx) (fun rv w2 => WP X (d + 1) 197 (6, [some (.ref 74), some (.int p0), some (.int p1), some (.int p2), none], rv.toList ++ [], w2) P)) :
    WP X (d + 1) 197 (0, [some (.ref 74), some (.int p0), some (.int p1), some (.int p2), none], [], Wd f fl g gl hh v tx) P := by
  refine WP.run hP_197 3 (c' := (3, [some (.ref 74), some (.int p0), some (.int p1), some (.int p2), none], [.int p1, .int p0, .ref 74], Wd f fl g gl hh v tx)) rfl ?_
  refine WP.call hP_197 hP_194 (as := [.ref 74, .int p0, .int p1]) (pc' := 6) (L' := [some (.ref 74), some (.int p0), some (.int p1), some (.int p2), none]) (st' := []) (w1 := Wd f fl g gl hh v tx) rfl ⟨Nat.le_of_ble_eq_true rfl, Nat.le_of_ble_eq_true rfl⟩ rfl ?_
  exact h

set_option maxRecDepth 20000 in
theorem b_m_leastWith_6 (X : mm_X) (d : Nat) (f : Nat → Int32) (fl : Nat → Int64) (g : Nat → Nat → Int32) (gl : Nat → Nat → Int64) (hh : Nat → Nat → Option Nat) (v : Nat → Value) (tx : mm_W) (l1 : Int32) (l2 : Int32) (l3 : Int32) (s0 : Int32)  (P : Option Value → mm_W → Prop)
    (h : ((s0 = 1000000) → P (some (.int 1000000)) (Wd f fl g gl hh v tx)) ∧
    ((¬ s0 = 1000000) → (((¬ l3 = 0) → WP X (d) 197 (27, [some (.ref 74), some (.int l1), some (.int l2), some (.int l3), some (.int s0)], [], Wd f fl g gl hh v tx) P) ∧
      ((l3 = 0) → (((s0 ≤ 0) → WP X (d) 197 (27, [some (.ref 74), some (.int l1), some (.int l2), some (.int l3), some (.int s0)], [], Wd f fl g gl hh v tx) P) ∧
        ((¬ (s0 ≤ 0)) → P (some (.int 1000000)) (Wd f fl g gl hh v tx))))))) :
    WP X (d) 197 (6, [some (.ref 74), some (.int l1), some (.int l2), some (.int l3), none], [.int s0], Wd f fl g gl hh v tx) P := by
  refine WP.run hP_197 3 (c' := (12, [some (.ref 74), some (.int l1), some (.int l2), some (.int l3), some (.int s0)], [.int 1000000, .int s0], Wd f fl g gl hh v tx)) rfl ?_
  refine WP.br hP_197 (q := s0 = 1000000) (t := 24) (f := 15) (L := [some (.ref 74), some (.int l1), some (.int l2), some (.int l3), some (.int s0)]) (st := []) (w := Wd f fl g gl hh v tx) rfl (fun c1 => ?_) (fun c1 => ?_)
  · have h2 := h.1 c1
    refine WP.run hP_197 1 (c' := (26, [none, none, none, none, none], [.int 1000000], Wd f fl g gl hh v tx)) rfl ?_
    exact WP.retI hP_197 rfl rfl h2
  · have h3 := h.2 c1
    refine WP.run hP_197 1 (c' := (16, [some (.ref 74), some (.int l1), some (.int l2), some (.int l3), some (.int s0)], [.int l3], Wd f fl g gl hh v tx)) rfl ?_
    refine WP.br hP_197 (q := ¬ l3 = 0) (t := 27) (f := 19) (L := [some (.ref 74), some (.int l1), some (.int l2), some (.int l3), some (.int s0)]) (st := []) (w := Wd f fl g gl hh v tx) rfl (fun c4 => ?_) (fun c4 => ?_)
    · have h5 := h3.1 c4
      exact h5
    · have h6 := h3.2 (Classical.not_not.mp c4)
      refine WP.run hP_197 1 (c' := (21, [some (.ref 74), some (.int l1), some (.int l2), some (.int l3), some (.int s0)], [.int s0], Wd f fl g gl hh v tx)) rfl ?_
      refine WP.br hP_197 (q := s0 ≤ 0) (t := 27) (f := 24) (L := [some (.ref 74), some (.int l1), some (.int l2), some (.int l3), some (.int s0)]) (st := []) (w := Wd f fl g gl hh v tx) rfl (fun c7 => ?_) (fun c7 => ?_)
      · have h8 := h6.1 c7
        exact h8
      · have h9 := h6.2 c7
        refine WP.run hP_197 1 (c' := (26, [none, none, none, none, none], [.int 1000000], Wd f fl g gl hh v tx)) rfl ?_
        exact WP.retI hP_197 rfl rfl h9

set_option maxRecDepth 20000 in
theorem b_m_leastWith_27 (X : mm_X) (d : Nat) (f : Nat → Int32) (fl : Nat → Int64) (g : Nat → Nat → Int32) (gl : Nat → Nat → Int64) (hh : Nat → Nat → Option Nat) (v : Nat → Value) (tx : mm_W) (l1 : Int32) (l2 : Int32) (l3 : Int32) (l4 : Int32)  (P : Option Value → mm_W → Prop)
    (h : (¬ (((31 : Int32) + l1) < 0 ∨ 5667 ≤ ((31 : Int32) + l1).toNatClampNeg)) ∧ ((¬ ((l2 + ((g 76) ((31 : Int32) + l1).toNatClampNeg)) < 0 ∨ 13 ≤ (l2 + ((g 76) ((31 : Int32) + l1).toNatClampNeg)).toNatClampNeg)) ∧ (((l3 = 0) → ((¬ (l1 < 0 ∨ 8 ≤ l1.toNatClampNeg)) ∧ ((((((g 88) (l2 + ((g 76) ((31 : Int32) + l1).toNatClampNeg)).toNatClampNeg) + ((g 89) l1.toNatClampNeg)) ≤ (1000000 : Int32)) → P (some (.int (((g 88) (l2 + ((g 76) ((31 : Int32) + l1).toNatClampNeg)).toNatClampNeg) + ((g 89) l1.toNatClampNeg)))) (Wd f fl g gl hh v tx)) ∧
      ((¬ ((((g 88) (l2 + ((g 76) ((31 : Int32) + l1).toNatClampNeg)).toNatClampNeg) + ((g 89) l1.toNatClampNeg)) ≤ (1000000 : Int32))) → P (some (.int 1000000)) (Wd f fl g gl hh v tx))))) ∧
    ((¬ l3 = 0) → ((((((g 88) (l2 + ((g 76) ((31 : Int32) + l1).toNatClampNeg)).toNatClampNeg) + l4) ≤ (1000000 : Int32)) → P (some (.int (((g 88) (l2 + ((g 76) ((31 : Int32) + l1).toNatClampNeg)).toNatClampNeg) + l4))) (Wd f fl g gl hh v tx)) ∧
      ((¬ ((((g 88) (l2 + ((g 76) ((31 : Int32) + l1).toNatClampNeg)).toNatClampNeg) + l4) ≤ (1000000 : Int32))) → P (some (.int 1000000)) (Wd f fl g gl hh v tx))))))) :
    WP X (d + 1) 197 (27, [some (.ref 74), some (.int l1), some (.int l2), some (.int l3), some (.int l4)], [], Wd f fl g gl hh v tx) P := by
  refine WP.run hP_197 9 (c' := (42, [some (.ref 74), some (.int l1), some (.int l2), some (.int l3), some (.int l4)], [.int ((31 : Int32) + l1), .ref 76, .int l2, .ref 88, .int 1000000], Wd f fl g gl hh v tx)) rfl ?_
  refine WP.of (fun _ _ => Ex.iald hP_197 rfl (Wa_76 _ _ _ _ _ _ _) h.1) ?_
  have h1 := h.2
  refine WP.run hP_197 1 (c' := (44, [some (.ref 74), some (.int l1), some (.int l2), some (.int l3), some (.int l4)], [.int (l2 + ((g 76) ((31 : Int32) + l1).toNatClampNeg)), .ref 88, .int 1000000], Wd f fl g gl hh v tx)) rfl ?_
  refine WP.of (fun _ _ => Ex.iald hP_197 rfl (Wa_88 _ _ _ _ _ _ _) h1.1) ?_
  have h2 := h1.2
  refine WP.run hP_197 1 (c' := (46, [some (.ref 74), some (.int l1), some (.int l2), some (.int l3), some (.int l4)], [.int l3, .int ((g 88) (l2 + ((g 76) ((31 : Int32) + l1).toNatClampNeg)).toNatClampNeg), .int 1000000], Wd f fl g gl hh v tx)) rfl ?_
  refine WP.br hP_197 (q := l3 = 0) (t := 54) (f := 49) (L := [some (.ref 74), some (.int l1), some (.int l2), some (.int l3), some (.int l4)]) (st := [.int ((g 88) (l2 + ((g 76) ((31 : Int32) + l1).toNatClampNeg)).toNatClampNeg), .int 1000000]) (w := Wd f fl g gl hh v tx) rfl (fun c3 => ?_) (fun c3 => ?_)
  · have h4 := h2.1 c3
    refine WP.run hP_197 3 (c' := (59, [some (.ref 74), some (.int l1), none, none, none], [.int l1, .ref 89, .int ((g 88) (l2 + ((g 76) ((31 : Int32) + l1).toNatClampNeg)).toNatClampNeg), .int 1000000], Wd f fl g gl hh v tx)) rfl ?_
    refine WP.of (fun _ _ => Ex.iald hP_197 rfl (Wa_89 _ _ _ _ _ _ _) h4.1) ?_
    have h5 := h4.2
    refine WP.run hP_197 1 (c' := (61, [none, none, none, none, none], [.int (((g 88) (l2 + ((g 76) ((31 : Int32) + l1).toNatClampNeg)).toNatClampNeg) + ((g 89) l1.toNatClampNeg)), .int 1000000], Wd f fl g gl hh v tx)) rfl ?_
    refine WP.call hP_197 hP_117 (as := [.int 1000000, .int (((g 88) (l2 + ((g 76) ((31 : Int32) + l1).toNatClampNeg)).toNatClampNeg) + ((g 89) l1.toNatClampNeg))]) (pc' := 64) (L' := [none, none, none, none, none]) (st' := []) (w1 := Wd f fl g gl hh v tx) rfl ⟨Nat.le_of_ble_eq_true rfl, Nat.le_of_ble_eq_true rfl⟩ rfl (b_m_lesser_0 X (d) f fl g gl hh v tx 1000000 (((g 88) (l2 + ((g 76) ((31 : Int32) + l1).toNatClampNeg)).toNatClampNeg) + ((g 89) l1.toNatClampNeg)) _ ?_)
    refine ⟨fun c6 => ?_, fun c6 => ?_⟩
    · have h7 := h5.1 c6
      exact WP.retI hP_197 rfl rfl h7
    · have h8 := h5.2 c6
      exact WP.retI hP_197 rfl rfl h8
  · have h9 := h2.2 c3
    refine WP.run hP_197 3 (c' := (61, [none, none, none, none, none], [.int (((g 88) (l2 + ((g 76) ((31 : Int32) + l1).toNatClampNeg)).toNatClampNeg) + l4), .int 1000000], Wd f fl g gl hh v tx)) rfl ?_
    refine WP.call hP_197 hP_117 (as := [.int 1000000, .int (((g 88) (l2 + ((g 76) ((31 : Int32) + l1).toNatClampNeg)).toNatClampNeg) + l4)]) (pc' := 64) (L' := [none, none, none, none, none]) (st' := []) (w1 := Wd f fl g gl hh v tx) rfl ⟨Nat.le_of_ble_eq_true rfl, Nat.le_of_ble_eq_true rfl⟩ rfl (b_m_lesser_0 X (d) f fl g gl hh v tx 1000000 (((g 88) (l2 + ((g 76) ((31 : Int32) + l1).toNatClampNeg)).toNatClampNeg) + l4) _ ?_)
    refine ⟨fun c10 => ?_, fun c10 => ?_⟩
    · have h11 := h9.1 c10
      exact WP.retI hP_197 rfl rfl h11
    · have h12 := h9.2 c10
      exact WP.retI hP_197 rfl rfl h12

set_option maxRecDepth 20000 in
theorem b_m_laysLeast_0 (X : mm_X) (d : Nat) (f : Nat → Int32) (fl : Nat → Int64) (g : Nat → Nat → Int32) (gl : Nat → Nat → Int64) (hh : Nat → Nat → Option Nat) (v : Nat → Value) (tx : mm_W) (p0 : Int32)  (P : Option Value → mm_W → Prop)
    (h : (¬ (((g 76) 12) < 0 ∨ 13 ≤ ((g 76) 12).toNatClampNeg)) ∧ WP X (d + 1) 196 (17, [some (.ref 74), some (.int p0), some (.int (((g 76) 12) - (1 : Int32))), none], [], Wd f fl (va_up g 88 (upd (g 88) (((g 76) 12).toNatClampNeg) 0)) gl hh v tx) P) :
    WP X (d + 1) 196 (0, [some (.ref 74), some (.int p0), none, none], [], Wd f fl g gl hh v tx) P := by
  refine WP.run hP_196 3 (c' := (5, [some (.ref 74), some (.int p0), none, none], [.ref 74, .ref 88], Wd f fl g gl hh v tx)) rfl ?_
  refine WP.call hP_196 hP_130 (as := [.ref 74]) (pc' := 8) (L' := [some (.ref 74), some (.int p0), none, none]) (st' := [.ref 88]) (w1 := Wd f fl g gl hh v tx) rfl ⟨Nat.le_of_ble_eq_true rfl, Nat.le_of_ble_eq_true rfl⟩ rfl (b_m_size_0 X (d) f fl g gl hh v tx  _ ?_)
  refine WP.run hP_196 1 (c' := (9, [some (.ref 74), some (.int p0), none, none], [.int 0, .int ((g 76) 12), .ref 88], Wd f fl g gl hh v tx)) rfl ?_
  refine WP.of (fun _ _ => Ex.iast hP_196 (w2 := Wd f fl (va_up g 88 (upd (g 88) (((g 76) 12).toNatClampNeg) 0)) gl hh v tx) rfl (Wa_88 _ _ _ _ _ _ _) h.1 (Ws_88 _ _ _ _ _ _ _ _)) ?_
  have h1 := h.2
  refine WP.run hP_196 1 (c' := (11, [some (.ref 74), some (.int p0), none, none], [.ref 74], Wd f fl (va_up g 88 (upd (g 88) (((g 76) 12).toNatClampNeg) 0)) gl hh v tx)) rfl ?_
  refine WP.call hP_196 hP_130 (as := [.ref 74]) (pc' := 14) (L' := [some (.ref 74), some (.int p0), none, none]) (st' := []) (w1 := Wd f fl (va_up g 88 (upd (g 88) (((g 76) 12).toNatClampNeg) 0)) gl hh v tx) rfl ⟨Nat.le_of_ble_eq_true rfl, Nat.le_of_ble_eq_true rfl⟩ rfl (b_m_size_0 X (d) f fl (va_up g 88 (upd (g 88) (((g 76) 12).toNatClampNeg) 0)) gl hh v tx  _ ?_)
  refine WP.run hP_196 3 (c' := (17, [some (.ref 74), some (.int p0), some (.int (((g 76) 12) - (1 : Int32))), none], [], Wd f fl (va_up g 88 (upd (g 88) (((g 76) 12).toNatClampNeg) 0)) gl hh v tx)) rfl ?_
  exact h1

set_option maxRecDepth 20000 in
theorem b_m_laysLeast_17 (X : mm_X) (d : Nat) (f : Nat → Int32) (fl : Nat → Int64) (g : Nat → Nat → Int32) (gl : Nat → Nat → Int64) (hh : Nat → Nat → Option Nat) (v : Nat → Value) (tx : mm_W) (l1 : Int32) (l2 : Int32)  (P : Option Value → mm_W → Prop)
    (h : ((l2 < 0) → P none (Wd f fl g gl hh v tx)) ∧
    ((¬ (l2 < 0)) → ((¬ (l2 < 0 ∨ 13 ≤ l2.toNatClampNeg)) ∧ WP X (d) 196 (31, [some (.ref 74), some (.int l1), some (.int l2), some (.int 0)], [], Wd f fl (va_up g 88 (upd (g 88) (l2.toNatClampNeg) 1000000)) gl hh v tx) P))) :
    WP X (d) 196 (17, [some (.ref 74), some (.int l1), some (.int l2), none], [], Wd f fl g gl hh v tx) P := by
  refine WP.run hP_196 1 (c' := (18, [some (.ref 74), some (.int l1), some (.int l2), none], [.int l2], Wd f fl g gl hh v tx)) rfl ?_
  refine WP.br hP_196 (q := l2 < 0) (t := 73) (f := 21) (L := [some (.ref 74), some (.int l1), some (.int l2), none]) (st := []) (w := Wd f fl g gl hh v tx) rfl (fun c1 => ?_) (fun c1 => ?_)
  · have h2 := h.1 c1
    exact WP.ret hP_196 (r := none) (w' := Wd f fl g gl hh v tx) rfl h2
  · have h3 := h.2 c1
    refine WP.run hP_196 4 (c' := (28, [some (.ref 74), some (.int l1), some (.int l2), none], [.int 1000000, .int l2, .ref 88], Wd f fl g gl hh v tx)) rfl ?_
    refine WP.of (fun _ _ => Ex.iast hP_196 (w2 := Wd f fl (va_up g 88 (upd (g 88) (l2.toNatClampNeg) 1000000)) gl hh v tx) rfl (Wa_88 _ _ _ _ _ _ _) h3.1 (Ws_88 _ _ _ _ _ _ _ _)) ?_
    have h4 := h3.2
    refine WP.run hP_196 2 (c' := (31, [some (.ref 74), some (.int l1), some (.int l2), some (.int 0)], [], Wd f fl (va_up g 88 (upd (g 88) (l2.toNatClampNeg) 1000000)) gl hh v tx)) rfl ?_
    exact h4

set_option maxRecDepth 20000 in
theorem b_m_laysLeast_31 (X : mm_X) (d : Nat) (f : Nat → Int32) (fl : Nat → Int64) (g : Nat → Nat → Int32) (gl : Nat → Nat → Int64) (hh : Nat → Nat → Option Nat) (v : Nat → Value) (tx : mm_W) (l1 : Int32) (l2 : Int32) (l3 : Int32)  (P : Option Value → mm_W → Prop)
    (h : ((((g 76) 55) ≤ l3) → WP X (d + 1) 196 (17, [some (.ref 74), some (.int l1), some (.int (l2 + (-1 : Int32))), none], [], Wd f fl g gl hh v tx) P) ∧
    ((¬ (((g 76) 55) ≤ l3)) → ((¬ (l2 < 0 ∨ 13 ≤ l2.toNatClampNeg)) ∧ WP X (d) 197 (0, [some (.ref 74), some (.int l3), some (.int l2), some (.int l1), none], [], Wd f fl g gl hh v tx) (fun rv w2 => WP X (d + 1) 196 (57, [some (.ref 74), some (.int l1), some (.int l2), some (.int l3)], rv.toList ++ [.int ((g 88) l2.toNatClampNeg), .int l2, .ref 88], w2) P)))) :
    WP X (d + 1) 196 (31, [some (.ref 74), some (.int l1), some (.int l2), some (.int l3)], [], Wd f fl g gl hh v tx) P := by
  refine WP.run hP_196 2 (c' := (33, [some (.ref 74), some (.int l1), some (.int l2), some (.int l3)], [.ref 74, .int l3], Wd f fl g gl hh v tx)) rfl ?_
  refine WP.call hP_196 hP_129 (as := [.ref 74]) (pc' := 36) (L' := [some (.ref 74), some (.int l1), some (.int l2), some (.int l3)]) (st' := [.int l3]) (w1 := Wd f fl g gl hh v tx) rfl ⟨Nat.le_of_ble_eq_true rfl, Nat.le_of_ble_eq_true rfl⟩ rfl (b_m_signMany_0 X (d) f fl g gl hh v tx  _ ?_)
  refine WP.br hP_196 (q := ((g 76) 55) ≤ l3) (t := 67) (f := 39) (L := [some (.ref 74), some (.int l1), some (.int l2), some (.int l3)]) (st := []) (w := Wd f fl g gl hh v tx) rfl (fun c1 => ?_) (fun c1 => ?_)
  · have h2 := h.1 c1
    refine WP.run hP_196 2 (c' := (17, [some (.ref 74), some (.int l1), some (.int (l2 + (-1 : Int32))), none], [], Wd f fl g gl hh v tx)) rfl ?_
    exact h2
  · have h3 := h.2 c1
    refine WP.run hP_196 6 (c' := (49, [some (.ref 74), some (.int l1), some (.int l2), some (.int l3)], [.int l2, .ref 88, .int l2, .ref 88], Wd f fl g gl hh v tx)) rfl ?_
    refine WP.of (fun _ _ => Ex.iald hP_196 rfl (Wa_88 _ _ _ _ _ _ _) h3.1) ?_
    have h4 := h3.2
    refine WP.run hP_196 4 (c' := (54, [some (.ref 74), some (.int l1), some (.int l2), some (.int l3)], [.int l1, .int l2, .int l3, .ref 74, .int ((g 88) l2.toNatClampNeg), .int l2, .ref 88], Wd f fl g gl hh v tx)) rfl ?_
    refine WP.call hP_196 hP_197 (as := [.ref 74, .int l3, .int l2, .int l1]) (pc' := 57) (L' := [some (.ref 74), some (.int l1), some (.int l2), some (.int l3)]) (st' := [.int ((g 88) l2.toNatClampNeg), .int l2, .ref 88]) (w1 := Wd f fl g gl hh v tx) rfl ⟨Nat.le_of_ble_eq_true rfl, Nat.le_of_ble_eq_true rfl⟩ rfl ?_
    exact h4

set_option maxRecDepth 20000 in
theorem b_m_laysLeast_57 (X : mm_X) (d : Nat) (f : Nat → Int32) (fl : Nat → Int64) (g : Nat → Nat → Int32) (gl : Nat → Nat → Int64) (hh : Nat → Nat → Option Nat) (v : Nat → Value) (tx : mm_W) (l1 : Int32) (l2 : Int32) (l3 : Int32) (s0 : Int32) (s1 : Int32) (s2 : Int32)  (P : Option Value → mm_W → Prop)
    (h : ((s0 ≤ s1) → ((¬ (s2 < 0 ∨ 13 ≤ s2.toNatClampNeg)) ∧ WP X (d + 1) 196 (31, [some (.ref 74), some (.int l1), some (.int l2), some (.int (l3 + (1 : Int32)))], [], Wd f fl (va_up g 88 (upd (g 88) (s2.toNatClampNeg) s0)) gl hh v tx) P)) ∧
    ((¬ (s0 ≤ s1)) → ((¬ (s2 < 0 ∨ 13 ≤ s2.toNatClampNeg)) ∧ WP X (d + 1) 196 (31, [some (.ref 74), some (.int l1), some (.int l2), some (.int (l3 + (1 : Int32)))], [], Wd f fl (va_up g 88 (upd (g 88) (s2.toNatClampNeg) s1)) gl hh v tx) P))) :
    WP X (d + 1) 196 (57, [some (.ref 74), some (.int l1), some (.int l2), some (.int l3)], [.int s0, .int s1, .int s2, .ref 88], Wd f fl g gl hh v tx) P := by
  refine WP.call hP_196 hP_117 (as := [.int s1, .int s0]) (pc' := 60) (L' := [some (.ref 74), some (.int l1), some (.int l2), some (.int l3)]) (st' := [.int s2, .ref 88]) (w1 := Wd f fl g gl hh v tx) rfl ⟨Nat.le_of_ble_eq_true rfl, Nat.le_of_ble_eq_true rfl⟩ rfl (b_m_lesser_0 X (d) f fl g gl hh v tx s1 s0 _ ?_)
  refine ⟨fun c1 => ?_, fun c1 => ?_⟩
  · have h2 := h.1 c1
    refine WP.of (fun _ _ => Ex.iast hP_196 (w2 := Wd f fl (va_up g 88 (upd (g 88) (s2.toNatClampNeg) s0)) gl hh v tx) rfl (Wa_88 _ _ _ _ _ _ _) h2.1 (Ws_88 _ _ _ _ _ _ _ _)) ?_
    have h3 := h2.2
    refine WP.run hP_196 2 (c' := (31, [some (.ref 74), some (.int l1), some (.int l2), some (.int (l3 + (1 : Int32)))], [], Wd f fl (va_up g 88 (upd (g 88) (s2.toNatClampNeg) s0)) gl hh v tx)) rfl ?_
    exact h3
  · have h4 := h.2 c1
    refine WP.of (fun _ _ => Ex.iast hP_196 (w2 := Wd f fl (va_up g 88 (upd (g 88) (s2.toNatClampNeg) s1)) gl hh v tx) rfl (Wa_88 _ _ _ _ _ _ _) h4.1 (Ws_88 _ _ _ _ _ _ _ _)) ?_
    have h5 := h4.2
    refine WP.run hP_196 2 (c' := (31, [some (.ref 74), some (.int l1), some (.int l2), some (.int (l3 + (1 : Int32)))], [], Wd f fl (va_up g 88 (upd (g 88) (s2.toNatClampNeg) s1)) gl hh v tx)) rfl ?_
    exact h5

set_option maxRecDepth 20000 in
theorem b_m_signFrom_0 (X : mm_X) (d : Nat) (f : Nat → Int32) (fl : Nat → Int64) (g : Nat → Nat → Int32) (gl : Nat → Nat → Int64) (hh : Nat → Nat → Option Nat) (v : Nat → Value) (tx : mm_W) (p0 : Int32) (p1 : Int32)  (P : Option Value → mm_W → Prop)
    (h : WP X (d) 198 (2, [some (.ref 74), some (.int p0), some (.int p1), some (.int 0)], [], Wd f fl g gl hh v tx) P) :
    WP X (d) 198 (0, [some (.ref 74), some (.int p0), some (.int p1), none], [], Wd f fl g gl hh v tx) P := by
  refine WP.run hP_198 2 (c' := (2, [some (.ref 74), some (.int p0), some (.int p1), some (.int 0)], [], Wd f fl g gl hh v tx)) rfl ?_
  exact h

set_option maxRecDepth 20000 in
theorem b_m_signFrom_2 (X : mm_X) (d : Nat) (f : Nat → Int32) (fl : Nat → Int64) (g : Nat → Nat → Int32) (gl : Nat → Nat → Int64) (hh : Nat → Nat → Option Nat) (v : Nat → Value) (tx : mm_W) (l1 : Int32) (l2 : Int32) (l3 : Int32)  (P : Option Value → mm_W → Prop)
    (h : WP X (d) 197 (0, [some (.ref 74), some (.int l3), some (.int l1), some (.int l2), none], [], Wd f fl g gl hh v tx) (fun rv w2 => WP X (d + 1) 198 (9, [some (.ref 74), some (.int l1), some (.int l2), some (.int l3)], rv.toList ++ [], w2) P)) :
    WP X (d + 1) 198 (2, [some (.ref 74), some (.int l1), some (.int l2), some (.int l3)], [], Wd f fl g gl hh v tx) P := by
  refine WP.run hP_198 4 (c' := (6, [some (.ref 74), some (.int l1), some (.int l2), some (.int l3)], [.int l2, .int l1, .int l3, .ref 74], Wd f fl g gl hh v tx)) rfl ?_
  refine WP.call hP_198 hP_197 (as := [.ref 74, .int l3, .int l1, .int l2]) (pc' := 9) (L' := [some (.ref 74), some (.int l1), some (.int l2), some (.int l3)]) (st' := []) (w1 := Wd f fl g gl hh v tx) rfl ⟨Nat.le_of_ble_eq_true rfl, Nat.le_of_ble_eq_true rfl⟩ rfl ?_
  exact h

set_option maxRecDepth 20000 in
theorem b_m_signFrom_9 (X : mm_X) (d : Nat) (f : Nat → Int32) (fl : Nat → Int64) (g : Nat → Nat → Int32) (gl : Nat → Nat → Int64) (hh : Nat → Nat → Option Nat) (v : Nat → Value) (tx : mm_W) (l1 : Int32) (l2 : Int32) (l3 : Int32) (s0 : Int32)  (P : Option Value → mm_W → Prop)
    (h : (¬ (l1 < 0 ∨ 13 ≤ l1.toNatClampNeg)) ∧ (((s0 = ((g 88) l1.toNatClampNeg)) → P (some (.int l3)) (Wd f fl g gl hh v tx)) ∧
    ((¬ s0 = ((g 88) l1.toNatClampNeg)) → WP X (d) 198 (2, [some (.ref 74), some (.int l1), some (.int l2), some (.int (l3 + (1 : Int32)))], [], Wd f fl g gl hh v tx) P))) :
    WP X (d) 198 (9, [some (.ref 74), some (.int l1), some (.int l2), some (.int l3)], [.int s0], Wd f fl g gl hh v tx) P := by
  refine WP.run hP_198 3 (c' := (14, [some (.ref 74), some (.int l1), some (.int l2), some (.int l3)], [.int l1, .ref 88, .int s0], Wd f fl g gl hh v tx)) rfl ?_
  refine WP.of (fun _ _ => Ex.iald hP_198 rfl (Wa_88 _ _ _ _ _ _ _) h.1) ?_
  have h1 := h.2
  refine WP.br hP_198 (q := s0 = ((g 88) l1.toNatClampNeg)) (t := 24) (f := 18) (L := [some (.ref 74), some (.int l1), some (.int l2), some (.int l3)]) (st := []) (w := Wd f fl g gl hh v tx) rfl (fun c2 => ?_) (fun c2 => ?_)
  · have h3 := h1.1 c2
    refine WP.run hP_198 1 (c' := (25, [none, none, none, some (.int l3)], [.int l3], Wd f fl g gl hh v tx)) rfl ?_
    exact WP.retI hP_198 rfl rfl h3
  · have h4 := h1.2 c2
    refine WP.run hP_198 2 (c' := (2, [some (.ref 74), some (.int l1), some (.int l2), some (.int (l3 + (1 : Int32)))], [], Wd f fl g gl hh v tx)) rfl ?_
    exact h4

set_option maxRecDepth 20000 in
theorem b_m_signAt_0 (X : mm_X) (d : Nat) (f : Nat → Int32) (fl : Nat → Int64) (g : Nat → Nat → Int32) (gl : Nat → Nat → Int64) (hh : Nat → Nat → Option Nat) (v : Nat → Value) (tx : mm_W) (p0 : Int32) (p1 : Int32)  (P : Option Value → mm_W → Prop)
    (h : WP X (d) 199 (5, [some (.ref 74), some (.int p0), some (.int p1), some (.int 0), some (.int 0)], [], Wd f fl g gl hh v tx) P) :
    WP X (d) 199 (0, [some (.ref 74), some (.int p0), some (.int p1), none, none], [], Wd f fl g gl hh v tx) P := by
  refine WP.run hP_199 3 (c' := (3, [some (.ref 74), some (.int p0), some (.int p1), some (.int 0), none], [.int 0], Wd f fl g gl hh v tx)) rfl ?_
  refine WP.run hP_199 1 (c' := (5, [some (.ref 74), some (.int p0), some (.int p1), some (.int 0), some (.int 0)], [], Wd f fl g gl hh v tx)) rfl ?_
  exact h

set_option maxRecDepth 20000 in
theorem b_m_signAt_5 (X : mm_X) (d : Nat) (f : Nat → Int32) (fl : Nat → Int64) (g : Nat → Nat → Int32) (gl : Nat → Nat → Int64) (hh : Nat → Nat → Option Nat) (v : Nat → Value) (tx : mm_W) (l1 : Int32) (l2 : Int32) (l3 : Int32) (l4 : Int32)  (P : Option Value → mm_W → Prop)
    (h : ((l1 ≤ l4) → (((((g 76) 12) ≤ l3) → P (some (.int (-1))) (Wd f fl g gl hh v tx)) ∧
      ((¬ (((g 76) 12) ≤ l3)) → WP X (d) 198 (0, [some (.ref 74), some (.int l3), some (.int l2), none], [], Wd f fl g gl hh v tx) (fun rv w2 => WP X (d + 1) 199 (56, [some (.ref 74), none, some (.int l2), some (.int l3), none], rv.toList ++ [], w2) P)))) ∧
    ((¬ (l1 ≤ l4)) → (((((g 76) 12) ≤ l3) → (((((g 76) 12) ≤ l3) → P (some (.int (-1))) (Wd f fl g gl hh v tx)) ∧
        ((¬ (((g 76) 12) ≤ l3)) → WP X (d) 198 (0, [some (.ref 74), some (.int l3), some (.int l2), none], [], Wd f fl g gl hh v tx) (fun rv w2 => WP X (d + 1) 199 (56, [some (.ref 74), none, some (.int l2), some (.int l3), none], rv.toList ++ [], w2) P)))) ∧
      ((¬ (((g 76) 12) ≤ l3)) → WP X (d) 198 (0, [some (.ref 74), some (.int l3), some (.int l2), none], [], Wd f fl g gl hh v tx) (fun rv w2 => WP X (d + 1) 199 (32, [some (.ref 74), some (.int l1), some (.int l2), some (.int l3), some (.int l4)], rv.toList ++ [.int 31, .ref 76, .int l3], w2) P))))) :
    WP X (d + 1) 199 (5, [some (.ref 74), some (.int l1), some (.int l2), some (.int l3), some (.int l4)], [], Wd f fl g gl hh v tx) P := by
  refine WP.run hP_199 2 (c' := (8, [some (.ref 74), some (.int l1), some (.int l2), some (.int l3), some (.int l4)], [.int l1, .int l4], Wd f fl g gl hh v tx)) rfl ?_
  refine WP.br hP_199 (q := l1 ≤ l4) (t := 42) (f := 11) (L := [some (.ref 74), some (.int l1), some (.int l2), some (.int l3), some (.int l4)]) (st := []) (w := Wd f fl g gl hh v tx) rfl (fun c1 => ?_) (fun c1 => ?_)
  · have h2 := h.1 c1
    refine WP.run hP_199 2 (c' := (44, [some (.ref 74), none, some (.int l2), some (.int l3), none], [.ref 74, .int l3], Wd f fl g gl hh v tx)) rfl ?_
    refine WP.call hP_199 hP_130 (as := [.ref 74]) (pc' := 47) (L' := [some (.ref 74), none, some (.int l2), some (.int l3), none]) (st' := [.int l3]) (w1 := Wd f fl g gl hh v tx) rfl ⟨Nat.le_of_ble_eq_true rfl, Nat.le_of_ble_eq_true rfl⟩ rfl (b_m_size_0 X (d) f fl g gl hh v tx  _ ?_)
    refine WP.br hP_199 (q := ((g 76) 12) ≤ l3) (t := 59) (f := 50) (L := [some (.ref 74), none, some (.int l2), some (.int l3), none]) (st := []) (w := Wd f fl g gl hh v tx) rfl (fun c3 => ?_) (fun c3 => ?_)
    · have h4 := h2.1 c3
      refine WP.run hP_199 1 (c' := (60, [none, none, none, none, none], [.int (-1)], Wd f fl g gl hh v tx)) rfl ?_
      exact WP.retI hP_199 rfl rfl h4
    · have h5 := h2.2 c3
      refine WP.run hP_199 3 (c' := (53, [some (.ref 74), none, some (.int l2), some (.int l3), none], [.int l2, .int l3, .ref 74], Wd f fl g gl hh v tx)) rfl ?_
      refine WP.call hP_199 hP_198 (as := [.ref 74, .int l3, .int l2]) (pc' := 56) (L' := [some (.ref 74), none, some (.int l2), some (.int l3), none]) (st' := []) (w1 := Wd f fl g gl hh v tx) rfl ⟨Nat.le_of_ble_eq_true rfl, Nat.le_of_ble_eq_true rfl⟩ rfl ?_
      exact h5
  · have h6 := h.2 c1
    refine WP.run hP_199 2 (c' := (13, [some (.ref 74), some (.int l1), some (.int l2), some (.int l3), some (.int l4)], [.ref 74, .int l3], Wd f fl g gl hh v tx)) rfl ?_
    refine WP.call hP_199 hP_130 (as := [.ref 74]) (pc' := 16) (L' := [some (.ref 74), some (.int l1), some (.int l2), some (.int l3), some (.int l4)]) (st' := [.int l3]) (w1 := Wd f fl g gl hh v tx) rfl ⟨Nat.le_of_ble_eq_true rfl, Nat.le_of_ble_eq_true rfl⟩ rfl (b_m_size_0 X (d) f fl g gl hh v tx  _ ?_)
    refine WP.br hP_199 (q := ((g 76) 12) ≤ l3) (t := 42) (f := 19) (L := [some (.ref 74), some (.int l1), some (.int l2), some (.int l3), some (.int l4)]) (st := []) (w := Wd f fl g gl hh v tx) rfl (fun c7 => ?_) (fun c7 => ?_)
    · have h8 := h6.1 c7
      refine WP.run hP_199 2 (c' := (44, [some (.ref 74), none, some (.int l2), some (.int l3), none], [.ref 74, .int l3], Wd f fl g gl hh v tx)) rfl ?_
      refine WP.call hP_199 hP_130 (as := [.ref 74]) (pc' := 47) (L' := [some (.ref 74), none, some (.int l2), some (.int l3), none]) (st' := [.int l3]) (w1 := Wd f fl g gl hh v tx) rfl ⟨Nat.le_of_ble_eq_true rfl, Nat.le_of_ble_eq_true rfl⟩ rfl (b_m_size_0 X (d) f fl g gl hh v tx  _ ?_)
      refine WP.br hP_199 (q := ((g 76) 12) ≤ l3) (t := 59) (f := 50) (L := [some (.ref 74), none, some (.int l2), some (.int l3), none]) (st := []) (w := Wd f fl g gl hh v tx) rfl (fun c9 => ?_) (fun c9 => ?_)
      · have h10 := h8.1 c9
        refine WP.run hP_199 1 (c' := (60, [none, none, none, none, none], [.int (-1)], Wd f fl g gl hh v tx)) rfl ?_
        exact WP.retI hP_199 rfl rfl h10
      · have h11 := h8.2 c9
        refine WP.run hP_199 3 (c' := (53, [some (.ref 74), none, some (.int l2), some (.int l3), none], [.int l2, .int l3, .ref 74], Wd f fl g gl hh v tx)) rfl ?_
        refine WP.call hP_199 hP_198 (as := [.ref 74, .int l3, .int l2]) (pc' := 56) (L' := [some (.ref 74), none, some (.int l2), some (.int l3), none]) (st' := []) (w1 := Wd f fl g gl hh v tx) rfl ⟨Nat.le_of_ble_eq_true rfl, Nat.le_of_ble_eq_true rfl⟩ rfl ?_
        exact h11
    · have h12 := h6.2 c7
      refine WP.run hP_199 7 (c' := (29, [some (.ref 74), some (.int l1), some (.int l2), some (.int l3), some (.int l4)], [.int l2, .int l3, .ref 74, .int 31, .ref 76, .int l3], Wd f fl g gl hh v tx)) rfl ?_
      refine WP.call hP_199 hP_198 (as := [.ref 74, .int l3, .int l2]) (pc' := 32) (L' := [some (.ref 74), some (.int l1), some (.int l2), some (.int l3), some (.int l4)]) (st' := [.int 31, .ref 76, .int l3]) (w1 := Wd f fl g gl hh v tx) rfl ⟨Nat.le_of_ble_eq_true rfl, Nat.le_of_ble_eq_true rfl⟩ rfl ?_
      exact h12

set_option maxRecDepth 20000 in
theorem b_m_signAt_56 (X : mm_X) (d : Nat) (f : Nat → Int32) (fl : Nat → Int64) (g : Nat → Nat → Int32) (gl : Nat → Nat → Int64) (hh : Nat → Nat → Option Nat) (v : Nat → Value) (tx : mm_W) (l2 : Int32) (l3 : Int32) (s0 : Int32)  (P : Option Value → mm_W → Prop)
    (h : P (some (.int s0)) (Wd f fl g gl hh v tx)) :
    WP X (d) 199 (56, [some (.ref 74), none, some (.int l2), some (.int l3), none], [.int s0], Wd f fl g gl hh v tx) P := by
  refine WP.run hP_199 1 (c' := (60, [some (.ref 74), none, some (.int l2), some (.int l3), none], [.int s0], Wd f fl g gl hh v tx)) rfl ?_
  exact WP.retI hP_199 rfl rfl h

set_option maxRecDepth 20000 in
theorem b_m_signAt_32 (X : mm_X) (d : Nat) (f : Nat → Int32) (fl : Nat → Int64) (g : Nat → Nat → Int32) (gl : Nat → Nat → Int64) (hh : Nat → Nat → Option Nat) (v : Nat → Value) (tx : mm_W) (l1 : Int32) (l2 : Int32) (l3 : Int32) (l4 : Int32) (s0 : Int32) (s1 : Int32) (s3 : Int32)  (P : Option Value → mm_W → Prop)
    (h : (¬ ((s1 + s0) < 0 ∨ 5667 ≤ (s1 + s0).toNatClampNeg)) ∧ WP X (d) 199 (5, [some (.ref 74), some (.int l1), some (.int l2), some (.int (s3 + ((g 76) (s1 + s0).toNatClampNeg))), some (.int (l4 + (1 : Int32)))], [], Wd f fl g gl hh v tx) P) :
    WP X (d) 199 (32, [some (.ref 74), some (.int l1), some (.int l2), some (.int l3), some (.int l4)], [.int s0, .int s1, .ref 76, .int s3], Wd f fl g gl hh v tx) P := by
  refine WP.run hP_199 1 (c' := (33, [some (.ref 74), some (.int l1), some (.int l2), some (.int l3), some (.int l4)], [.int (s1 + s0), .ref 76, .int s3], Wd f fl g gl hh v tx)) rfl ?_
  refine WP.of (fun _ _ => Ex.iald hP_199 rfl (Wa_76 _ _ _ _ _ _ _) h.1) ?_
  have h1 := h.2
  refine WP.run hP_199 2 (c' := (36, [some (.ref 74), some (.int l1), some (.int l2), some (.int (s3 + ((g 76) (s1 + s0).toNatClampNeg))), some (.int l4)], [], Wd f fl g gl hh v tx)) rfl ?_
  refine WP.run hP_199 2 (c' := (5, [some (.ref 74), some (.int l1), some (.int l2), some (.int (s3 + ((g 76) (s1 + s0).toNatClampNeg))), some (.int (l4 + (1 : Int32)))], [], Wd f fl g gl hh v tx)) rfl ?_
  exact h1

set_option maxRecDepth 20000 in
theorem b_m_howMany_0 (X : mm_X) (d : Nat) (f : Nat → Int32) (fl : Nat → Int64) (g : Nat → Nat → Int32) (gl : Nat → Nat → Int64) (hh : Nat → Nat → Option Nat) (v : Nat → Value) (tx : mm_W) (p0 : Int32)  (P : Option Value → mm_W → Prop)
    (h : WP X (d) 200 (4, [some (.ref 74), some (.int p0), some (.int 0), some (.int 0)], [], Wd f fl g gl hh v tx) P) :
    WP X (d) 200 (0, [some (.ref 74), some (.int p0), none, none], [], Wd f fl g gl hh v tx) P := by
  refine WP.run hP_200 3 (c' := (3, [some (.ref 74), some (.int p0), some (.int 0), none], [.int 0], Wd f fl g gl hh v tx)) rfl ?_
  refine WP.run hP_200 1 (c' := (4, [some (.ref 74), some (.int p0), some (.int 0), some (.int 0)], [], Wd f fl g gl hh v tx)) rfl ?_
  exact h

set_option maxRecDepth 20000 in
theorem b_m_howMany_4 (X : mm_X) (d : Nat) (f : Nat → Int32) (fl : Nat → Int64) (g : Nat → Nat → Int32) (gl : Nat → Nat → Int64) (hh : Nat → Nat → Option Nat) (v : Nat → Value) (tx : mm_W) (l1 : Int32) (l2 : Int32) (l3 : Int32)  (P : Option Value → mm_W → Prop)
    (h : ((((g 76) 12) ≤ l3) → P (some (.int l2)) (Wd f fl g gl hh v tx)) ∧
    ((¬ (((g 76) 12) ≤ l3)) → WP X (d) 198 (0, [some (.ref 74), some (.int l3), some (.int l1), none], [], Wd f fl g gl hh v tx) (fun rv w2 => WP X (d + 1) 200 (28, [some (.ref 74), some (.int l1), some (.int (l2 + (1 : Int32))), some (.int l3)], rv.toList ++ [.int 31, .ref 76, .int l3], w2) P))) :
    WP X (d + 1) 200 (4, [some (.ref 74), some (.int l1), some (.int l2), some (.int l3)], [], Wd f fl g gl hh v tx) P := by
  refine WP.run hP_200 2 (c' := (6, [some (.ref 74), some (.int l1), some (.int l2), some (.int l3)], [.ref 74, .int l3], Wd f fl g gl hh v tx)) rfl ?_
  refine WP.call hP_200 hP_130 (as := [.ref 74]) (pc' := 9) (L' := [some (.ref 74), some (.int l1), some (.int l2), some (.int l3)]) (st' := [.int l3]) (w1 := Wd f fl g gl hh v tx) rfl ⟨Nat.le_of_ble_eq_true rfl, Nat.le_of_ble_eq_true rfl⟩ rfl (b_m_size_0 X (d) f fl g gl hh v tx  _ ?_)
  refine WP.br hP_200 (q := ((g 76) 12) ≤ l3) (t := 35) (f := 12) (L := [some (.ref 74), some (.int l1), some (.int l2), some (.int l3)]) (st := []) (w := Wd f fl g gl hh v tx) rfl (fun c1 => ?_) (fun c1 => ?_)
  · have h2 := h.1 c1
    refine WP.run hP_200 1 (c' := (36, [none, none, some (.int l2), none], [.int l2], Wd f fl g gl hh v tx)) rfl ?_
    exact WP.retI hP_200 rfl rfl h2
  · have h3 := h.2 c1
    refine WP.run hP_200 8 (c' := (25, [some (.ref 74), some (.int l1), some (.int (l2 + (1 : Int32))), some (.int l3)], [.int l1, .int l3, .ref 74, .int 31, .ref 76, .int l3], Wd f fl g gl hh v tx)) rfl ?_
    refine WP.call hP_200 hP_198 (as := [.ref 74, .int l3, .int l1]) (pc' := 28) (L' := [some (.ref 74), some (.int l1), some (.int (l2 + (1 : Int32))), some (.int l3)]) (st' := [.int 31, .ref 76, .int l3]) (w1 := Wd f fl g gl hh v tx) rfl ⟨Nat.le_of_ble_eq_true rfl, Nat.le_of_ble_eq_true rfl⟩ rfl ?_
    exact h3

set_option maxRecDepth 20000 in
theorem b_m_howMany_28 (X : mm_X) (d : Nat) (f : Nat → Int32) (fl : Nat → Int64) (g : Nat → Nat → Int32) (gl : Nat → Nat → Int64) (hh : Nat → Nat → Option Nat) (v : Nat → Value) (tx : mm_W) (l1 : Int32) (l2 : Int32) (l3 : Int32) (s0 : Int32) (s1 : Int32) (s3 : Int32)  (P : Option Value → mm_W → Prop)
    (h : (¬ ((s1 + s0) < 0 ∨ 5667 ≤ (s1 + s0).toNatClampNeg)) ∧ WP X (d) 200 (4, [some (.ref 74), some (.int l1), some (.int l2), some (.int (s3 + ((g 76) (s1 + s0).toNatClampNeg)))], [], Wd f fl g gl hh v tx) P) :
    WP X (d) 200 (28, [some (.ref 74), some (.int l1), some (.int l2), some (.int l3)], [.int s0, .int s1, .ref 76, .int s3], Wd f fl g gl hh v tx) P := by
  refine WP.run hP_200 1 (c' := (29, [some (.ref 74), some (.int l1), some (.int l2), some (.int l3)], [.int (s1 + s0), .ref 76, .int s3], Wd f fl g gl hh v tx)) rfl ?_
  refine WP.of (fun _ _ => Ex.iald hP_200 rfl (Wa_76 _ _ _ _ _ _ _) h.1) ?_
  have h1 := h.2
  refine WP.run hP_200 3 (c' := (4, [some (.ref 74), some (.int l1), some (.int l2), some (.int (s3 + ((g 76) (s1 + s0).toNatClampNeg)))], [], Wd f fl g gl hh v tx)) rfl ?_
  exact h1

set_option maxRecDepth 20000 in
theorem b_m_mended_0 (X : mm_X) (d : Nat) (f : Nat → Int32) (fl : Nat → Int64) (g : Nat → Nat → Int32) (gl : Nat → Nat → Int64) (hh : Nat → Nat → Option Nat) (v : Nat → Value) (tx : mm_W) (p0 : Int32)  (P : Option Value → mm_W → Prop)
    (h : (((-1) ≤ p0) → WP X (d) 196 (0, [some (.ref 74), some (.int 1), none, none], [], Wd f fl g gl hh v tx) (fun rv w2 => WP X (d + 1) 204 (12, [some (.ref 74), some (.int p0)], rv.toList ++ [], w2) P)) ∧
    ((¬ ((-1) ≤ p0)) → P (some (.int (-1))) (Wd f fl g gl hh v tx))) :
    WP X (d + 1) 204 (0, [some (.ref 74), some (.int p0)], [], Wd f fl g gl hh v tx) P := by
  refine WP.run hP_204 2 (c' := (2, [some (.ref 74), some (.int p0)], [.int (-1), .int p0], Wd f fl g gl hh v tx)) rfl ?_
  refine WP.br hP_204 (q := (-1) ≤ p0) (t := 7) (f := 5) (L := [some (.ref 74), some (.int p0)]) (st := []) (w := Wd f fl g gl hh v tx) rfl (fun c1 => ?_) (fun c1 => ?_)
  · have h2 := h.1 c1
    refine WP.run hP_204 2 (c' := (9, [some (.ref 74), some (.int p0)], [.int 1, .ref 74], Wd f fl g gl hh v tx)) rfl ?_
    refine WP.call hP_204 hP_196 (as := [.ref 74, .int 1]) (pc' := 12) (L' := [some (.ref 74), some (.int p0)]) (st' := []) (w1 := Wd f fl g gl hh v tx) rfl ⟨Nat.le_of_ble_eq_true rfl, Nat.le_of_ble_eq_true rfl⟩ rfl ?_
    exact h2
  · have h3 := h.2 c1
    refine WP.run hP_204 1 (c' := (6, [some (.ref 74), some (.int p0)], [.int (-1)], Wd f fl g gl hh v tx)) rfl ?_
    exact WP.retI hP_204 rfl rfl h3

set_option maxRecDepth 20000 in
theorem b_m_mended_12 (X : mm_X) (d : Nat) (f : Nat → Int32) (fl : Nat → Int64) (g : Nat → Nat → Int32) (gl : Nat → Nat → Int64) (hh : Nat → Nat → Option Nat) (v : Nat → Value) (tx : mm_W) (l1 : Int32)  (P : Option Value → mm_W → Prop)
    (h : ((¬ ((g 88) 0) = 1000000) → (((¬ l1 = (-1)) → WP X (d) 199 (0, [some (.ref 74), some (.int l1), some (.int 1), none, none], [], Wd f fl g gl hh v tx) (fun rv w2 => WP X (d + 1) 204 (45, [none, none], rv.toList ++ [], w2) P)) ∧
      ((l1 = (-1)) → P (some (.int ((g 88) 0))) (Wd f fl g gl hh v tx)))) ∧
    ((((g 88) 0) = 1000000) → P (some (.int (-1))) (Wd f fl g gl hh v tx))) :
    WP X (d + 1) 204 (12, [some (.ref 74), some (.int l1)], [], Wd f fl g gl hh v tx) P := by
  refine WP.run hP_204 3 (c' := (17, [some (.ref 74), some (.int l1)], [.int 0, .ref 88], Wd f fl g gl hh v tx)) rfl ?_
  refine WP.of (fun _ _ => Ex.iald hP_204 rfl (Wa_88 _ _ _ _ _ _ _) (by decide)) ?_
  show WP X _ 204 (18, [some (.ref 74), some (.int l1)], [.int ((g 88) 0)], Wd f fl g gl hh v tx) P
  refine WP.run hP_204 1 (c' := (20, [some (.ref 74), some (.int l1)], [.int 1000000, .int ((g 88) 0)], Wd f fl g gl hh v tx)) rfl ?_
  refine WP.br hP_204 (q := ¬ ((g 88) 0) = 1000000) (t := 25) (f := 23) (L := [some (.ref 74), some (.int l1)]) (st := []) (w := Wd f fl g gl hh v tx) rfl (fun c1 => ?_) (fun c1 => ?_)
  · have h2 := h.1 c1
    refine WP.run hP_204 2 (c' := (27, [some (.ref 74), some (.int l1)], [.int (-1), .int l1], Wd f fl g gl hh v tx)) rfl ?_
    refine WP.br hP_204 (q := ¬ l1 = (-1)) (t := 39) (f := 30) (L := [some (.ref 74), some (.int l1)]) (st := []) (w := Wd f fl g gl hh v tx) rfl (fun c3 => ?_) (fun c3 => ?_)
    · have h4 := h2.1 c3
      refine WP.run hP_204 3 (c' := (42, [some (.ref 74), some (.int l1)], [.int 1, .int l1, .ref 74], Wd f fl g gl hh v tx)) rfl ?_
      refine WP.call hP_204 hP_199 (as := [.ref 74, .int l1, .int 1]) (pc' := 45) (L' := [some (.ref 74), some (.int l1)]) (st' := []) (w1 := Wd f fl g gl hh v tx) rfl ⟨Nat.le_of_ble_eq_true rfl, Nat.le_of_ble_eq_true rfl⟩ rfl ?_
      refine WP.mono h4 (fun _ _ hq => ?_)
      exact WP.clr hP_204 (pc := 45) rfl hq
    · have h5 := h2.2 (Classical.not_not.mp c3)
      refine WP.run hP_204 3 (c' := (35, [some (.ref 74), some (.int l1)], [.int 0, .ref 88], Wd f fl g gl hh v tx)) rfl ?_
      refine WP.of (fun _ _ => Ex.iald hP_204 rfl (Wa_88 _ _ _ _ _ _ _) (by decide)) ?_
      show WP X _ 204 (36, [some (.ref 74), some (.int l1)], [.int ((g 88) 0)], Wd f fl g gl hh v tx) P
      refine WP.run hP_204 1 (c' := (45, [some (.ref 74), some (.int l1)], [.int ((g 88) 0)], Wd f fl g gl hh v tx)) rfl ?_
      exact WP.retI hP_204 rfl rfl h5
  · have h6 := h.2 (Classical.not_not.mp c1)
    refine WP.run hP_204 1 (c' := (24, [some (.ref 74), some (.int l1)], [.int (-1)], Wd f fl g gl hh v tx)) rfl ?_
    exact WP.retI hP_204 rfl rfl h6

set_option maxRecDepth 20000 in
theorem b_m_mended_45 (X : mm_X) (d : Nat) (f : Nat → Int32) (fl : Nat → Int64) (g : Nat → Nat → Int32) (gl : Nat → Nat → Int64) (hh : Nat → Nat → Option Nat) (v : Nat → Value) (tx : mm_W) (s0 : Int32)  (P : Option Value → mm_W → Prop)
    (h : P (some (.int s0)) (Wd f fl g gl hh v tx)) :
    WP X (d) 204 (45, [none, none], [.int s0], Wd f fl g gl hh v tx) P := by
  exact WP.retI hP_204 rfl rfl h

set_option maxRecDepth 20000 in
theorem b_m_few_0 (X : mm_X) (d : Nat) (f : Nat → Int32) (fl : Nat → Int64) (g : Nat → Nat → Int32) (gl : Nat → Nat → Int64) (hh : Nat → Nat → Option Nat) (v : Nat → Value) (tx : mm_W) (p0 : Int32) (p1 : Int32)  (P : Option Value → mm_W → Prop)
    (h : (((1 : Int32) ≤ p0 ∧ p0 ≤ (20 : Int32)) → ((((0 : Int32) ≤ p1 ∧ p1 ≤ (99 : Int32)) → WP X (d + 1) 231 (26, [some (.ref 74), some (.int p0), some (.int p1), some (.int 0), none, none], [], Wd f fl g gl hh v tx) P) ∧
      ((¬ ((0 : Int32) ≤ p1 ∧ p1 ≤ (99 : Int32))) → P (some (.long (-1))) (Wd f fl g gl hh v tx)))) ∧
    ((¬ ((1 : Int32) ≤ p0 ∧ p0 ≤ (20 : Int32))) → P (some (.long (-1))) (Wd f fl g gl hh v tx))) :
    WP X (d + 1) 231 (0, [some (.ref 74), some (.int p0), some (.int p1), none, none, none], [], Wd f fl g gl hh v tx) P := by
  refine WP.run hP_231 3 (c' := (4, [some (.ref 74), some (.int p0), some (.int p1), none, none, none], [.int 20, .int 1, .int p0], Wd f fl g gl hh v tx)) rfl ?_
  refine WP.call hP_231 hP_116 (as := [.int p0, .int 1, .int 20]) (pc' := 7) (L' := [some (.ref 74), some (.int p0), some (.int p1), none, none, none]) (st' := []) (w1 := Wd f fl g gl hh v tx) rfl ⟨Nat.le_of_ble_eq_true rfl, Nat.le_of_ble_eq_true rfl⟩ rfl (b_lies_m X (d) f fl g gl hh v tx p0 1 20 _ ?_)
  refine ⟨fun c1 => ?_, fun c1 => ?_⟩
  · have h2 := h.1 c1
    refine WP.run hP_231 4 (c' := (14, [some (.ref 74), some (.int p0), some (.int p1), none, none, none], [.int 99, .int 0, .int p1], Wd f fl g gl hh v tx)) rfl ?_
    refine WP.call hP_231 hP_116 (as := [.int p1, .int 0, .int 99]) (pc' := 17) (L' := [some (.ref 74), some (.int p0), some (.int p1), none, none, none]) (st' := []) (w1 := Wd f fl g gl hh v tx) rfl ⟨Nat.le_of_ble_eq_true rfl, Nat.le_of_ble_eq_true rfl⟩ rfl (b_lies_m X (d) f fl g gl hh v tx p1 0 99 _ ?_)
    refine ⟨fun c3 => ?_, fun c3 => ?_⟩
    · have h4 := h2.1 c3
      refine WP.run hP_231 2 (c' := (25, [some (.ref 74), some (.int p0), some (.int p1), none, none, none], [.int 0], Wd f fl g gl hh v tx)) rfl ?_
      refine WP.run hP_231 1 (c' := (26, [some (.ref 74), some (.int p0), some (.int p1), some (.int 0), none, none], [], Wd f fl g gl hh v tx)) rfl ?_
      exact h4
    · have h5 := h2.2 c3
      refine WP.run hP_231 2 (c' := (23, [none, none, none, none, none, none], [.long (-1)], Wd f fl g gl hh v tx)) rfl ?_
      exact WP.ret hP_231 (r := some (.long (-1))) (w' := Wd f fl g gl hh v tx) rfl h5
  · have h6 := h.2 c1
    refine WP.run hP_231 2 (c' := (23, [none, none, none, none, none, none], [.long (-1)], Wd f fl g gl hh v tx)) rfl ?_
    exact WP.ret hP_231 (r := some (.long (-1))) (w' := Wd f fl g gl hh v tx) rfl h6

set_option maxRecDepth 20000 in
theorem b_m_few_26 (X : mm_X) (d : Nat) (f : Nat → Int32) (fl : Nat → Int64) (g : Nat → Nat → Int32) (gl : Nat → Nat → Int64) (hh : Nat → Nat → Option Nat) (v : Nat → Value) (tx : mm_W) (l1 : Int32) (l2 : Int32) (l3 : Int32)  (P : Option Value → mm_W → Prop)
    (h : ((20 < l3) → WP X (d) 231 (57, [some (.ref 74), some (.int l1), some (.int l2), some (.int 0), none, none], [], Wd f fl g gl hh v tx) P) ∧
    ((¬ (20 < l3)) → (((¬ l3 = 0) → ((¬ (l3 < 0 ∨ 21 ≤ l3.toNatClampNeg)) ∧ WP X (d) 231 (26, [some (.ref 74), some (.int l1), some (.int l2), some (.int (l3 + (1 : Int32))), none, none], [], Wd f fl g (va_up gl 96 (vp_updL (gl 96) (l3.toNatClampNeg) 0)) hh v tx) P)) ∧
      ((l3 = 0) → ((¬ (l3 < 0 ∨ 21 ≤ l3.toNatClampNeg)) ∧ WP X (d) 231 (26, [some (.ref 74), some (.int l1), some (.int l2), some (.int (l3 + (1 : Int32))), none, none], [], Wd f fl g (va_up gl 96 (vp_updL (gl 96) (l3.toNatClampNeg) 1000000000000)) hh v tx) P))))) :
    WP X (d) 231 (26, [some (.ref 74), some (.int l1), some (.int l2), some (.int l3), none, none], [], Wd f fl g gl hh v tx) P := by
  refine WP.run hP_231 2 (c' := (29, [some (.ref 74), some (.int l1), some (.int l2), some (.int l3), none, none], [.int 20, .int l3], Wd f fl g gl hh v tx)) rfl ?_
  refine WP.br hP_231 (q := 20 < l3) (t := 55) (f := 32) (L := [some (.ref 74), some (.int l1), some (.int l2), some (.int l3), none, none]) (st := []) (w := Wd f fl g gl hh v tx) rfl (fun c1 => ?_) (fun c1 => ?_)
  · have h2 := h.1 c1
    refine WP.run hP_231 1 (c' := (56, [some (.ref 74), some (.int l1), some (.int l2), none, none, none], [.int 0], Wd f fl g gl hh v tx)) rfl ?_
    refine WP.run hP_231 1 (c' := (57, [some (.ref 74), some (.int l1), some (.int l2), some (.int 0), none, none], [], Wd f fl g gl hh v tx)) rfl ?_
    exact h2
  · have h3 := h.2 c1
    refine WP.run hP_231 4 (c' := (38, [some (.ref 74), some (.int l1), some (.int l2), some (.int l3), none, none], [.int l3, .int l3, .ref 96], Wd f fl g gl hh v tx)) rfl ?_
    refine WP.br hP_231 (q := ¬ l3 = 0) (t := 47) (f := 41) (L := [some (.ref 74), some (.int l1), some (.int l2), some (.int l3), none, none]) (st := [.int l3, .ref 96]) (w := Wd f fl g gl hh v tx) rfl (fun c4 => ?_) (fun c4 => ?_)
    · have h5 := h3.1 c4
      refine WP.run hP_231 1 (c' := (48, [some (.ref 74), some (.int l1), some (.int l2), some (.int l3), none, none], [.long 0, .int l3, .ref 96], Wd f fl g gl hh v tx)) rfl ?_
      refine WP.of (fun _ _ => Ex.last hP_231 (w2 := Wd f fl g (va_up gl 96 (vp_updL (gl 96) (l3.toNatClampNeg) 0)) hh v tx) rfl (Wa_96 _ _ _ _ _ _ _) h5.1 (Ws_96 _ _ _ _ _ _ _ _)) ?_
      have h6 := h5.2
      refine WP.run hP_231 2 (c' := (26, [some (.ref 74), some (.int l1), some (.int l2), some (.int (l3 + (1 : Int32))), none, none], [], Wd f fl g (va_up gl 96 (vp_updL (gl 96) (l3.toNatClampNeg) 0)) hh v tx)) rfl ?_
      exact h6
    · have h7 := h3.2 (Classical.not_not.mp c4)
      refine WP.run hP_231 2 (c' := (48, [some (.ref 74), some (.int l1), some (.int l2), some (.int l3), none, none], [.long 1000000000000, .int l3, .ref 96], Wd f fl g gl hh v tx)) rfl ?_
      refine WP.of (fun _ _ => Ex.last hP_231 (w2 := Wd f fl g (va_up gl 96 (vp_updL (gl 96) (l3.toNatClampNeg) 1000000000000)) hh v tx) rfl (Wa_96 _ _ _ _ _ _ _) h7.1 (Ws_96 _ _ _ _ _ _ _ _)) ?_
      have h8 := h7.2
      refine WP.run hP_231 2 (c' := (26, [some (.ref 74), some (.int l1), some (.int l2), some (.int (l3 + (1 : Int32))), none, none], [], Wd f fl g (va_up gl 96 (vp_updL (gl 96) (l3.toNatClampNeg) 1000000000000)) hh v tx)) rfl ?_
      exact h8

set_option maxRecDepth 20000 in
theorem b_m_few_57 (X : mm_X) (d : Nat) (f : Nat → Int32) (fl : Nat → Int64) (g : Nat → Nat → Int32) (gl : Nat → Nat → Int64) (hh : Nat → Nat → Option Nat) (v : Nat → Value) (tx : mm_W) (l1 : Int32) (l2 : Int32) (l3 : Int32)  (P : Option Value → mm_W → Prop)
    (h : ((l2 ≤ l3) → WP X (d) 231 (151, [some (.ref 74), some (.int l1), none, some (.long 0), none, some (.int 0)], [], Wd f fl g gl hh v tx) P) ∧
    ((¬ (l2 ≤ l3)) → WP X (d) 231 (67, [some (.ref 74), some (.int l1), some (.int l2), some (.int l3), some (.int (l1 - (1 : Int32))), none], [], Wd f fl g gl hh v tx) P)) :
    WP X (d) 231 (57, [some (.ref 74), some (.int l1), some (.int l2), some (.int l3), none, none], [], Wd f fl g gl hh v tx) P := by
  refine WP.run hP_231 2 (c' := (59, [some (.ref 74), some (.int l1), some (.int l2), some (.int l3), none, none], [.int l2, .int l3], Wd f fl g gl hh v tx)) rfl ?_
  refine WP.br hP_231 (q := l2 ≤ l3) (t := 146) (f := 62) (L := [some (.ref 74), some (.int l1), some (.int l2), some (.int l3), none, none]) (st := []) (w := Wd f fl g gl hh v tx) rfl (fun c1 => ?_) (fun c1 => ?_)
  · have h2 := h.1 c1
    refine WP.run hP_231 1 (c' := (147, [some (.ref 74), some (.int l1), none, none, none, none], [.long 0], Wd f fl g gl hh v tx)) rfl ?_
    refine WP.run hP_231 2 (c' := (149, [some (.ref 74), some (.int l1), none, some (.long 0), none, none], [.int 0], Wd f fl g gl hh v tx)) rfl ?_
    refine WP.run hP_231 1 (c' := (151, [some (.ref 74), some (.int l1), none, some (.long 0), none, some (.int 0)], [], Wd f fl g gl hh v tx)) rfl ?_
    exact h2
  · have h3 := h.2 c1
    refine WP.run hP_231 4 (c' := (67, [some (.ref 74), some (.int l1), some (.int l2), some (.int l3), some (.int (l1 - (1 : Int32))), none], [], Wd f fl g gl hh v tx)) rfl ?_
    exact h3

set_option maxRecDepth 20000 in
theorem b_m_few_151 (X : mm_X) (d : Nat) (f : Nat → Int32) (fl : Nat → Int64) (g : Nat → Nat → Int32) (gl : Nat → Nat → Int64) (hh : Nat → Nat → Option Nat) (v : Nat → Value) (tx : mm_W) (l1 : Int32) (l3 : Int64) (l5 : Int32)  (P : Option Value → mm_W → Prop)
    (h : ((l1 ≤ l5) → P (some (.long l3)) (Wd f fl g gl hh v tx)) ∧
    ((¬ (l1 ≤ l5)) → ((¬ (l5 < 0 ∨ 21 ≤ l5.toNatClampNeg)) ∧ WP X (d) 231 (151, [some (.ref 74), some (.int l1), none, some (.long (l3 + ((gl 96) l5.toNatClampNeg))), none, some (.int (l5 + (1 : Int32)))], [], Wd f fl g gl hh v tx) P))) :
    WP X (d) 231 (151, [some (.ref 74), some (.int l1), none, some (.long l3), none, some (.int l5)], [], Wd f fl g gl hh v tx) P := by
  refine WP.run hP_231 2 (c' := (154, [some (.ref 74), some (.int l1), none, some (.long l3), none, some (.int l5)], [.int l1, .int l5], Wd f fl g gl hh v tx)) rfl ?_
  refine WP.br hP_231 (q := l1 ≤ l5) (t := 173) (f := 157) (L := [some (.ref 74), some (.int l1), none, some (.long l3), none, some (.int l5)]) (st := []) (w := Wd f fl g gl hh v tx) rfl (fun c1 => ?_) (fun c1 => ?_)
  · have h2 := h.1 c1
    refine WP.run hP_231 1 (c' := (174, [none, none, none, some (.long l3), none, none], [.long l3], Wd f fl g gl hh v tx)) rfl ?_
    exact WP.ret hP_231 (r := some (.long l3)) (w' := Wd f fl g gl hh v tx) rfl h2
  · have h3 := h.2 c1
    refine WP.run hP_231 4 (c' := (164, [some (.ref 74), some (.int l1), none, some (.long l3), none, some (.int l5)], [.int l5, .ref 96, .long l3], Wd f fl g gl hh v tx)) rfl ?_
    refine WP.of (fun _ _ => Ex.lald hP_231 rfl (Wa_96 _ _ _ _ _ _ _) h3.1) ?_
    have h4 := h3.2
    refine WP.run hP_231 2 (c' := (167, [some (.ref 74), some (.int l1), none, some (.long (l3 + ((gl 96) l5.toNatClampNeg))), none, some (.int l5)], [], Wd f fl g gl hh v tx)) rfl ?_
    refine WP.run hP_231 2 (c' := (151, [some (.ref 74), some (.int l1), none, some (.long (l3 + ((gl 96) l5.toNatClampNeg))), none, some (.int (l5 + (1 : Int32)))], [], Wd f fl g gl hh v tx)) rfl ?_
    exact h4

set_option maxRecDepth 20000 in
theorem b_m_few_67 (X : mm_X) (d : Nat) (f : Nat → Int32) (fl : Nat → Int64) (g : Nat → Nat → Int32) (gl : Nat → Nat → Int64) (hh : Nat → Nat → Option Nat) (v : Nat → Value) (tx : mm_W) (l1 : Int32) (l2 : Int32) (l3 : Int32) (l4 : Int32)  (P : Option Value → mm_W → Prop)
    (h : ((l4 < 0) → WP X (d) 231 (57, [some (.ref 74), some (.int l1), some (.int l2), some (.int (l3 + (1 : Int32))), none, none], [], Wd f fl g gl hh v tx) P) ∧
    ((¬ (l4 < 0)) → ((¬ ((l4 + (1 : Int32)) < 0 ∨ 21 ≤ (l4 + (1 : Int32)).toNatClampNeg)) ∧ ((¬ (l4 < 0 ∨ 21 ≤ l4.toNatClampNeg)) ∧ ((¬ ((l4 + (1 : Int32)) < 0 ∨ 21 ≤ (l4 + (1 : Int32)).toNatClampNeg)) ∧ ((¬ (l4 < 0 ∨ 21 ≤ l4.toNatClampNeg)) ∧ ((¬ (l4 < 0 ∨ 21 ≤ l4.toNatClampNeg)) ∧ WP X (d) 231 (67, [some (.ref 74), some (.int l1), some (.int l2), some (.int l3), some (.int (l4 + (-1 : Int32))), none], [], Wd f fl g (va_up (va_up gl 96 (vp_updL (gl 96) ((l4 + (1 : Int32)).toNatClampNeg) (((gl 96) (l4 + (1 : Int32)).toNatClampNeg) + ((((gl 96) l4.toNatClampNeg) * ((((g 76) 53) : Int32).toInt64)) / (10 : Int64))))) 96 (vp_updL (vp_updL (gl 96) ((l4 + (1 : Int32)).toNatClampNeg) (((gl 96) (l4 + (1 : Int32)).toNatClampNeg) + ((((gl 96) l4.toNatClampNeg) * ((((g 76) 53) : Int32).toInt64)) / (10 : Int64)))) (l4.toNatClampNeg) ((((vp_updL (gl 96) ((l4 + (1 : Int32)).toNatClampNeg) (((gl 96) (l4 + (1 : Int32)).toNatClampNeg) + ((((gl 96) l4.toNatClampNeg) * ((((g 76) 53) : Int32).toInt64)) / (10 : Int64)))) l4.toNatClampNeg) * ((((10 : Int32) - ((g 76) 53)) : Int32).toInt64)) / (10 : Int64)))) hh v tx) P))))))) :
    WP X (d) 231 (67, [some (.ref 74), some (.int l1), some (.int l2), some (.int l3), some (.int l4), none], [], Wd f fl g gl hh v tx) P := by
  refine WP.run hP_231 1 (c' := (69, [some (.ref 74), some (.int l1), some (.int l2), some (.int l3), some (.int l4), none], [.int l4], Wd f fl g gl hh v tx)) rfl ?_
  refine WP.br hP_231 (q := l4 < 0) (t := 140) (f := 72) (L := [some (.ref 74), some (.int l1), some (.int l2), some (.int l3), some (.int l4), none]) (st := []) (w := Wd f fl g gl hh v tx) rfl (fun c1 => ?_) (fun c1 => ?_)
  · have h2 := h.1 c1
    refine WP.run hP_231 2 (c' := (57, [some (.ref 74), some (.int l1), some (.int l2), some (.int (l3 + (1 : Int32))), none, none], [], Wd f fl g gl hh v tx)) rfl ?_
    exact h2
  · have h3 := h.2 c1
    refine WP.run hP_231 6 (c' := (81, [some (.ref 74), some (.int l1), some (.int l2), some (.int l3), some (.int l4), none], [.int (l4 + (1 : Int32)), .ref 96, .int (l4 + (1 : Int32)), .ref 96], Wd f fl g gl hh v tx)) rfl ?_
    refine WP.of (fun _ _ => Ex.lald hP_231 rfl (Wa_96 _ _ _ _ _ _ _) h3.1) ?_
    have h4 := h3.2
    refine WP.run hP_231 3 (c' := (88, [some (.ref 74), some (.int l1), some (.int l2), some (.int l3), some (.int l4), none], [.int l4, .ref 96, .long ((gl 96) (l4 + (1 : Int32)).toNatClampNeg), .int (l4 + (1 : Int32)), .ref 96], Wd f fl g gl hh v tx)) rfl ?_
    refine WP.of (fun _ _ => Ex.lald hP_231 rfl (Wa_96 _ _ _ _ _ _ _) h4.1) ?_
    have h5 := h4.2
    refine WP.run hP_231 3 (c' := (95, [some (.ref 74), some (.int l1), some (.int l2), some (.int l3), some (.int l4), none], [.int 53, .ref 76, .long ((gl 96) l4.toNatClampNeg), .long ((gl 96) (l4 + (1 : Int32)).toNatClampNeg), .int (l4 + (1 : Int32)), .ref 96], Wd f fl g gl hh v tx)) rfl ?_
    refine WP.of (fun _ _ => Ex.iald hP_231 rfl (Wa_76 _ _ _ _ _ _ _) (by decide)) ?_
    show WP X _ 231 (96, [some (.ref 74), some (.int l1), some (.int l2), some (.int l3), some (.int l4), none], [.int ((g 76) 53), .long ((gl 96) l4.toNatClampNeg), .long ((gl 96) (l4 + (1 : Int32)).toNatClampNeg), .int (l4 + (1 : Int32)), .ref 96], Wd f fl g gl hh v tx) P
    refine WP.run hP_231 5 (c' := (103, [some (.ref 74), some (.int l1), some (.int l2), some (.int l3), some (.int l4), none], [.long (((gl 96) (l4 + (1 : Int32)).toNatClampNeg) + ((((gl 96) l4.toNatClampNeg) * ((((g 76) 53) : Int32).toInt64)) / (10 : Int64))), .int (l4 + (1 : Int32)), .ref 96], Wd f fl g gl hh v tx)) rfl ?_
    refine WP.of (fun _ _ => Ex.last hP_231 (w2 := Wd f fl g (va_up gl 96 (vp_updL (gl 96) ((l4 + (1 : Int32)).toNatClampNeg) (((gl 96) (l4 + (1 : Int32)).toNatClampNeg) + ((((gl 96) l4.toNatClampNeg) * ((((g 76) 53) : Int32).toInt64)) / (10 : Int64))))) hh v tx) rfl (Wa_96 _ _ _ _ _ _ _) h5.1 (Ws_96 _ _ _ _ _ _ _ _)) ?_
    have h6 := h5.2
    refine WP.run hP_231 6 (c' := (116, [some (.ref 74), some (.int l1), some (.int l2), some (.int l3), some (.int l4), none], [.int l4, .ref 96, .int l4, .ref 96], Wd f fl g (va_up gl 96 (vp_updL (gl 96) ((l4 + (1 : Int32)).toNatClampNeg) (((gl 96) (l4 + (1 : Int32)).toNatClampNeg) + ((((gl 96) l4.toNatClampNeg) * ((((g 76) 53) : Int32).toInt64)) / (10 : Int64))))) hh v tx)) rfl ?_
    refine WP.of (fun _ _ => Ex.lald hP_231 rfl (Wa_96 _ _ _ _ _ _ _) h6.1) ?_
    have h7 := h6.2
    refine WP.run hP_231 4 (c' := (125, [some (.ref 74), some (.int l1), some (.int l2), some (.int l3), some (.int l4), none], [.int 53, .ref 76, .int 10, .long ((vp_updL (gl 96) ((l4 + (1 : Int32)).toNatClampNeg) (((gl 96) (l4 + (1 : Int32)).toNatClampNeg) + ((((gl 96) l4.toNatClampNeg) * ((((g 76) 53) : Int32).toInt64)) / (10 : Int64)))) l4.toNatClampNeg), .int l4, .ref 96], Wd f fl g (va_up gl 96 (vp_updL (gl 96) ((l4 + (1 : Int32)).toNatClampNeg) (((gl 96) (l4 + (1 : Int32)).toNatClampNeg) + ((((gl 96) l4.toNatClampNeg) * ((((g 76) 53) : Int32).toInt64)) / (10 : Int64))))) hh v tx)) rfl ?_
    refine WP.of (fun _ _ => Ex.iald hP_231 rfl (Wa_76 _ _ _ _ _ _ _) (by decide)) ?_
    show WP X _ 231 (126, [some (.ref 74), some (.int l1), some (.int l2), some (.int l3), some (.int l4), none], [.int ((g 76) 53), .int 10, .long ((vp_updL (gl 96) ((l4 + (1 : Int32)).toNatClampNeg) (((gl 96) (l4 + (1 : Int32)).toNatClampNeg) + ((((gl 96) l4.toNatClampNeg) * ((((g 76) 53) : Int32).toInt64)) / (10 : Int64)))) l4.toNatClampNeg), .int l4, .ref 96], Wd f fl g (va_up gl 96 (vp_updL (gl 96) ((l4 + (1 : Int32)).toNatClampNeg) (((gl 96) (l4 + (1 : Int32)).toNatClampNeg) + ((((gl 96) l4.toNatClampNeg) * ((((g 76) 53) : Int32).toInt64)) / (10 : Int64))))) hh v tx) P
    refine WP.run hP_231 5 (c' := (133, [some (.ref 74), some (.int l1), some (.int l2), some (.int l3), some (.int l4), none], [.long ((((vp_updL (gl 96) ((l4 + (1 : Int32)).toNatClampNeg) (((gl 96) (l4 + (1 : Int32)).toNatClampNeg) + ((((gl 96) l4.toNatClampNeg) * ((((g 76) 53) : Int32).toInt64)) / (10 : Int64)))) l4.toNatClampNeg) * ((((10 : Int32) - ((g 76) 53)) : Int32).toInt64)) / (10 : Int64)), .int l4, .ref 96], Wd f fl g (va_up gl 96 (vp_updL (gl 96) ((l4 + (1 : Int32)).toNatClampNeg) (((gl 96) (l4 + (1 : Int32)).toNatClampNeg) + ((((gl 96) l4.toNatClampNeg) * ((((g 76) 53) : Int32).toInt64)) / (10 : Int64))))) hh v tx)) rfl ?_
    refine WP.of (fun _ _ => Ex.last hP_231 (w2 := Wd f fl g (va_up (va_up gl 96 (vp_updL (gl 96) ((l4 + (1 : Int32)).toNatClampNeg) (((gl 96) (l4 + (1 : Int32)).toNatClampNeg) + ((((gl 96) l4.toNatClampNeg) * ((((g 76) 53) : Int32).toInt64)) / (10 : Int64))))) 96 (vp_updL (vp_updL (gl 96) ((l4 + (1 : Int32)).toNatClampNeg) (((gl 96) (l4 + (1 : Int32)).toNatClampNeg) + ((((gl 96) l4.toNatClampNeg) * ((((g 76) 53) : Int32).toInt64)) / (10 : Int64)))) (l4.toNatClampNeg) ((((vp_updL (gl 96) ((l4 + (1 : Int32)).toNatClampNeg) (((gl 96) (l4 + (1 : Int32)).toNatClampNeg) + ((((gl 96) l4.toNatClampNeg) * ((((g 76) 53) : Int32).toInt64)) / (10 : Int64)))) l4.toNatClampNeg) * ((((10 : Int32) - ((g 76) 53)) : Int32).toInt64)) / (10 : Int64)))) hh v tx) rfl (Wa_96 _ _ _ _ _ _ _) h7.1 (Ws_96 _ _ _ _ _ _ _ _)) ?_
    have h8 := h7.2
    refine WP.run hP_231 2 (c' := (67, [some (.ref 74), some (.int l1), some (.int l2), some (.int l3), some (.int (l4 + (-1 : Int32))), none], [], Wd f fl g (va_up (va_up gl 96 (vp_updL (gl 96) ((l4 + (1 : Int32)).toNatClampNeg) (((gl 96) (l4 + (1 : Int32)).toNatClampNeg) + ((((gl 96) l4.toNatClampNeg) * ((((g 76) 53) : Int32).toInt64)) / (10 : Int64))))) 96 (vp_updL (vp_updL (gl 96) ((l4 + (1 : Int32)).toNatClampNeg) (((gl 96) (l4 + (1 : Int32)).toNatClampNeg) + ((((gl 96) l4.toNatClampNeg) * ((((g 76) 53) : Int32).toInt64)) / (10 : Int64)))) (l4.toNatClampNeg) ((((vp_updL (gl 96) ((l4 + (1 : Int32)).toNatClampNeg) (((gl 96) (l4 + (1 : Int32)).toNatClampNeg) + ((((gl 96) l4.toNatClampNeg) * ((((g 76) 53) : Int32).toInt64)) / (10 : Int64)))) l4.toNatClampNeg) * ((((10 : Int32) - ((g 76) 53)) : Int32).toInt64)) / (10 : Int64)))) hh v tx)) rfl ?_
    exact h8

set_option maxRecDepth 20000 in
theorem b_j_fill_257_54_0 (X : mm_X) (d : Nat) (f : Nat → Int32) (fl : Nat → Int64) (g : Nat → Nat → Int32) (gl : Nat → Nat → Int64) (hh : Nat → Nat → Option Nat) (v : Nat → Value) (tx : mm_W) (p0 : Int64)  (P : Option Value → mm_W → Prop)
    (h : WP X (d) 257 (6, [some (.ref 54), some (.long p0), none, some (.int 0), some (.int 21)], [], Wd f fl g gl hh v tx) P) :
    WP X (d) 257 (0, [some (.ref 54), some (.long p0), none, none, none], [], Wd f fl g gl hh v tx) P := by
  refine WP.run hP_257 4 (c' := (4, [some (.ref 54), some (.long p0), none, some (.int 0), none], [.int 21], Wd f fl g gl hh v tx)) rfl ?_
  refine WP.run hP_257 1 (c' := (6, [some (.ref 54), some (.long p0), none, some (.int 0), some (.int 21)], [], Wd f fl g gl hh v tx)) rfl ?_
  exact h

set_option maxRecDepth 20000 in
theorem b_j_fill_257_54_6 (X : mm_X) (d : Nat) (f : Nat → Int32) (fl : Nat → Int64) (g : Nat → Nat → Int32) (gl : Nat → Nat → Int64) (hh : Nat → Nat → Option Nat) (v : Nat → Value) (tx : mm_W) (l1 : Int64) (l3 : Int32) (l4 : Int32)  (P : Option Value → mm_W → Prop)
    (h : ((l4 ≤ l3) → P none (Wd f fl g gl hh v tx)) ∧
    ((¬ (l4 ≤ l3)) → ((¬ (l3 < 0 ∨ 21 ≤ l3.toNatClampNeg)) ∧ WP X (d) 257 (6, [some (.ref 54), some (.long l1), none, some (.int (l3 + (1 : Int32))), some (.int l4)], [], Wd f fl g (va_up gl 54 (vp_updL (gl 54) (l3.toNatClampNeg) l1)) hh v tx) P))) :
    WP X (d) 257 (6, [some (.ref 54), some (.long l1), none, some (.int l3), some (.int l4)], [], Wd f fl g gl hh v tx) P := by
  refine WP.run hP_257 2 (c' := (9, [some (.ref 54), some (.long l1), none, some (.int l3), some (.int l4)], [.int l4, .int l3], Wd f fl g gl hh v tx)) rfl ?_
  refine WP.br hP_257 (q := l4 ≤ l3) (t := 22) (f := 12) (L := [some (.ref 54), some (.long l1), none, some (.int l3), some (.int l4)]) (st := []) (w := Wd f fl g gl hh v tx) rfl (fun c1 => ?_) (fun c1 => ?_)
  · have h2 := h.1 c1
    exact WP.ret hP_257 (r := none) (w' := Wd f fl g gl hh v tx) rfl h2
  · have h3 := h.2 c1
    refine WP.run hP_257 3 (c' := (15, [some (.ref 54), some (.long l1), none, some (.int l3), some (.int l4)], [.long l1, .int l3, .ref 54], Wd f fl g gl hh v tx)) rfl ?_
    refine WP.of (fun _ _ => Ex.last hP_257 (w2 := Wd f fl g (va_up gl 54 (vp_updL (gl 54) (l3.toNatClampNeg) l1)) hh v tx) rfl (Wa_54 _ _ _ _ _ _ _) h3.1 (Ws_54 _ _ _ _ _ _ _ _)) ?_
    have h4 := h3.2
    refine WP.run hP_257 2 (c' := (6, [some (.ref 54), some (.long l1), none, some (.int (l3 + (1 : Int32))), some (.int l4)], [], Wd f fl g (va_up gl 54 (vp_updL (gl 54) (l3.toNatClampNeg) l1)) hh v tx)) rfl ?_
    exact h4
