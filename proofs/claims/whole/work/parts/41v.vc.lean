set_option maxRecDepth 20000 in
theorem b_yca_priceFrom_38_19_0 (X : mm_X) (d : Nat) (f : Nat → Int32) (fl : Nat → Int64) (g : Nat → Nat → Int32) (gl : Nat → Nat → Int64) (hh : Nat → Nat → Option Nat) (v : Nat → Value) (tx : mm_W) (p0 : Int32) (p1 : Int32) (p2 : Int32)  (P : Option Value → mm_W → Prop)
    (h : WP X (d) 48 (0, [some (.ref 19), some (.int p0), some (.int p1), none, none], [], Wd f fl g gl hh v tx) (fun rv w2 => WP X (d + 1) 9 (6, [some (.ref 38), some (.ref 19), some (.int p0), some (.int p1), some (.int p2), none, none], rv.toList ++ [], w2) P)) :
    WP X (d + 1) 9 (0, [some (.ref 38), some (.ref 19), some (.int p0), some (.int p1), some (.int p2), none, none], [], Wd f fl g gl hh v tx) P := by
  refine WP.run hP_9 3 (c' := (3, [some (.ref 38), some (.ref 19), some (.int p0), some (.int p1), some (.int p2), none, none], [.int p1, .int p0, .ref 19], Wd f fl g gl hh v tx)) rfl ?_
  refine WP.call hP_9 hP_48 (as := [.ref 19, .int p0, .int p1]) (pc' := 6) (L' := [some (.ref 38), some (.ref 19), some (.int p0), some (.int p1), some (.int p2), none, none]) (st' := []) (w1 := Wd f fl g gl hh v tx) rfl ⟨Nat.le_of_ble_eq_true rfl, Nat.le_of_ble_eq_true rfl⟩ rfl ?_
  exact h

set_option maxRecDepth 20000 in
theorem b_yca_priceFrom_38_19_6 (X : mm_X) (d : Nat) (f : Nat → Int32) (fl : Nat → Int64) (g : Nat → Nat → Int32) (gl : Nat → Nat → Int64) (hh : Nat → Nat → Option Nat) (v : Nat → Value) (tx : mm_W) (l2 : Int32) (l3 : Int32) (l4 : Int32) (s0 : Int32)  (P : Option Value → mm_W → Prop)
    (h : ((1000000 ≤ s0) → P (some (.int 1000000)) (Wd f fl g gl hh v tx)) ∧
    ((¬ (1000000 ≤ s0)) → (((s0 ≤ 0) → (((l4 = 0) → ((¬ (l2 < 0 ∨ 8 ≤ l2.toNatClampNeg)) ∧ ((¬ (l2 < 0 ∨ 8 ≤ l2.toNatClampNeg)) ∧ ((¬ ((l3 + ((g 21) l2.toNatClampNeg)) < 0 ∨ 13 ≤ (l3 + ((g 21) l2.toNatClampNeg)).toNatClampNeg)) ∧ P (some (.int (if (((g 42) l2.toNatClampNeg) + ((g 43) (l3 + ((g 21) l2.toNatClampNeg)).toNatClampNeg)) < 1000000 then (((g 42) l2.toNatClampNeg) + ((g 43) (l3 + ((g 21) l2.toNatClampNeg)).toNatClampNeg)) else 1000000))) (Wd f fl g gl hh v tx))))) ∧
        ((¬ l4 = 0) → ((¬ (l2 < 0 ∨ 8 ≤ l2.toNatClampNeg)) ∧ ((¬ ((l3 + ((g 21) l2.toNatClampNeg)) < 0 ∨ 13 ≤ (l3 + ((g 21) l2.toNatClampNeg)).toNatClampNeg)) ∧ P (some (.int (if (s0 + ((g 43) (l3 + ((g 21) l2.toNatClampNeg)).toNatClampNeg)) < 1000000 then (s0 + ((g 43) (l3 + ((g 21) l2.toNatClampNeg)).toNatClampNeg)) else 1000000))) (Wd f fl g gl hh v tx)))))) ∧
      ((¬ (s0 ≤ 0)) → (((¬ l4 = 0) → (((l4 = 0) → ((¬ (l2 < 0 ∨ 8 ≤ l2.toNatClampNeg)) ∧ ((¬ (l2 < 0 ∨ 8 ≤ l2.toNatClampNeg)) ∧ ((¬ ((l3 + ((g 21) l2.toNatClampNeg)) < 0 ∨ 13 ≤ (l3 + ((g 21) l2.toNatClampNeg)).toNatClampNeg)) ∧ P (some (.int (if (((g 42) l2.toNatClampNeg) + ((g 43) (l3 + ((g 21) l2.toNatClampNeg)).toNatClampNeg)) < 1000000 then (((g 42) l2.toNatClampNeg) + ((g 43) (l3 + ((g 21) l2.toNatClampNeg)).toNatClampNeg)) else 1000000))) (Wd f fl g gl hh v tx))))) ∧
          ((¬ l4 = 0) → ((¬ (l2 < 0 ∨ 8 ≤ l2.toNatClampNeg)) ∧ ((¬ ((l3 + ((g 21) l2.toNatClampNeg)) < 0 ∨ 13 ≤ (l3 + ((g 21) l2.toNatClampNeg)).toNatClampNeg)) ∧ P (some (.int (if (s0 + ((g 43) (l3 + ((g 21) l2.toNatClampNeg)).toNatClampNeg)) < 1000000 then (s0 + ((g 43) (l3 + ((g 21) l2.toNatClampNeg)).toNatClampNeg)) else 1000000))) (Wd f fl g gl hh v tx)))))) ∧
        ((l4 = 0) → P (some (.int 1000000)) (Wd f fl g gl hh v tx))))))) :
    WP X (d) 9 (6, [some (.ref 38), some (.ref 19), some (.int l2), some (.int l3), some (.int l4), none, none], [.int s0], Wd f fl g gl hh v tx) P := by
  refine WP.run hP_9 3 (c' := (12, [some (.ref 38), some (.ref 19), some (.int l2), some (.int l3), some (.int l4), some (.int s0), none], [.int 1000000, .int s0], Wd f fl g gl hh v tx)) rfl ?_
  refine WP.br hP_9 (q := 1000000 ≤ s0) (t := 25) (f := 15) (L := [some (.ref 38), some (.ref 19), some (.int l2), some (.int l3), some (.int l4), some (.int s0), none]) (st := []) (w := Wd f fl g gl hh v tx) rfl (fun c1 => ?_) (fun c1 => ?_)
  · have h2 := h.1 c1
    refine WP.run hP_9 1 (c' := (27, [none, none, none, none, none, none, none], [.int 1000000], Wd f fl g gl hh v tx)) rfl ?_
    exact WP.retI hP_9 rfl rfl h2
  · have h3 := h.2 c1
    refine WP.run hP_9 1 (c' := (17, [some (.ref 38), some (.ref 19), some (.int l2), some (.int l3), some (.int l4), some (.int s0), none], [.int s0], Wd f fl g gl hh v tx)) rfl ?_
    refine WP.br hP_9 (q := s0 ≤ 0) (t := 28) (f := 20) (L := [some (.ref 38), some (.ref 19), some (.int l2), some (.int l3), some (.int l4), some (.int s0), none]) (st := []) (w := Wd f fl g gl hh v tx) rfl (fun c4 => ?_) (fun c4 => ?_)
    · have h5 := h3.1 c4
      refine WP.run hP_9 1 (c' := (30, [some (.ref 38), some (.ref 19), some (.int l2), some (.int l3), some (.int l4), some (.int s0), none], [.int l4], Wd f fl g gl hh v tx)) rfl ?_
      refine WP.br hP_9 (q := l4 = 0) (t := 38) (f := 33) (L := [some (.ref 38), some (.ref 19), some (.int l2), some (.int l3), some (.int l4), some (.int s0), none]) (st := []) (w := Wd f fl g gl hh v tx) rfl (fun c6 => ?_) (fun c6 => ?_)
      · have h7 := h5.1 c6
        refine WP.run hP_9 3 (c' := (43, [some (.ref 38), some (.ref 19), some (.int l2), some (.int l3), none, none, none], [.int l2, .ref 42], Wd f fl g gl hh v tx)) rfl ?_
        refine WP.of (fun _ _ => Ex.iald hP_9 rfl (Wa_42 _ _ _ _ _ _ _) h7.1) ?_
        have h8 := h7.2
        refine WP.run hP_9 9 (c' := (60, [some (.ref 38), some (.ref 19), some (.int l2), some (.int l3), none, none, some (.int ((g 42) l2.toNatClampNeg))], [.int l2, .ref 21, .int l3, .ref 43, .int ((g 42) l2.toNatClampNeg), .int 1000000], Wd f fl g gl hh v tx)) rfl ?_
        refine WP.of (fun _ _ => Ex.iald hP_9 rfl (Wa_21 _ _ _ _ _ _ _) h8.1) ?_
        have h9 := h8.2
        refine WP.run hP_9 1 (c' := (62, [some (.ref 38), some (.ref 19), some (.int l2), some (.int l3), none, none, some (.int ((g 42) l2.toNatClampNeg))], [.int (l3 + ((g 21) l2.toNatClampNeg)), .ref 43, .int ((g 42) l2.toNatClampNeg), .int 1000000], Wd f fl g gl hh v tx)) rfl ?_
        refine WP.of (fun _ _ => Ex.iald hP_9 rfl (Wa_43 _ _ _ _ _ _ _) h9.1) ?_
        have h10 := h9.2
        refine WP.run hP_9 2 (c' := (67, [some (.ref 38), some (.ref 19), some (.int l2), some (.int l3), none, none, some (.int ((g 42) l2.toNatClampNeg))], [.int (if (((g 42) l2.toNatClampNeg) + ((g 43) (l3 + ((g 21) l2.toNatClampNeg)).toNatClampNeg)) < 1000000 then (((g 42) l2.toNatClampNeg) + ((g 43) (l3 + ((g 21) l2.toNatClampNeg)).toNatClampNeg)) else 1000000)], Wd f fl g gl hh v tx)) rfl ?_
        exact WP.retI hP_9 rfl rfl h10
      · have h11 := h5.2 c6
        refine WP.run hP_9 11 (c' := (60, [some (.ref 38), some (.ref 19), some (.int l2), some (.int l3), none, none, some (.int s0)], [.int l2, .ref 21, .int l3, .ref 43, .int s0, .int 1000000], Wd f fl g gl hh v tx)) rfl ?_
        refine WP.of (fun _ _ => Ex.iald hP_9 rfl (Wa_21 _ _ _ _ _ _ _) h11.1) ?_
        have h12 := h11.2
        refine WP.run hP_9 1 (c' := (62, [some (.ref 38), some (.ref 19), some (.int l2), some (.int l3), none, none, some (.int s0)], [.int (l3 + ((g 21) l2.toNatClampNeg)), .ref 43, .int s0, .int 1000000], Wd f fl g gl hh v tx)) rfl ?_
        refine WP.of (fun _ _ => Ex.iald hP_9 rfl (Wa_43 _ _ _ _ _ _ _) h12.1) ?_
        have h13 := h12.2
        refine WP.run hP_9 2 (c' := (67, [some (.ref 38), some (.ref 19), some (.int l2), some (.int l3), none, none, some (.int s0)], [.int (if (s0 + ((g 43) (l3 + ((g 21) l2.toNatClampNeg)).toNatClampNeg)) < 1000000 then (s0 + ((g 43) (l3 + ((g 21) l2.toNatClampNeg)).toNatClampNeg)) else 1000000)], Wd f fl g gl hh v tx)) rfl ?_
        exact WP.retI hP_9 rfl rfl h13
    · have h14 := h3.2 c4
      refine WP.run hP_9 1 (c' := (22, [some (.ref 38), some (.ref 19), some (.int l2), some (.int l3), some (.int l4), some (.int s0), none], [.int l4], Wd f fl g gl hh v tx)) rfl ?_
      refine WP.br hP_9 (q := ¬ l4 = 0) (t := 28) (f := 25) (L := [some (.ref 38), some (.ref 19), some (.int l2), some (.int l3), some (.int l4), some (.int s0), none]) (st := []) (w := Wd f fl g gl hh v tx) rfl (fun c15 => ?_) (fun c15 => ?_)
      · have h16 := h14.1 c15
        refine WP.run hP_9 1 (c' := (30, [some (.ref 38), some (.ref 19), some (.int l2), some (.int l3), some (.int l4), some (.int s0), none], [.int l4], Wd f fl g gl hh v tx)) rfl ?_
        refine WP.br hP_9 (q := l4 = 0) (t := 38) (f := 33) (L := [some (.ref 38), some (.ref 19), some (.int l2), some (.int l3), some (.int l4), some (.int s0), none]) (st := []) (w := Wd f fl g gl hh v tx) rfl (fun c17 => ?_) (fun c17 => ?_)
        · have h18 := h16.1 c17
          refine WP.run hP_9 3 (c' := (43, [some (.ref 38), some (.ref 19), some (.int l2), some (.int l3), none, none, none], [.int l2, .ref 42], Wd f fl g gl hh v tx)) rfl ?_
          refine WP.of (fun _ _ => Ex.iald hP_9 rfl (Wa_42 _ _ _ _ _ _ _) h18.1) ?_
          have h19 := h18.2
          refine WP.run hP_9 9 (c' := (60, [some (.ref 38), some (.ref 19), some (.int l2), some (.int l3), none, none, some (.int ((g 42) l2.toNatClampNeg))], [.int l2, .ref 21, .int l3, .ref 43, .int ((g 42) l2.toNatClampNeg), .int 1000000], Wd f fl g gl hh v tx)) rfl ?_
          refine WP.of (fun _ _ => Ex.iald hP_9 rfl (Wa_21 _ _ _ _ _ _ _) h19.1) ?_
          have h20 := h19.2
          refine WP.run hP_9 1 (c' := (62, [some (.ref 38), some (.ref 19), some (.int l2), some (.int l3), none, none, some (.int ((g 42) l2.toNatClampNeg))], [.int (l3 + ((g 21) l2.toNatClampNeg)), .ref 43, .int ((g 42) l2.toNatClampNeg), .int 1000000], Wd f fl g gl hh v tx)) rfl ?_
          refine WP.of (fun _ _ => Ex.iald hP_9 rfl (Wa_43 _ _ _ _ _ _ _) h20.1) ?_
          have h21 := h20.2
          refine WP.run hP_9 2 (c' := (67, [some (.ref 38), some (.ref 19), some (.int l2), some (.int l3), none, none, some (.int ((g 42) l2.toNatClampNeg))], [.int (if (((g 42) l2.toNatClampNeg) + ((g 43) (l3 + ((g 21) l2.toNatClampNeg)).toNatClampNeg)) < 1000000 then (((g 42) l2.toNatClampNeg) + ((g 43) (l3 + ((g 21) l2.toNatClampNeg)).toNatClampNeg)) else 1000000)], Wd f fl g gl hh v tx)) rfl ?_
          exact WP.retI hP_9 rfl rfl h21
        · have h22 := h16.2 c17
          refine WP.run hP_9 11 (c' := (60, [some (.ref 38), some (.ref 19), some (.int l2), some (.int l3), none, none, some (.int s0)], [.int l2, .ref 21, .int l3, .ref 43, .int s0, .int 1000000], Wd f fl g gl hh v tx)) rfl ?_
          refine WP.of (fun _ _ => Ex.iald hP_9 rfl (Wa_21 _ _ _ _ _ _ _) h22.1) ?_
          have h23 := h22.2
          refine WP.run hP_9 1 (c' := (62, [some (.ref 38), some (.ref 19), some (.int l2), some (.int l3), none, none, some (.int s0)], [.int (l3 + ((g 21) l2.toNatClampNeg)), .ref 43, .int s0, .int 1000000], Wd f fl g gl hh v tx)) rfl ?_
          refine WP.of (fun _ _ => Ex.iald hP_9 rfl (Wa_43 _ _ _ _ _ _ _) h23.1) ?_
          have h24 := h23.2
          refine WP.run hP_9 2 (c' := (67, [some (.ref 38), some (.ref 19), some (.int l2), some (.int l3), none, none, some (.int s0)], [.int (if (s0 + ((g 43) (l3 + ((g 21) l2.toNatClampNeg)).toNatClampNeg)) < 1000000 then (s0 + ((g 43) (l3 + ((g 21) l2.toNatClampNeg)).toNatClampNeg)) else 1000000)], Wd f fl g gl hh v tx)) rfl ?_
          exact WP.retI hP_9 rfl rfl h24
      · have h25 := h14.2 (Classical.not_not.mp c15)
        refine WP.run hP_9 1 (c' := (27, [none, none, none, none, none, none, none], [.int 1000000], Wd f fl g gl hh v tx)) rfl ?_
        exact WP.retI hP_9 rfl rfl h25

set_option maxRecDepth 20000 in
theorem b_yca_pick_38_19_0 (X : mm_X) (d : Nat) (f : Nat → Int32) (fl : Nat → Int64) (g : Nat → Nat → Int32) (gl : Nat → Nat → Int64) (hh : Nat → Nat → Option Nat) (v : Nat → Value) (tx : mm_W) (p0 : Int32)  (P : Option Value → mm_W → Prop)
    (h : (¬ ((f 1222) < 0 ∨ 13 ≤ (f 1222).toNatClampNeg)) ∧ WP X (d) 8 (17, [some (.ref 38), some (.ref 19), some (.int p0), some (.int ((f 1222) - (1 : Int32))), none, none], [], Wd f fl (va_up g 43 (upd (g 43) ((f 1222).toNatClampNeg) 0)) gl hh v tx) P) :
    WP X (d) 8 (0, [some (.ref 38), some (.ref 19), some (.int p0), none, none, none], [], Wd f fl g gl hh v tx) P := by
  refine WP.run hP_8 5 (c' := (9, [some (.ref 38), some (.ref 19), some (.int p0), none, none, none], [.int 0, .int (f 1222), .ref 43], Wd f fl g gl hh v tx)) rfl ?_
  refine WP.of (fun _ _ => Ex.iast hP_8 (w2 := Wd f fl (va_up g 43 (upd (g 43) ((f 1222).toNatClampNeg) 0)) gl hh v tx) rfl (Wa_43 _ _ _ _ _ _ _) h.1 (Ws_43 _ _ _ _ _ _ _ _)) ?_
  have h1 := h.2
  refine WP.run hP_8 5 (c' := (17, [some (.ref 38), some (.ref 19), some (.int p0), some (.int ((f 1222) - (1 : Int32))), none, none], [], Wd f fl (va_up g 43 (upd (g 43) ((f 1222).toNatClampNeg) 0)) gl hh v tx)) rfl ?_
  exact h1

set_option maxRecDepth 20000 in
theorem b_yca_pick_38_19_17 (X : mm_X) (d : Nat) (f : Nat → Int32) (fl : Nat → Int64) (g : Nat → Nat → Int32) (gl : Nat → Nat → Int64) (hh : Nat → Nat → Option Nat) (v : Nat → Value) (tx : mm_W) (l2 : Int32) (l3 : Int32)  (P : Option Value → mm_W → Prop)
    (h : ((l3 < 0) → WP X (d) 8 (90, [some (.ref 38), some (.ref 19), some (.int l2), some (.int 0), none, none], [], Wd (va_up (va_up f 2438 ((g 43) 0)) 2437 0) fl g gl hh v tx) P) ∧
    ((¬ (l3 < 0)) → WP X (d) 8 (28, [some (.ref 38), some (.ref 19), some (.int l2), some (.int l3), some (.int 1000000), some (.int 0)], [], Wd f fl g gl hh v tx) P)) :
    WP X (d) 8 (17, [some (.ref 38), some (.ref 19), some (.int l2), some (.int l3), none, none], [], Wd f fl g gl hh v tx) P := by
  refine WP.run hP_8 1 (c' := (18, [some (.ref 38), some (.ref 19), some (.int l2), some (.int l3), none, none], [.int l3], Wd f fl g gl hh v tx)) rfl ?_
  refine WP.br hP_8 (q := l3 < 0) (t := 73) (f := 21) (L := [some (.ref 38), some (.ref 19), some (.int l2), some (.int l3), none, none]) (st := []) (w := Wd f fl g gl hh v tx) rfl (fun c1 => ?_) (fun c1 => ?_)
  · have h2 := h.1 c1
    refine WP.run hP_8 4 (c' := (79, [some (.ref 38), some (.ref 19), some (.int l2), none, none, none], [.int 0, .ref 43, .ref 38], Wd f fl g gl hh v tx)) rfl ?_
    refine WP.of (fun _ _ => Ex.iald hP_8 rfl (Wa_43 _ _ _ _ _ _ _) (by decide)) ?_
    show WP X _ 8 (80, [some (.ref 38), some (.ref 19), some (.int l2), none, none, none], [.int ((g 43) 0), .ref 38], Wd f fl g gl hh v tx) P
    refine WP.run hP_8 5 (c' := (89, [some (.ref 38), some (.ref 19), some (.int l2), none, none, none], [.int 0], Wd (va_up (va_up f 2438 ((g 43) 0)) 2437 0) fl g gl hh v tx)) rfl ?_
    refine WP.run hP_8 1 (c' := (90, [some (.ref 38), some (.ref 19), some (.int l2), some (.int 0), none, none], [], Wd (va_up (va_up f 2438 ((g 43) 0)) 2437 0) fl g gl hh v tx)) rfl ?_
    exact h2
  · have h3 := h.2 c1
    refine WP.run hP_8 3 (c' := (26, [some (.ref 38), some (.ref 19), some (.int l2), some (.int l3), some (.int 1000000), none], [.int 0], Wd f fl g gl hh v tx)) rfl ?_
    refine WP.run hP_8 1 (c' := (28, [some (.ref 38), some (.ref 19), some (.int l2), some (.int l3), some (.int 1000000), some (.int 0)], [], Wd f fl g gl hh v tx)) rfl ?_
    exact h3

set_option maxRecDepth 20000 in
theorem b_yca_pick_38_19_90 (X : mm_X) (d : Nat) (f : Nat → Int32) (fl : Nat → Int64) (g : Nat → Nat → Int32) (gl : Nat → Nat → Int64) (hh : Nat → Nat → Option Nat) (v : Nat → Value) (tx : mm_W) (l2 : Int32) (l3 : Int32)  (P : Option Value → mm_W → Prop)
    (h : ((1000000 ≤ (f 2438)) → (((1000000 ≤ (f 2438)) → P (some (.int 0)) (Wd f fl g gl hh v tx)) ∧
      ((¬ (1000000 ≤ (f 2438))) → P (some (.int 1)) (Wd f fl g gl hh v tx)))) ∧
    ((¬ (1000000 ≤ (f 2438))) → ((((f 1222) ≤ l3) → (((1000000 ≤ (f 2438)) → P (some (.int 0)) (Wd f fl g gl hh v tx)) ∧
        ((¬ (1000000 ≤ (f 2438))) → P (some (.int 1)) (Wd f fl g gl hh v tx)))) ∧
      ((¬ ((f 1222) ≤ l3)) → (((12 ≤ (f 2437)) → (((1000000 ≤ (f 2438)) → P (some (.int 0)) (Wd f fl g gl hh v tx)) ∧
          ((¬ (1000000 ≤ (f 2438))) → P (some (.int 1)) (Wd f fl g gl hh v tx)))) ∧
        ((¬ (12 ≤ (f 2437))) → WP X (d) 8 (119, [some (.ref 38), some (.ref 19), some (.int l2), some (.int l3), some (.int 0), none], [], Wd f fl g gl hh v tx) P)))))) :
    WP X (d) 8 (90, [some (.ref 38), some (.ref 19), some (.int l2), some (.int l3), none, none], [], Wd f fl g gl hh v tx) P := by
  refine WP.run hP_8 3 (c' := (96, [some (.ref 38), some (.ref 19), some (.int l2), some (.int l3), none, none], [.int 1000000, .int (f 2438)], Wd f fl g gl hh v tx)) rfl ?_
  refine WP.br hP_8 (q := 1000000 ≤ (f 2438)) (t := 192) (f := 99) (L := [some (.ref 38), some (.ref 19), some (.int l2), some (.int l3), none, none]) (st := []) (w := Wd f fl g gl hh v tx) rfl (fun c1 => ?_) (fun c1 => ?_)
  · have h2 := h.1 c1
    refine WP.run hP_8 3 (c' := (198, [some (.ref 38), none, none, none, none, none], [.int 1000000, .int (f 2438)], Wd f fl g gl hh v tx)) rfl ?_
    refine WP.br hP_8 (q := 1000000 ≤ (f 2438)) (t := 205) (f := 201) (L := [some (.ref 38), none, none, none, none, none]) (st := []) (w := Wd f fl g gl hh v tx) rfl (fun c3 => ?_) (fun c3 => ?_)
    · have h4 := h2.1 c3
      refine WP.run hP_8 1 (c' := (206, [none, none, none, none, none, none], [.int 0], Wd f fl g gl hh v tx)) rfl ?_
      exact WP.ret hP_8 (r := some (.int 0)) (w' := Wd f fl g gl hh v tx) rfl h4
    · have h5 := h2.2 c3
      refine WP.run hP_8 2 (c' := (206, [some (.ref 38), none, none, none, none, none], [.int 1], Wd f fl g gl hh v tx)) rfl ?_
      exact WP.ret hP_8 (r := some (.int 1)) (w' := Wd f fl g gl hh v tx) rfl h5
  · have h6 := h.2 c1
    refine WP.run hP_8 3 (c' := (104, [some (.ref 38), some (.ref 19), some (.int l2), some (.int l3), none, none], [.int (f 1222), .int l3], Wd f fl g gl hh v tx)) rfl ?_
    refine WP.br hP_8 (q := (f 1222) ≤ l3) (t := 192) (f := 107) (L := [some (.ref 38), some (.ref 19), some (.int l2), some (.int l3), none, none]) (st := []) (w := Wd f fl g gl hh v tx) rfl (fun c7 => ?_) (fun c7 => ?_)
    · have h8 := h6.1 c7
      refine WP.run hP_8 3 (c' := (198, [some (.ref 38), none, none, none, none, none], [.int 1000000, .int (f 2438)], Wd f fl g gl hh v tx)) rfl ?_
      refine WP.br hP_8 (q := 1000000 ≤ (f 2438)) (t := 205) (f := 201) (L := [some (.ref 38), none, none, none, none, none]) (st := []) (w := Wd f fl g gl hh v tx) rfl (fun c9 => ?_) (fun c9 => ?_)
      · have h10 := h8.1 c9
        refine WP.run hP_8 1 (c' := (206, [none, none, none, none, none, none], [.int 0], Wd f fl g gl hh v tx)) rfl ?_
        exact WP.ret hP_8 (r := some (.int 0)) (w' := Wd f fl g gl hh v tx) rfl h10
      · have h11 := h8.2 c9
        refine WP.run hP_8 2 (c' := (206, [some (.ref 38), none, none, none, none, none], [.int 1], Wd f fl g gl hh v tx)) rfl ?_
        exact WP.ret hP_8 (r := some (.int 1)) (w' := Wd f fl g gl hh v tx) rfl h11
    · have h12 := h6.2 c7
      refine WP.run hP_8 3 (c' := (113, [some (.ref 38), some (.ref 19), some (.int l2), some (.int l3), none, none], [.int 12, .int (f 2437)], Wd f fl g gl hh v tx)) rfl ?_
      refine WP.br hP_8 (q := 12 ≤ (f 2437)) (t := 192) (f := 116) (L := [some (.ref 38), some (.ref 19), some (.int l2), some (.int l3), none, none]) (st := []) (w := Wd f fl g gl hh v tx) rfl (fun c13 => ?_) (fun c13 => ?_)
      · have h14 := h12.1 c13
        refine WP.run hP_8 3 (c' := (198, [some (.ref 38), none, none, none, none, none], [.int 1000000, .int (f 2438)], Wd f fl g gl hh v tx)) rfl ?_
        refine WP.br hP_8 (q := 1000000 ≤ (f 2438)) (t := 205) (f := 201) (L := [some (.ref 38), none, none, none, none, none]) (st := []) (w := Wd f fl g gl hh v tx) rfl (fun c15 => ?_) (fun c15 => ?_)
        · have h16 := h14.1 c15
          refine WP.run hP_8 1 (c' := (206, [none, none, none, none, none, none], [.int 0], Wd f fl g gl hh v tx)) rfl ?_
          exact WP.ret hP_8 (r := some (.int 0)) (w' := Wd f fl g gl hh v tx) rfl h16
        · have h17 := h14.2 c15
          refine WP.run hP_8 2 (c' := (206, [some (.ref 38), none, none, none, none, none], [.int 1], Wd f fl g gl hh v tx)) rfl ?_
          exact WP.ret hP_8 (r := some (.int 1)) (w' := Wd f fl g gl hh v tx) rfl h17
      · have h18 := h12.2 c13
        refine WP.run hP_8 2 (c' := (119, [some (.ref 38), some (.ref 19), some (.int l2), some (.int l3), some (.int 0), none], [], Wd f fl g gl hh v tx)) rfl ?_
        exact h18

set_option maxRecDepth 20000 in
theorem b_yca_pick_38_19_28 (X : mm_X) (d : Nat) (f : Nat → Int32) (fl : Nat → Int64) (g : Nat → Nat → Int32) (gl : Nat → Nat → Int64) (hh : Nat → Nat → Option Nat) (v : Nat → Value) (tx : mm_W) (l2 : Int32) (l3 : Int32) (l4 : Int32) (l5 : Int32)  (P : Option Value → mm_W → Prop)
    (h : (((f 1216) ≤ l5) → ((¬ (l3 < 0 ∨ 13 ≤ l3.toNatClampNeg)) ∧ WP X (d + 1) 8 (17, [some (.ref 38), some (.ref 19), some (.int l2), some (.int (l3 + (-1 : Int32))), none, none], [], Wd f fl (va_up g 43 (upd (g 43) (l3.toNatClampNeg) l4)) gl hh v tx) P)) ∧
    ((¬ ((f 1216) ≤ l5)) → WP X (d) 9 (0, [some (.ref 38), some (.ref 19), some (.int l5), some (.int l3), some (.int l2), none, none], [], Wd f fl g gl hh v tx) (fun rv w2 => WP X (d + 1) 8 (48, [some (.ref 38), some (.ref 19), some (.int l2), some (.int l3), some (.int l4), some (.int l5)], rv.toList ++ [.int l4], w2) P))) :
    WP X (d + 1) 8 (28, [some (.ref 38), some (.ref 19), some (.int l2), some (.int l3), some (.int l4), some (.int l5)], [], Wd f fl g gl hh v tx) P := by
  refine WP.run hP_8 3 (c' := (34, [some (.ref 38), some (.ref 19), some (.int l2), some (.int l3), some (.int l4), some (.int l5)], [.int (f 1216), .int l5], Wd f fl g gl hh v tx)) rfl ?_
  refine WP.br hP_8 (q := (f 1216) ≤ l5) (t := 59) (f := 37) (L := [some (.ref 38), some (.ref 19), some (.int l2), some (.int l3), some (.int l4), some (.int l5)]) (st := []) (w := Wd f fl g gl hh v tx) rfl (fun c1 => ?_) (fun c1 => ?_)
  · have h2 := h.1 c1
    refine WP.run hP_8 4 (c' := (66, [some (.ref 38), some (.ref 19), some (.int l2), some (.int l3), some (.int l4), none], [.int l4, .int l3, .ref 43], Wd f fl g gl hh v tx)) rfl ?_
    refine WP.of (fun _ _ => Ex.iast hP_8 (w2 := Wd f fl (va_up g 43 (upd (g 43) (l3.toNatClampNeg) l4)) gl hh v tx) rfl (Wa_43 _ _ _ _ _ _ _) h2.1 (Ws_43 _ _ _ _ _ _ _ _)) ?_
    have h3 := h2.2
    refine WP.run hP_8 2 (c' := (17, [some (.ref 38), some (.ref 19), some (.int l2), some (.int (l3 + (-1 : Int32))), some (.int l4), none], [], Wd f fl (va_up g 43 (upd (g 43) (l3.toNatClampNeg) l4)) gl hh v tx)) rfl ?_
    refine WP.clr hP_8 (pc := 17) rfl ?_
    exact h3
  · have h4 := h.2 c1
    refine WP.run hP_8 6 (c' := (45, [some (.ref 38), some (.ref 19), some (.int l2), some (.int l3), some (.int l4), some (.int l5)], [.int l2, .int l3, .int l5, .ref 19, .ref 38, .int l4], Wd f fl g gl hh v tx)) rfl ?_
    refine WP.call hP_8 hP_9 (as := [.ref 38, .ref 19, .int l5, .int l3, .int l2]) (pc' := 48) (L' := [some (.ref 38), some (.ref 19), some (.int l2), some (.int l3), some (.int l4), some (.int l5)]) (st' := [.int l4]) (w1 := Wd f fl g gl hh v tx) rfl ⟨Nat.le_of_ble_eq_true rfl, Nat.le_of_ble_eq_true rfl⟩ rfl ?_
    exact h4

set_option maxRecDepth 20000 in
theorem b_yca_pick_38_19_119 (X : mm_X) (d : Nat) (f : Nat → Int32) (fl : Nat → Int64) (g : Nat → Nat → Int32) (gl : Nat → Nat → Int64) (hh : Nat → Nat → Option Nat) (v : Nat → Value) (tx : mm_W) (l2 : Int32) (l3 : Int32) (l4 : Int32)  (P : Option Value → mm_W → Prop)
    (h : ((((f 1216) - (1 : Int32)) ≤ l4) → ((¬ ((f 2437) < 0 ∨ 12 ≤ (f 2437).toNatClampNeg)) ∧ ((¬ (l4 < 0 ∨ 8 ≤ l4.toNatClampNeg)) ∧ WP X (d + 1) 8 (90, [some (.ref 38), some (.ref 19), some (.int l2), some (.int (l3 + (if 1 < ((g 21) l4.toNatClampNeg) then ((g 21) l4.toNatClampNeg) else 1))), none, none], [], Wd (va_up f 2437 ((f 2437) + (1 : Int32))) fl (va_up g 44 (upd (g 44) ((f 2437).toNatClampNeg) l4)) gl hh v tx) P))) ∧
    ((¬ (((f 1216) - (1 : Int32)) ≤ l4)) → WP X (d) 9 (0, [some (.ref 38), some (.ref 19), some (.int l4), some (.int l3), some (.int l2), none, none], [], Wd f fl g gl hh v tx) (fun rv w2 => WP X (d + 1) 8 (139, [some (.ref 38), some (.ref 19), some (.int l2), some (.int l3), some (.int l4), none], rv.toList ++ [], w2) P))) :
    WP X (d + 1) 8 (119, [some (.ref 38), some (.ref 19), some (.int l2), some (.int l3), some (.int l4), none], [], Wd f fl g gl hh v tx) P := by
  refine WP.run hP_8 5 (c' := (127, [some (.ref 38), some (.ref 19), some (.int l2), some (.int l3), some (.int l4), none], [.int ((f 1216) - (1 : Int32)), .int l4], Wd f fl g gl hh v tx)) rfl ?_
  refine WP.br hP_8 (q := ((f 1216) - (1 : Int32)) ≤ l4) (t := 154) (f := 130) (L := [some (.ref 38), some (.ref 19), some (.int l2), some (.int l3), some (.int l4), none]) (st := []) (w := Wd f fl g gl hh v tx) rfl (fun c1 => ?_) (fun c1 => ?_)
  · have h2 := h.1 c1
    refine WP.run hP_8 5 (c' := (164, [some (.ref 38), some (.ref 19), some (.int l2), some (.int l3), some (.int l4), none], [.int l4, .int (f 2437), .ref 44], Wd f fl g gl hh v tx)) rfl ?_
    refine WP.of (fun _ _ => Ex.iast hP_8 (w2 := Wd f fl (va_up g 44 (upd (g 44) ((f 2437).toNatClampNeg) l4)) gl hh v tx) rfl (Wa_44 _ _ _ _ _ _ _) h2.1 (Ws_44 _ _ _ _ _ _ _ _)) ?_
    have h3 := h2.2
    refine WP.run hP_8 11 (c' := (183, [some (.ref 38), some (.ref 19), some (.int l2), some (.int l3), some (.int l4), none], [.int l4, .ref 21, .int 1, .int l3], Wd (va_up f 2437 ((f 2437) + (1 : Int32))) fl (va_up g 44 (upd (g 44) ((f 2437).toNatClampNeg) l4)) gl hh v tx)) rfl ?_
    refine WP.of (fun _ _ => Ex.iald hP_8 rfl (Wa_21 _ _ _ _ _ _ _) h3.1) ?_
    have h4 := h3.2
    refine WP.run hP_8 4 (c' := (90, [some (.ref 38), some (.ref 19), some (.int l2), some (.int (l3 + (if 1 < ((g 21) l4.toNatClampNeg) then ((g 21) l4.toNatClampNeg) else 1))), some (.int l4), none], [], Wd (va_up f 2437 ((f 2437) + (1 : Int32))) fl (va_up g 44 (upd (g 44) ((f 2437).toNatClampNeg) l4)) gl hh v tx)) rfl ?_
    refine WP.clr hP_8 (pc := 90) rfl ?_
    exact h4
  · have h5 := h.2 c1
    refine WP.run hP_8 5 (c' := (136, [some (.ref 38), some (.ref 19), some (.int l2), some (.int l3), some (.int l4), none], [.int l2, .int l3, .int l4, .ref 19, .ref 38], Wd f fl g gl hh v tx)) rfl ?_
    refine WP.call hP_8 hP_9 (as := [.ref 38, .ref 19, .int l4, .int l3, .int l2]) (pc' := 139) (L' := [some (.ref 38), some (.ref 19), some (.int l2), some (.int l3), some (.int l4), none]) (st' := []) (w1 := Wd f fl g gl hh v tx) rfl ⟨Nat.le_of_ble_eq_true rfl, Nat.le_of_ble_eq_true rfl⟩ rfl ?_
    exact h5

set_option maxRecDepth 20000 in
theorem b_yca_pick_38_19_48 (X : mm_X) (d : Nat) (f : Nat → Int32) (fl : Nat → Int64) (g : Nat → Nat → Int32) (gl : Nat → Nat → Int64) (hh : Nat → Nat → Option Nat) (v : Nat → Value) (tx : mm_W) (l2 : Int32) (l3 : Int32) (l4 : Int32) (l5 : Int32) (s0 : Int32) (s1 : Int32)  (P : Option Value → mm_W → Prop)
    (h : WP X (d) 8 (28, [some (.ref 38), some (.ref 19), some (.int l2), some (.int l3), some (.int (if s0 < s1 then s0 else s1)), some (.int (l5 + (1 : Int32)))], [], Wd f fl g gl hh v tx) P) :
    WP X (d) 8 (48, [some (.ref 38), some (.ref 19), some (.int l2), some (.int l3), some (.int l4), some (.int l5)], [.int s0, .int s1], Wd f fl g gl hh v tx) P := by
  refine WP.run hP_8 2 (c' := (53, [some (.ref 38), some (.ref 19), some (.int l2), some (.int l3), some (.int (if s0 < s1 then s0 else s1)), some (.int l5)], [], Wd f fl g gl hh v tx)) rfl ?_
  refine WP.run hP_8 2 (c' := (28, [some (.ref 38), some (.ref 19), some (.int l2), some (.int l3), some (.int (if s0 < s1 then s0 else s1)), some (.int (l5 + (1 : Int32)))], [], Wd f fl g gl hh v tx)) rfl ?_
  exact h

set_option maxRecDepth 20000 in
theorem b_yca_pick_38_19_139 (X : mm_X) (d : Nat) (f : Nat → Int32) (fl : Nat → Int64) (g : Nat → Nat → Int32) (gl : Nat → Nat → Int64) (hh : Nat → Nat → Option Nat) (v : Nat → Value) (tx : mm_W) (l2 : Int32) (l3 : Int32) (l4 : Int32) (s0 : Int32)  (P : Option Value → mm_W → Prop)
    (h : (¬ (l3 < 0 ∨ 13 ≤ l3.toNatClampNeg)) ∧ (((s0 = ((g 43) l3.toNatClampNeg)) → ((¬ ((f 2437) < 0 ∨ 12 ≤ (f 2437).toNatClampNeg)) ∧ ((¬ (l4 < 0 ∨ 8 ≤ l4.toNatClampNeg)) ∧ WP X (d) 8 (90, [some (.ref 38), some (.ref 19), some (.int l2), some (.int (l3 + (if 1 < ((g 21) l4.toNatClampNeg) then ((g 21) l4.toNatClampNeg) else 1))), none, none], [], Wd (va_up f 2437 ((f 2437) + (1 : Int32))) fl (va_up g 44 (upd (g 44) ((f 2437).toNatClampNeg) l4)) gl hh v tx) P))) ∧
    ((¬ s0 = ((g 43) l3.toNatClampNeg)) → WP X (d) 8 (119, [some (.ref 38), some (.ref 19), some (.int l2), some (.int l3), some (.int (l4 + (1 : Int32))), none], [], Wd f fl g gl hh v tx) P))) :
    WP X (d) 8 (139, [some (.ref 38), some (.ref 19), some (.int l2), some (.int l3), some (.int l4), none], [.int s0], Wd f fl g gl hh v tx) P := by
  refine WP.run hP_8 3 (c' := (144, [some (.ref 38), some (.ref 19), some (.int l2), some (.int l3), some (.int l4), none], [.int l3, .ref 43, .int s0], Wd f fl g gl hh v tx)) rfl ?_
  refine WP.of (fun _ _ => Ex.iald hP_8 rfl (Wa_43 _ _ _ _ _ _ _) h.1) ?_
  have h1 := h.2
  refine WP.br hP_8 (q := s0 = ((g 43) l3.toNatClampNeg)) (t := 154) (f := 148) (L := [some (.ref 38), some (.ref 19), some (.int l2), some (.int l3), some (.int l4), none]) (st := []) (w := Wd f fl g gl hh v tx) rfl (fun c2 => ?_) (fun c2 => ?_)
  · have h3 := h1.1 c2
    refine WP.run hP_8 5 (c' := (164, [some (.ref 38), some (.ref 19), some (.int l2), some (.int l3), some (.int l4), none], [.int l4, .int (f 2437), .ref 44], Wd f fl g gl hh v tx)) rfl ?_
    refine WP.of (fun _ _ => Ex.iast hP_8 (w2 := Wd f fl (va_up g 44 (upd (g 44) ((f 2437).toNatClampNeg) l4)) gl hh v tx) rfl (Wa_44 _ _ _ _ _ _ _) h3.1 (Ws_44 _ _ _ _ _ _ _ _)) ?_
    have h4 := h3.2
    refine WP.run hP_8 11 (c' := (183, [some (.ref 38), some (.ref 19), some (.int l2), some (.int l3), some (.int l4), none], [.int l4, .ref 21, .int 1, .int l3], Wd (va_up f 2437 ((f 2437) + (1 : Int32))) fl (va_up g 44 (upd (g 44) ((f 2437).toNatClampNeg) l4)) gl hh v tx)) rfl ?_
    refine WP.of (fun _ _ => Ex.iald hP_8 rfl (Wa_21 _ _ _ _ _ _ _) h4.1) ?_
    have h5 := h4.2
    refine WP.run hP_8 4 (c' := (90, [some (.ref 38), some (.ref 19), some (.int l2), some (.int (l3 + (if 1 < ((g 21) l4.toNatClampNeg) then ((g 21) l4.toNatClampNeg) else 1))), some (.int l4), none], [], Wd (va_up f 2437 ((f 2437) + (1 : Int32))) fl (va_up g 44 (upd (g 44) ((f 2437).toNatClampNeg) l4)) gl hh v tx)) rfl ?_
    refine WP.clr hP_8 (pc := 90) rfl ?_
    exact h5
  · have h6 := h1.2 c2
    refine WP.run hP_8 2 (c' := (119, [some (.ref 38), some (.ref 19), some (.int l2), some (.int l3), some (.int (l4 + (1 : Int32))), none], [], Wd f fl g gl hh v tx)) rfl ?_
    exact h6
