set_option maxRecDepth 20000 in
theorem b_yco_arrive_45_0 (X : mm_X) (d : Nat) (f : Nat → Int32) (fl : Nat → Int64) (g : Nat → Nat → Int32) (gl : Nat → Nat → Int64) (hh : Nat → Nat → Option Nat) (v : Nat → Value) (tx : mm_W) (p0 : Int32) (p1 : Int32)  (P : Option Value → mm_W → Prop)
    (h : (¬ (p0 < 0 ∨ 1000 ≤ p0.toNatClampNeg)) ∧ (((¬ ((g 46) p0.toNatClampNeg) = (-1)) → P (some (.int (p0 / (40 : Int32)))) (Wd f fl g gl hh v tx)) ∧
    ((((g 46) p0.toNatClampNeg) = (-1)) → (((1000 ≤ (f 2882)) → P (some (.int (p0 / (40 : Int32)))) (Wd f fl g gl hh v tx)) ∧
      ((¬ (1000 ≤ (f 2882))) → ((¬ (p0 < 0 ∨ 1000 ≤ p0.toNatClampNeg)) ∧ ((¬ ((f 2882) < 0 ∨ 1000 ≤ (f 2882).toNatClampNeg)) ∧ P (some (.int (p0 / (40 : Int32)))) (Wd (va_up f 2882 ((f 2882) + (1 : Int32))) fl (va_up (va_up g 46 (upd (g 46) (p0.toNatClampNeg) p1)) 47 (upd (g 47) ((f 2882).toNatClampNeg) p0)) gl hh v tx)))))))) :
    WP X (d + 1) 23 (0, [some (.ref 45), some (.int p0), some (.int p1)], [], Wd f fl g gl hh v tx) P := by
  refine WP.run hP_23 3 (c' := (5, [some (.ref 45), some (.int p0), some (.int p1)], [.int p0, .ref 46], Wd f fl g gl hh v tx)) rfl ?_
  refine WP.of (fun _ _ => Ex.iald hP_23 rfl (Wa_46 _ _ _ _ _ _ _) h.1) ?_
  have h1 := h.2
  refine WP.run hP_23 1 (c' := (7, [some (.ref 45), some (.int p0), some (.int p1)], [.int (-1), .int ((g 46) p0.toNatClampNeg)], Wd f fl g gl hh v tx)) rfl ?_
  refine WP.br hP_23 (q := ¬ ((g 46) p0.toNatClampNeg) = (-1)) (t := 47) (f := 10) (L := [some (.ref 45), some (.int p0), some (.int p1)]) (st := []) (w := Wd f fl g gl hh v tx) rfl (fun c2 => ?_) (fun c2 => ?_)
  · have h3 := h1.1 c2
    refine WP.run hP_23 1 (c' := (48, [none, some (.int p0), none], [.int p0], Wd f fl g gl hh v tx)) rfl ?_
    refine WP.call hP_23 hP_110 (as := [.int p0]) (pc' := 51) (L' := [none, some (.int p0), none]) (st' := []) (w1 := Wd f fl g gl hh v tx) rfl ⟨Nat.le_of_ble_eq_true rfl, Nat.le_of_ble_eq_true rfl⟩ rfl (b_x_cellOf_0 X (d) f fl g gl hh v tx p0 _ ?_)
    exact WP.retI hP_23 rfl rfl h3
  · have h4 := h1.2 (Classical.not_not.mp c2)
    refine WP.run hP_23 3 (c' := (17, [some (.ref 45), some (.int p0), some (.int p1)], [.int 1000, .int (f 2882)], Wd f fl g gl hh v tx)) rfl ?_
    refine WP.br hP_23 (q := 1000 ≤ (f 2882)) (t := 47) (f := 20) (L := [some (.ref 45), some (.int p0), some (.int p1)]) (st := []) (w := Wd f fl g gl hh v tx) rfl (fun c5 => ?_) (fun c5 => ?_)
    · have h6 := h4.1 c5
      refine WP.run hP_23 1 (c' := (48, [none, some (.int p0), none], [.int p0], Wd f fl g gl hh v tx)) rfl ?_
      refine WP.call hP_23 hP_110 (as := [.int p0]) (pc' := 51) (L' := [none, some (.int p0), none]) (st' := []) (w1 := Wd f fl g gl hh v tx) rfl ⟨Nat.le_of_ble_eq_true rfl, Nat.le_of_ble_eq_true rfl⟩ rfl (b_x_cellOf_0 X (d) f fl g gl hh v tx p0 _ ?_)
      exact WP.retI hP_23 rfl rfl h6
    · have h7 := h4.2 c5
      refine WP.run hP_23 4 (c' := (26, [some (.ref 45), some (.int p0), some (.int p1)], [.int p1, .int p0, .ref 46], Wd f fl g gl hh v tx)) rfl ?_
      refine WP.of (fun _ _ => Ex.iast hP_23 (w2 := Wd f fl (va_up g 46 (upd (g 46) (p0.toNatClampNeg) p1)) gl hh v tx) rfl (Wa_46 _ _ _ _ _ _ _) h7.1 (Ws_46 _ _ _ _ _ _ _ _)) ?_
      have h8 := h7.2
      refine WP.run hP_23 5 (c' := (36, [some (.ref 45), some (.int p0), some (.int p1)], [.int p0, .int (f 2882), .ref 47], Wd f fl (va_up g 46 (upd (g 46) (p0.toNatClampNeg) p1)) gl hh v tx)) rfl ?_
      refine WP.of (fun _ _ => Ex.iast hP_23 (w2 := Wd f fl (va_up (va_up g 46 (upd (g 46) (p0.toNatClampNeg) p1)) 47 (upd (g 47) ((f 2882).toNatClampNeg) p0)) gl hh v tx) rfl (Wa_47 _ _ _ _ _ _ _) h8.1 (Ws_47 _ _ _ _ _ _ _ _)) ?_
      have h9 := h8.2
      refine WP.run hP_23 7 (c' := (48, [none, some (.int p0), none], [.int p0], Wd (va_up f 2882 ((f 2882) + (1 : Int32))) fl (va_up (va_up g 46 (upd (g 46) (p0.toNatClampNeg) p1)) 47 (upd (g 47) ((f 2882).toNatClampNeg) p0)) gl hh v tx)) rfl ?_
      refine WP.call hP_23 hP_110 (as := [.int p0]) (pc' := 51) (L' := [none, some (.int p0), none]) (st' := []) (w1 := Wd (va_up f 2882 ((f 2882) + (1 : Int32))) fl (va_up (va_up g 46 (upd (g 46) (p0.toNatClampNeg) p1)) 47 (upd (g 47) ((f 2882).toNatClampNeg) p0)) gl hh v tx) rfl ⟨Nat.le_of_ble_eq_true rfl, Nat.le_of_ble_eq_true rfl⟩ rfl (b_x_cellOf_0 X (d) (va_up f 2882 ((f 2882) + (1 : Int32))) fl (va_up (va_up g 46 (upd (g 46) (p0.toNatClampNeg) p1)) 47 (upd (g 47) ((f 2882).toNatClampNeg) p0)) gl hh v tx p0 _ ?_)
      exact WP.retI hP_23 rfl rfl h9

set_option maxRecDepth 20000 in
theorem b_yco_next_45_0 (X : mm_X) (d : Nat) (f : Nat → Int32) (fl : Nat → Int64) (g : Nat → Nat → Int32) (gl : Nat → Nat → Int64) (hh : Nat → Nat → Option Nat) (v : Nat → Value) (tx : mm_W) (p0 : Int32) (p1 : Int32)  (P : Option Value → mm_W → Prop)
    (h : (¬ ((((p0 / (40 : Int32)) * (10 : Int32)) + (p0 - (p0 / (10 : Int32)) * (10 : Int32))) < 0 ∨ 250 ≤ (((p0 / (40 : Int32)) * (10 : Int32)) + (p0 - (p0 / (10 : Int32)) * (10 : Int32))).toNatClampNeg)) ∧ (((((g 49) (((p0 / (40 : Int32)) * (10 : Int32)) + (p0 - (p0 / (10 : Int32)) * (10 : Int32))).toNatClampNeg) = (-1)) → P (some (.int p0)) (Wd f fl g gl hh v tx)) ∧
    ((¬ ((g 49) (((p0 / (40 : Int32)) * (10 : Int32)) + (p0 - (p0 / (10 : Int32)) * (10 : Int32))).toNatClampNeg) = (-1)) → (((¬ (((((g 49) (((p0 / (40 : Int32)) * (10 : Int32)) + (p0 - (p0 / (10 : Int32)) * (10 : Int32))).toNatClampNeg) >>> (p1 &&& (31 : Int32))) : Int32) &&& (1 : Int32)) = 1) → WP X (d) 114 (0, [some (.int p0), some (.int p1), some (.int ((((g 49) (((p0 / (40 : Int32)) * (10 : Int32)) + (p0 - (p0 / (10 : Int32)) * (10 : Int32))).toNatClampNeg) >>> ((6 : Int32) &&& (31 : Int32))) : Int32)), none], [], Wd f fl g gl hh v tx) (fun rv w2 => WP X (d + 1) 26 (43, [none, some (.int p0), some (.int p1), some (.int ((g 49) (((p0 / (40 : Int32)) * (10 : Int32)) + (p0 - (p0 / (10 : Int32)) * (10 : Int32))).toNatClampNeg))], rv.toList ++ [], w2) P)) ∧
      (((((((g 49) (((p0 / (40 : Int32)) * (10 : Int32)) + (p0 - (p0 / (10 : Int32)) * (10 : Int32))).toNatClampNeg) >>> (p1 &&& (31 : Int32))) : Int32) &&& (1 : Int32)) = 1) → P (some (.int p0)) (Wd f fl g gl hh v tx)))))) :
    WP X (d + 1) 26 (0, [some (.ref 45), some (.int p0), some (.int p1), none], [], Wd f fl g gl hh v tx) P := by
  refine WP.run hP_26 3 (c' := (5, [some (.ref 45), some (.int p0), some (.int p1), none], [.int p0, .ref 49], Wd f fl g gl hh v tx)) rfl ?_
  refine WP.call hP_26 hP_110 (as := [.int p0]) (pc' := 8) (L' := [some (.ref 45), some (.int p0), some (.int p1), none]) (st' := [.ref 49]) (w1 := Wd f fl g gl hh v tx) rfl ⟨Nat.le_of_ble_eq_true rfl, Nat.le_of_ble_eq_true rfl⟩ rfl (b_x_cellOf_0 X (d) f fl g gl hh v tx p0 _ ?_)
  refine WP.run hP_26 3 (c' := (12, [some (.ref 45), some (.int p0), some (.int p1), none], [.int p0, .int ((p0 / (40 : Int32)) * (10 : Int32)), .ref 49], Wd f fl g gl hh v tx)) rfl ?_
  refine WP.call hP_26 hP_112 (as := [.int p0]) (pc' := 15) (L' := [some (.ref 45), some (.int p0), some (.int p1), none]) (st' := [.int ((p0 / (40 : Int32)) * (10 : Int32)), .ref 49]) (w1 := Wd f fl g gl hh v tx) rfl ⟨Nat.le_of_ble_eq_true rfl, Nat.le_of_ble_eq_true rfl⟩ rfl (b_x_powderOf_0 X (d) f fl g gl hh v tx p0 _ ?_)
  refine WP.run hP_26 1 (c' := (16, [some (.ref 45), some (.int p0), some (.int p1), none], [.int (((p0 / (40 : Int32)) * (10 : Int32)) + (p0 - (p0 / (10 : Int32)) * (10 : Int32))), .ref 49], Wd f fl g gl hh v tx)) rfl ?_
  refine WP.of (fun _ _ => Ex.iald hP_26 rfl (Wa_49 _ _ _ _ _ _ _) h.1) ?_
  have h1 := h.2
  refine WP.run hP_26 3 (c' := (20, [some (.ref 45), some (.int p0), some (.int p1), some (.int ((g 49) (((p0 / (40 : Int32)) * (10 : Int32)) + (p0 - (p0 / (10 : Int32)) * (10 : Int32))).toNatClampNeg))], [.int (-1), .int ((g 49) (((p0 / (40 : Int32)) * (10 : Int32)) + (p0 - (p0 / (10 : Int32)) * (10 : Int32))).toNatClampNeg)], Wd f fl g gl hh v tx)) rfl ?_
  refine WP.br hP_26 (q := ((g 49) (((p0 / (40 : Int32)) * (10 : Int32)) + (p0 - (p0 / (10 : Int32)) * (10 : Int32))).toNatClampNeg) = (-1)) (t := 32) (f := 23) (L := [some (.ref 45), some (.int p0), some (.int p1), some (.int ((g 49) (((p0 / (40 : Int32)) * (10 : Int32)) + (p0 - (p0 / (10 : Int32)) * (10 : Int32))).toNatClampNeg))]) (st := []) (w := Wd f fl g gl hh v tx) rfl (fun c2 => ?_) (fun c2 => ?_)
  · have h3 := h1.1 c2
    refine WP.run hP_26 1 (c' := (33, [none, some (.int p0), none, none], [.int p0], Wd f fl g gl hh v tx)) rfl ?_
    exact WP.retI hP_26 rfl rfl h3
  · have h4 := h1.2 c2
    refine WP.run hP_26 6 (c' := (29, [some (.ref 45), some (.int p0), some (.int p1), some (.int ((g 49) (((p0 / (40 : Int32)) * (10 : Int32)) + (p0 - (p0 / (10 : Int32)) * (10 : Int32))).toNatClampNeg))], [.int 1, .int (((((g 49) (((p0 / (40 : Int32)) * (10 : Int32)) + (p0 - (p0 / (10 : Int32)) * (10 : Int32))).toNatClampNeg) >>> (p1 &&& (31 : Int32))) : Int32) &&& (1 : Int32))], Wd f fl g gl hh v tx)) rfl ?_
    refine WP.br hP_26 (q := ¬ (((((g 49) (((p0 / (40 : Int32)) * (10 : Int32)) + (p0 - (p0 / (10 : Int32)) * (10 : Int32))).toNatClampNeg) >>> (p1 &&& (31 : Int32))) : Int32) &&& (1 : Int32)) = 1) (t := 34) (f := 32) (L := [some (.ref 45), some (.int p0), some (.int p1), some (.int ((g 49) (((p0 / (40 : Int32)) * (10 : Int32)) + (p0 - (p0 / (10 : Int32)) * (10 : Int32))).toNatClampNeg))]) (st := []) (w := Wd f fl g gl hh v tx) rfl (fun c5 => ?_) (fun c5 => ?_)
    · have h6 := h4.1 c5
      refine WP.run hP_26 5 (c' := (40, [none, some (.int p0), some (.int p1), some (.int ((g 49) (((p0 / (40 : Int32)) * (10 : Int32)) + (p0 - (p0 / (10 : Int32)) * (10 : Int32))).toNatClampNeg))], [.int ((((g 49) (((p0 / (40 : Int32)) * (10 : Int32)) + (p0 - (p0 / (10 : Int32)) * (10 : Int32))).toNatClampNeg) >>> ((6 : Int32) &&& (31 : Int32))) : Int32), .int p1, .int p0], Wd f fl g gl hh v tx)) rfl ?_
      refine WP.call hP_26 hP_114 (as := [.int p0, .int p1, .int ((((g 49) (((p0 / (40 : Int32)) * (10 : Int32)) + (p0 - (p0 / (10 : Int32)) * (10 : Int32))).toNatClampNeg) >>> ((6 : Int32) &&& (31 : Int32))) : Int32)]) (pc' := 43) (L' := [none, some (.int p0), some (.int p1), some (.int ((g 49) (((p0 / (40 : Int32)) * (10 : Int32)) + (p0 - (p0 / (10 : Int32)) * (10 : Int32))).toNatClampNeg))]) (st' := []) (w1 := Wd f fl g gl hh v tx) rfl ⟨Nat.le_of_ble_eq_true rfl, Nat.le_of_ble_eq_true rfl⟩ rfl ?_
      exact h6
    · have h7 := h4.2 (Classical.not_not.mp c5)
      refine WP.run hP_26 1 (c' := (33, [none, some (.int p0), none, none], [.int p0], Wd f fl g gl hh v tx)) rfl ?_
      exact WP.retI hP_26 rfl rfl h7

set_option maxRecDepth 20000 in
theorem b_yco_next_45_43 (X : mm_X) (d : Nat) (f : Nat → Int32) (fl : Nat → Int64) (g : Nat → Nat → Int32) (gl : Nat → Nat → Int64) (hh : Nat → Nat → Option Nat) (v : Nat → Value) (tx : mm_W) (l1 : Int32) (l2 : Int32) (l3 : Int32) (s0 : Int32)  (P : Option Value → mm_W → Prop)
    (h : P (some (.int s0)) (Wd f fl g gl hh v tx)) :
    WP X (d) 26 (43, [none, some (.int l1), some (.int l2), some (.int l3)], [.int s0], Wd f fl g gl hh v tx) P := by
  exact WP.retI hP_26 rfl rfl h

set_option maxRecDepth 20000 in
theorem b_yco_leadingSign_45_1_0 (X : mm_X) (d : Nat) (f : Nat → Int32) (fl : Nat → Int64) (g : Nat → Nat → Int32) (gl : Nat → Nat → Int64) (hh : Nat → Nat → Option Nat) (v : Nat → Value) (tx : mm_W) (p0 : Int32)  (P : Option Value → mm_W → Prop)
    (h : WP X (d) 28 (2, [some (.ref 45), some (.ref 1), some (.int p0), some (.int 0)], [], Wd f fl g gl hh v tx) P) :
    WP X (d) 28 (0, [some (.ref 45), some (.ref 1), some (.int p0), none], [], Wd f fl g gl hh v tx) P := by
  refine WP.run hP_28 2 (c' := (2, [some (.ref 45), some (.ref 1), some (.int p0), some (.int 0)], [], Wd f fl g gl hh v tx)) rfl ?_
  exact h

set_option maxRecDepth 20000 in
theorem b_yco_leadingSign_45_1_2 (X : mm_X) (d : Nat) (f : Nat → Int32) (fl : Nat → Int64) (g : Nat → Nat → Int32) (gl : Nat → Nat → Int64) (hh : Nat → Nat → Option Nat) (v : Nat → Value) (tx : mm_W) (l2 : Int32) (l3 : Int32)  (P : Option Value → mm_W → Prop)
    (h : (((f 64) ≤ l3) → P (some (.int (-1))) (Wd f fl g gl hh v tx)) ∧
    ((¬ ((f 64) ≤ l3)) → ((¬ (l3 < 0 ∨ 8 ≤ l3.toNatClampNeg)) ∧ WP X (d) 26 (0, [some (.ref 45), some (.int l2), some (.int ((g 4) l3.toNatClampNeg)), none], [], Wd f fl g gl hh v tx) (fun rv w2 => WP X (d + 1) 28 (25, [some (.ref 45), some (.ref 1), some (.int l2), some (.int l3)], rv.toList ++ [.ref 46], w2) P)))) :
    WP X (d + 1) 28 (2, [some (.ref 45), some (.ref 1), some (.int l2), some (.int l3)], [], Wd f fl g gl hh v tx) P := by
  refine WP.run hP_28 3 (c' := (7, [some (.ref 45), some (.ref 1), some (.int l2), some (.int l3)], [.int (f 64), .int l3], Wd f fl g gl hh v tx)) rfl ?_
  refine WP.br hP_28 (q := (f 64) ≤ l3) (t := 50) (f := 10) (L := [some (.ref 45), some (.ref 1), some (.int l2), some (.int l3)]) (st := []) (w := Wd f fl g gl hh v tx) rfl (fun c1 => ?_) (fun c1 => ?_)
  · have h2 := h.1 c1
    refine WP.run hP_28 1 (c' := (51, [none, none, none, none], [.int (-1)], Wd f fl g gl hh v tx)) rfl ?_
    exact WP.retI hP_28 rfl rfl h2
  · have h3 := h.2 c1
    refine WP.run hP_28 7 (c' := (21, [some (.ref 45), some (.ref 1), some (.int l2), some (.int l3)], [.int l3, .ref 4, .int l2, .ref 45, .ref 46], Wd f fl g gl hh v tx)) rfl ?_
    refine WP.of (fun _ _ => Ex.iald hP_28 rfl (Wa_4 _ _ _ _ _ _ _) h3.1) ?_
    have h4 := h3.2
    refine WP.call hP_28 hP_26 (as := [.ref 45, .int l2, .int ((g 4) l3.toNatClampNeg)]) (pc' := 25) (L' := [some (.ref 45), some (.ref 1), some (.int l2), some (.int l3)]) (st' := [.ref 46]) (w1 := Wd f fl g gl hh v tx) rfl ⟨Nat.le_of_ble_eq_true rfl, Nat.le_of_ble_eq_true rfl⟩ rfl ?_
    exact h4

set_option maxRecDepth 20000 in
theorem b_yco_leadingSign_45_1_25 (X : mm_X) (d : Nat) (f : Nat → Int32) (fl : Nat → Int64) (g : Nat → Nat → Int32) (gl : Nat → Nat → Int64) (hh : Nat → Nat → Option Nat) (v : Nat → Value) (tx : mm_W) (l2 : Int32) (l3 : Int32) (s0 : Int32)  (P : Option Value → mm_W → Prop)
    (h : (¬ (s0 < 0 ∨ 1000 ≤ s0.toNatClampNeg)) ∧ ((¬ (l2 < 0 ∨ 1000 ≤ l2.toNatClampNeg)) ∧ ((¬ (l3 < 0 ∨ 8 ≤ l3.toNatClampNeg)) ∧ (((¬ ((g 46) s0.toNatClampNeg) = (((g 46) l2.toNatClampNeg) + ((g 3) l3.toNatClampNeg))) → WP X (d) 28 (2, [some (.ref 45), some (.ref 1), some (.int l2), some (.int (l3 + (1 : Int32)))], [], Wd f fl g gl hh v tx) P) ∧
    ((((g 46) s0.toNatClampNeg) = (((g 46) l2.toNatClampNeg) + ((g 3) l3.toNatClampNeg))) → P (some (.int l3)) (Wd f fl g gl hh v tx)))))) :
    WP X (d) 28 (25, [some (.ref 45), some (.ref 1), some (.int l2), some (.int l3)], [.int s0, .ref 46], Wd f fl g gl hh v tx) P := by
  refine WP.of (fun _ _ => Ex.iald hP_28 rfl (Wa_46 _ _ _ _ _ _ _) h.1) ?_
  have h1 := h.2
  refine WP.run hP_28 3 (c' := (31, [some (.ref 45), some (.ref 1), some (.int l2), some (.int l3)], [.int l2, .ref 46, .int ((g 46) s0.toNatClampNeg)], Wd f fl g gl hh v tx)) rfl ?_
  refine WP.of (fun _ _ => Ex.iald hP_28 rfl (Wa_46 _ _ _ _ _ _ _) h1.1) ?_
  have h2 := h1.2
  refine WP.run hP_28 3 (c' := (37, [some (.ref 45), some (.ref 1), some (.int l2), some (.int l3)], [.int l3, .ref 3, .int ((g 46) l2.toNatClampNeg), .int ((g 46) s0.toNatClampNeg)], Wd f fl g gl hh v tx)) rfl ?_
  refine WP.of (fun _ _ => Ex.iald hP_28 rfl (Wa_3 _ _ _ _ _ _ _) h2.1) ?_
  have h3 := h2.2
  refine WP.run hP_28 1 (c' := (39, [some (.ref 45), some (.ref 1), some (.int l2), some (.int l3)], [.int (((g 46) l2.toNatClampNeg) + ((g 3) l3.toNatClampNeg)), .int ((g 46) s0.toNatClampNeg)], Wd f fl g gl hh v tx)) rfl ?_
  refine WP.br hP_28 (q := ¬ ((g 46) s0.toNatClampNeg) = (((g 46) l2.toNatClampNeg) + ((g 3) l3.toNatClampNeg))) (t := 44) (f := 42) (L := [some (.ref 45), some (.ref 1), some (.int l2), some (.int l3)]) (st := []) (w := Wd f fl g gl hh v tx) rfl (fun c4 => ?_) (fun c4 => ?_)
  · have h5 := h3.1 c4
    refine WP.run hP_28 2 (c' := (2, [some (.ref 45), some (.ref 1), some (.int l2), some (.int (l3 + (1 : Int32)))], [], Wd f fl g gl hh v tx)) rfl ?_
    exact h5
  · have h6 := h3.2 (Classical.not_not.mp c4)
    refine WP.run hP_28 1 (c' := (43, [some (.ref 45), some (.ref 1), some (.int l2), some (.int l3)], [.int l3], Wd f fl g gl hh v tx)) rfl ?_
    exact WP.retI hP_28 rfl rfl h6

set_option maxRecDepth 20000 in
theorem b_yco_forgetAstray_45_1_0 (X : mm_X) (d : Nat) (f : Nat → Int32) (fl : Nat → Int64) (g : Nat → Nat → Int32) (gl : Nat → Nat → Int64) (hh : Nat → Nat → Option Nat) (v : Nat → Value) (tx : mm_W) (p0 : Int32) (p1 : Int32)  (P : Option Value → mm_W → Prop)
    (h : WP X (d) 27 (8, [some (.ref 45), some (.ref 1), some (.int p0), some (.int p1), some (.int ((f 2882) - (1 : Int32))), none, none], [], Wd f fl g gl hh v tx) P) :
    WP X (d) 27 (0, [some (.ref 45), some (.ref 1), some (.int p0), some (.int p1), none, none, none], [], Wd f fl g gl hh v tx) P := by
  refine WP.run hP_27 5 (c' := (8, [some (.ref 45), some (.ref 1), some (.int p0), some (.int p1), some (.int ((f 2882) - (1 : Int32))), none, none], [], Wd f fl g gl hh v tx)) rfl ?_
  exact h

set_option maxRecDepth 20000 in
theorem b_yco_forgetAstray_45_1_8 (X : mm_X) (d : Nat) (f : Nat → Int32) (fl : Nat → Int64) (g : Nat → Nat → Int32) (gl : Nat → Nat → Int64) (hh : Nat → Nat → Option Nat) (v : Nat → Value) (tx : mm_W) (l2 : Int32) (l3 : Int32) (l4 : Int32)  (P : Option Value → mm_W → Prop)
    (h : ((l4 < 0) → P none (Wd f fl g gl hh v tx)) ∧
    ((¬ (l4 < 0)) → ((¬ (l4 < 0 ∨ 1000 ≤ l4.toNatClampNeg)) ∧ ((¬ (((g 47) l4.toNatClampNeg) < 0 ∨ 1000 ≤ ((g 47) l4.toNatClampNeg).toNatClampNeg)) ∧ (((¬ ((g 46) ((g 47) l4.toNatClampNeg).toNatClampNeg) = l2) → WP X (d) 28 (0, [some (.ref 45), some (.ref 1), some (.int ((g 47) l4.toNatClampNeg)), none], [], Wd f fl g gl hh v tx) (fun rv w2 => WP X (d + 1) 27 (57, [some (.ref 45), some (.ref 1), some (.int l2), some (.int l3), some (.int l4), some (.int ((g 47) l4.toNatClampNeg)), none], rv.toList ++ [], w2) P)) ∧
      ((((g 46) ((g 47) l4.toNatClampNeg).toNatClampNeg) = l2) → (((¬ (((g 47) l4.toNatClampNeg) / (40 : Int32)) = l3) → ((¬ (((g 47) l4.toNatClampNeg) < 0 ∨ 1000 ≤ ((g 47) l4.toNatClampNeg).toNatClampNeg)) ∧ WP X (d + 1) 27 (8, [some (.ref 45), some (.ref 1), some (.int l2), some (.int l3), some (.int (l4 + (-1 : Int32))), none, none], [], Wd f fl (va_up g 46 (upd (g 46) (((g 47) l4.toNatClampNeg).toNatClampNeg) (-1))) gl hh v tx) P)) ∧
        (((((g 47) l4.toNatClampNeg) / (40 : Int32)) = l3) → ((¬ (((g 47) l4.toNatClampNeg) < 0 ∨ 1000 ≤ ((g 47) l4.toNatClampNeg).toNatClampNeg)) ∧ ((¬ (((g 47) l4.toNatClampNeg) < 0 ∨ 1000 ≤ ((g 47) l4.toNatClampNeg).toNatClampNeg)) ∧ WP X (d + 1) 27 (8, [some (.ref 45), some (.ref 1), some (.int l2), some (.int l3), some (.int (l4 + (-1 : Int32))), none, none], [], Wd f fl (va_up g 46 (upd (g 46) (((g 47) l4.toNatClampNeg).toNatClampNeg) ((g 46) ((g 47) l4.toNatClampNeg).toNatClampNeg))) gl hh v tx) P)))))))))) :
    WP X (d + 1) 27 (8, [some (.ref 45), some (.ref 1), some (.int l2), some (.int l3), some (.int l4), none, none], [], Wd f fl g gl hh v tx) P := by
  refine WP.run hP_27 1 (c' := (10, [some (.ref 45), some (.ref 1), some (.int l2), some (.int l3), some (.int l4), none, none], [.int l4], Wd f fl g gl hh v tx)) rfl ?_
  refine WP.br hP_27 (q := l4 < 0) (t := 97) (f := 13) (L := [some (.ref 45), some (.ref 1), some (.int l2), some (.int l3), some (.int l4), none, none]) (st := []) (w := Wd f fl g gl hh v tx) rfl (fun c1 => ?_) (fun c1 => ?_)
  · have h2 := h.1 c1
    exact WP.ret hP_27 (r := none) (w' := Wd f fl g gl hh v tx) rfl h2
  · have h3 := h.2 c1
    refine WP.run hP_27 3 (c' := (19, [some (.ref 45), some (.ref 1), some (.int l2), some (.int l3), some (.int l4), none, none], [.int l4, .ref 47], Wd f fl g gl hh v tx)) rfl ?_
    refine WP.of (fun _ _ => Ex.iald hP_27 rfl (Wa_47 _ _ _ _ _ _ _) h3.1) ?_
    have h4 := h3.2
    refine WP.run hP_27 4 (c' := (28, [some (.ref 45), some (.ref 1), some (.int l2), some (.int l3), some (.int l4), some (.int ((g 47) l4.toNatClampNeg)), none], [.int ((g 47) l4.toNatClampNeg), .ref 46], Wd f fl g gl hh v tx)) rfl ?_
    refine WP.of (fun _ _ => Ex.iald hP_27 rfl (Wa_46 _ _ _ _ _ _ _) h4.1) ?_
    have h5 := h4.2
    refine WP.run hP_27 1 (c' := (30, [some (.ref 45), some (.ref 1), some (.int l2), some (.int l3), some (.int l4), some (.int ((g 47) l4.toNatClampNeg)), none], [.int l2, .int ((g 46) ((g 47) l4.toNatClampNeg).toNatClampNeg)], Wd f fl g gl hh v tx)) rfl ?_
    refine WP.br hP_27 (q := ¬ ((g 46) ((g 47) l4.toNatClampNeg).toNatClampNeg) = l2) (t := 50) (f := 33) (L := [some (.ref 45), some (.ref 1), some (.int l2), some (.int l3), some (.int l4), some (.int ((g 47) l4.toNatClampNeg)), none]) (st := []) (w := Wd f fl g gl hh v tx) rfl (fun c6 => ?_) (fun c6 => ?_)
    · have h7 := h5.1 c6
      refine WP.run hP_27 3 (c' := (54, [some (.ref 45), some (.ref 1), some (.int l2), some (.int l3), some (.int l4), some (.int ((g 47) l4.toNatClampNeg)), none], [.int ((g 47) l4.toNatClampNeg), .ref 1, .ref 45], Wd f fl g gl hh v tx)) rfl ?_
      refine WP.call hP_27 hP_28 (as := [.ref 45, .ref 1, .int ((g 47) l4.toNatClampNeg)]) (pc' := 57) (L' := [some (.ref 45), some (.ref 1), some (.int l2), some (.int l3), some (.int l4), some (.int ((g 47) l4.toNatClampNeg)), none]) (st' := []) (w1 := Wd f fl g gl hh v tx) rfl ⟨Nat.le_of_ble_eq_true rfl, Nat.le_of_ble_eq_true rfl⟩ rfl ?_
      exact h7
    · have h8 := h5.2 (Classical.not_not.mp c6)
      refine WP.run hP_27 1 (c' := (35, [some (.ref 45), some (.ref 1), some (.int l2), some (.int l3), some (.int l4), some (.int ((g 47) l4.toNatClampNeg)), none], [.int ((g 47) l4.toNatClampNeg)], Wd f fl g gl hh v tx)) rfl ?_
      refine WP.call hP_27 hP_110 (as := [.int ((g 47) l4.toNatClampNeg)]) (pc' := 38) (L' := [some (.ref 45), some (.ref 1), some (.int l2), some (.int l3), some (.int l4), some (.int ((g 47) l4.toNatClampNeg)), none]) (st' := []) (w1 := Wd f fl g gl hh v tx) rfl ⟨Nat.le_of_ble_eq_true rfl, Nat.le_of_ble_eq_true rfl⟩ rfl (b_x_cellOf_0 X (d) f fl g gl hh v tx ((g 47) l4.toNatClampNeg) _ ?_)
      refine WP.run hP_27 1 (c' := (39, [some (.ref 45), some (.ref 1), some (.int l2), some (.int l3), some (.int l4), some (.int ((g 47) l4.toNatClampNeg)), none], [.int l3, .int (((g 47) l4.toNatClampNeg) / (40 : Int32))], Wd f fl g gl hh v tx)) rfl ?_
      refine WP.br hP_27 (q := ¬ (((g 47) l4.toNatClampNeg) / (40 : Int32)) = l3) (t := 46) (f := 42) (L := [some (.ref 45), some (.ref 1), some (.int l2), some (.int l3), some (.int l4), some (.int ((g 47) l4.toNatClampNeg)), none]) (st := []) (w := Wd f fl g gl hh v tx) rfl (fun c9 => ?_) (fun c9 => ?_)
      · have h10 := h8.1 c9
        refine WP.run hP_27 2 (c' := (66, [some (.ref 45), some (.ref 1), some (.int l2), some (.int l3), some (.int l4), some (.int ((g 47) l4.toNatClampNeg)), none], [.int 0], Wd f fl g gl hh v tx)) rfl ?_
        refine WP.run hP_27 6 (c' := (89, [some (.ref 45), some (.ref 1), some (.int l2), some (.int l3), some (.int l4), some (.int ((g 47) l4.toNatClampNeg)), some (.int 0)], [.int ((g 47) l4.toNatClampNeg), .ref 46], Wd f fl g gl hh v tx)) rfl ?_
        refine WP.run hP_27 1 (c' := (90, [some (.ref 45), some (.ref 1), some (.int l2), some (.int l3), some (.int l4), none, none], [.int (-1), .int ((g 47) l4.toNatClampNeg), .ref 46], Wd f fl g gl hh v tx)) rfl ?_
        refine WP.of (fun _ _ => Ex.iast hP_27 (w2 := Wd f fl (va_up g 46 (upd (g 46) (((g 47) l4.toNatClampNeg).toNatClampNeg) (-1))) gl hh v tx) rfl (Wa_46 _ _ _ _ _ _ _) h10.1 (Ws_46 _ _ _ _ _ _ _ _)) ?_
        have h11 := h10.2
        refine WP.run hP_27 2 (c' := (8, [some (.ref 45), some (.ref 1), some (.int l2), some (.int l3), some (.int (l4 + (-1 : Int32))), none, none], [], Wd f fl (va_up g 46 (upd (g 46) (((g 47) l4.toNatClampNeg).toNatClampNeg) (-1))) gl hh v tx)) rfl ?_
        exact h11
      · have h12 := h8.2 (Classical.not_not.mp c9)
        refine WP.run hP_27 11 (c' := (85, [some (.ref 45), some (.ref 1), some (.int l2), some (.int l3), some (.int l4), some (.int ((g 47) l4.toNatClampNeg)), some (.int 1)], [.int ((g 47) l4.toNatClampNeg), .ref 46, .int ((g 47) l4.toNatClampNeg), .ref 46], Wd f fl g gl hh v tx)) rfl ?_
        refine WP.of (fun _ _ => Ex.iald hP_27 rfl (Wa_46 _ _ _ _ _ _ _) h12.1) ?_
        have h13 := h12.2
        refine WP.run hP_27 1 (c' := (90, [some (.ref 45), some (.ref 1), some (.int l2), some (.int l3), some (.int l4), some (.int ((g 47) l4.toNatClampNeg)), some (.int 1)], [.int ((g 46) ((g 47) l4.toNatClampNeg).toNatClampNeg), .int ((g 47) l4.toNatClampNeg), .ref 46], Wd f fl g gl hh v tx)) rfl ?_
        refine WP.of (fun _ _ => Ex.iast hP_27 (w2 := Wd f fl (va_up g 46 (upd (g 46) (((g 47) l4.toNatClampNeg).toNatClampNeg) ((g 46) ((g 47) l4.toNatClampNeg).toNatClampNeg))) gl hh v tx) rfl (Wa_46 _ _ _ _ _ _ _) h13.1 (Ws_46 _ _ _ _ _ _ _ _)) ?_
        have h14 := h13.2
        refine WP.run hP_27 2 (c' := (8, [some (.ref 45), some (.ref 1), some (.int l2), some (.int l3), some (.int (l4 + (-1 : Int32))), none, none], [], Wd f fl (va_up g 46 (upd (g 46) (((g 47) l4.toNatClampNeg).toNatClampNeg) ((g 46) ((g 47) l4.toNatClampNeg).toNatClampNeg))) gl hh v tx)) rfl ?_
        exact h14

set_option maxRecDepth 20000 in
theorem b_yco_forgetAstray_45_1_57 (X : mm_X) (d : Nat) (f : Nat → Int32) (fl : Nat → Int64) (g : Nat → Nat → Int32) (gl : Nat → Nat → Int64) (hh : Nat → Nat → Option Nat) (v : Nat → Value) (tx : mm_W) (l2 : Int32) (l3 : Int32) (l4 : Int32) (l5 : Int32) (s0 : Int32)  (P : Option Value → mm_W → Prop)
    (h : ((s0 = (-1)) → ((¬ (l5 < 0 ∨ 1000 ≤ l5.toNatClampNeg)) ∧ WP X (d) 27 (8, [some (.ref 45), some (.ref 1), some (.int l2), some (.int l3), some (.int (l4 + (-1 : Int32))), none, none], [], Wd f fl (va_up g 46 (upd (g 46) (l5.toNatClampNeg) (-1))) gl hh v tx) P)) ∧
    ((¬ s0 = (-1)) → ((¬ (l5 < 0 ∨ 1000 ≤ l5.toNatClampNeg)) ∧ ((¬ (l5 < 0 ∨ 1000 ≤ l5.toNatClampNeg)) ∧ WP X (d) 27 (8, [some (.ref 45), some (.ref 1), some (.int l2), some (.int l3), some (.int (l4 + (-1 : Int32))), none, none], [], Wd f fl (va_up g 46 (upd (g 46) (l5.toNatClampNeg) ((g 46) l5.toNatClampNeg))) gl hh v tx) P)))) :
    WP X (d) 27 (57, [some (.ref 45), some (.ref 1), some (.int l2), some (.int l3), some (.int l4), some (.int l5), none], [.int s0], Wd f fl g gl hh v tx) P := by
  refine WP.run hP_27 1 (c' := (58, [some (.ref 45), some (.ref 1), some (.int l2), some (.int l3), some (.int l4), some (.int l5), none], [.int (-1), .int s0], Wd f fl g gl hh v tx)) rfl ?_
  refine WP.br hP_27 (q := s0 = (-1)) (t := 65) (f := 61) (L := [some (.ref 45), some (.ref 1), some (.int l2), some (.int l3), some (.int l4), some (.int l5), none]) (st := []) (w := Wd f fl g gl hh v tx) rfl (fun c1 => ?_) (fun c1 => ?_)
  · have h2 := h.1 c1
    refine WP.run hP_27 1 (c' := (66, [some (.ref 45), some (.ref 1), some (.int l2), some (.int l3), some (.int l4), some (.int l5), none], [.int 0], Wd f fl g gl hh v tx)) rfl ?_
    refine WP.run hP_27 6 (c' := (89, [some (.ref 45), some (.ref 1), some (.int l2), some (.int l3), some (.int l4), some (.int l5), some (.int 0)], [.int l5, .ref 46], Wd f fl g gl hh v tx)) rfl ?_
    refine WP.run hP_27 1 (c' := (90, [some (.ref 45), some (.ref 1), some (.int l2), some (.int l3), some (.int l4), none, none], [.int (-1), .int l5, .ref 46], Wd f fl g gl hh v tx)) rfl ?_
    refine WP.of (fun _ _ => Ex.iast hP_27 (w2 := Wd f fl (va_up g 46 (upd (g 46) (l5.toNatClampNeg) (-1))) gl hh v tx) rfl (Wa_46 _ _ _ _ _ _ _) h2.1 (Ws_46 _ _ _ _ _ _ _ _)) ?_
    have h3 := h2.2
    refine WP.run hP_27 2 (c' := (8, [some (.ref 45), some (.ref 1), some (.int l2), some (.int l3), some (.int (l4 + (-1 : Int32))), none, none], [], Wd f fl (va_up g 46 (upd (g 46) (l5.toNatClampNeg) (-1))) gl hh v tx)) rfl ?_
    exact h3
  · have h4 := h.2 c1
    refine WP.run hP_27 11 (c' := (85, [some (.ref 45), some (.ref 1), some (.int l2), some (.int l3), some (.int l4), some (.int l5), some (.int 1)], [.int l5, .ref 46, .int l5, .ref 46], Wd f fl g gl hh v tx)) rfl ?_
    refine WP.of (fun _ _ => Ex.iald hP_27 rfl (Wa_46 _ _ _ _ _ _ _) h4.1) ?_
    have h5 := h4.2
    refine WP.run hP_27 1 (c' := (90, [some (.ref 45), some (.ref 1), some (.int l2), some (.int l3), some (.int l4), some (.int l5), some (.int 1)], [.int ((g 46) l5.toNatClampNeg), .int l5, .ref 46], Wd f fl g gl hh v tx)) rfl ?_
    refine WP.of (fun _ _ => Ex.iast hP_27 (w2 := Wd f fl (va_up g 46 (upd (g 46) (l5.toNatClampNeg) ((g 46) l5.toNatClampNeg))) gl hh v tx) rfl (Wa_46 _ _ _ _ _ _ _) h5.1 (Ws_46 _ _ _ _ _ _ _ _)) ?_
    have h6 := h5.2
    refine WP.run hP_27 2 (c' := (8, [some (.ref 45), some (.ref 1), some (.int l2), some (.int l3), some (.int (l4 + (-1 : Int32))), none, none], [], Wd f fl (va_up g 46 (upd (g 46) (l5.toNatClampNeg) ((g 46) l5.toNatClampNeg))) gl hh v tx)) rfl ?_
    exact h6

set_option maxRecDepth 20000 in
theorem b_yco_learn_45_1_38_0 (X : mm_X) (d : Nat) (f : Nat → Int32) (fl : Nat → Int64) (g : Nat → Nat → Int32) (gl : Nat → Nat → Int64) (hh : Nat → Nat → Option Nat) (v : Nat → Value) (tx : mm_W) (p0 : Int32)  (P : Option Value → mm_W → Prop)
    (h : (¬ ((((p0 / (40 : Int32)) * (10 : Int32)) + (p0 - (p0 / (10 : Int32)) * (10 : Int32))) < 0 ∨ 250 ≤ (((p0 / (40 : Int32)) * (10 : Int32)) + (p0 - (p0 / (10 : Int32)) * (10 : Int32))).toNatClampNeg)) ∧ (((((g 49) (((p0 / (40 : Int32)) * (10 : Int32)) + (p0 - (p0 / (10 : Int32)) * (10 : Int32))).toNatClampNeg) = (-1)) → WP X (d + 1) 24 (40, [some (.ref 45), some (.ref 1), some (.ref 38), none, some (.int (((p0 / (40 : Int32)) * (10 : Int32)) + (p0 - (p0 / (10 : Int32)) * (10 : Int32)))), some (.int 0), some (.int 0), some (.int 0), none], [], Wd (va_up f 2440 p0) fl g gl hh v tx) P) ∧
    ((¬ ((g 49) (((p0 / (40 : Int32)) * (10 : Int32)) + (p0 - (p0 / (10 : Int32)) * (10 : Int32))).toNatClampNeg) = (-1)) → P none (Wd f fl g gl hh v tx)))) :
    WP X (d + 1) 24 (0, [some (.ref 45), some (.ref 1), some (.ref 38), some (.int p0), none, none, none, none, none], [], Wd f fl g gl hh v tx) P := by
  refine WP.run hP_24 1 (c' := (1, [some (.ref 45), some (.ref 1), some (.ref 38), some (.int p0), none, none, none, none, none], [.int p0], Wd f fl g gl hh v tx)) rfl ?_
  refine WP.call hP_24 hP_110 (as := [.int p0]) (pc' := 4) (L' := [some (.ref 45), some (.ref 1), some (.ref 38), some (.int p0), none, none, none, none, none]) (st' := []) (w1 := Wd f fl g gl hh v tx) rfl ⟨Nat.le_of_ble_eq_true rfl, Nat.le_of_ble_eq_true rfl⟩ rfl (b_x_cellOf_0 X (d) f fl g gl hh v tx p0 _ ?_)
  refine WP.run hP_24 3 (c' := (8, [some (.ref 45), some (.ref 1), some (.ref 38), some (.int p0), none, none, none, none, none], [.int p0, .int ((p0 / (40 : Int32)) * (10 : Int32))], Wd f fl g gl hh v tx)) rfl ?_
  refine WP.call hP_24 hP_112 (as := [.int p0]) (pc' := 11) (L' := [some (.ref 45), some (.ref 1), some (.ref 38), some (.int p0), none, none, none, none, none]) (st' := [.int ((p0 / (40 : Int32)) * (10 : Int32))]) (w1 := Wd f fl g gl hh v tx) rfl ⟨Nat.le_of_ble_eq_true rfl, Nat.le_of_ble_eq_true rfl⟩ rfl (b_x_powderOf_0 X (d) f fl g gl hh v tx p0 _ ?_)
  refine WP.run hP_24 5 (c' := (20, [some (.ref 45), some (.ref 1), some (.ref 38), some (.int p0), some (.int (((p0 / (40 : Int32)) * (10 : Int32)) + (p0 - (p0 / (10 : Int32)) * (10 : Int32)))), none, none, none, none], [.int (((p0 / (40 : Int32)) * (10 : Int32)) + (p0 - (p0 / (10 : Int32)) * (10 : Int32))), .ref 49], Wd f fl g gl hh v tx)) rfl ?_
  refine WP.of (fun _ _ => Ex.iald hP_24 rfl (Wa_49 _ _ _ _ _ _ _) h.1) ?_
  have h1 := h.2
  refine WP.run hP_24 1 (c' := (22, [some (.ref 45), some (.ref 1), some (.ref 38), some (.int p0), some (.int (((p0 / (40 : Int32)) * (10 : Int32)) + (p0 - (p0 / (10 : Int32)) * (10 : Int32)))), none, none, none, none], [.int (-1), .int ((g 49) (((p0 / (40 : Int32)) * (10 : Int32)) + (p0 - (p0 / (10 : Int32)) * (10 : Int32))).toNatClampNeg)], Wd f fl g gl hh v tx)) rfl ?_
  refine WP.br hP_24 (q := ((g 49) (((p0 / (40 : Int32)) * (10 : Int32)) + (p0 - (p0 / (10 : Int32)) * (10 : Int32))).toNatClampNeg) = (-1)) (t := 26) (f := 25) (L := [some (.ref 45), some (.ref 1), some (.ref 38), some (.int p0), some (.int (((p0 / (40 : Int32)) * (10 : Int32)) + (p0 - (p0 / (10 : Int32)) * (10 : Int32)))), none, none, none, none]) (st := []) (w := Wd f fl g gl hh v tx) rfl (fun c2 => ?_) (fun c2 => ?_)
  · have h3 := h1.1 c2
    refine WP.run hP_24 4 (c' := (32, [some (.ref 45), some (.ref 1), some (.ref 38), some (.int p0), some (.int (((p0 / (40 : Int32)) * (10 : Int32)) + (p0 - (p0 / (10 : Int32)) * (10 : Int32)))), none, none, none, none], [.int 0], Wd (va_up f 2440 p0) fl g gl hh v tx)) rfl ?_
    refine WP.run hP_24 2 (c' := (35, [some (.ref 45), some (.ref 1), some (.ref 38), some (.int p0), some (.int (((p0 / (40 : Int32)) * (10 : Int32)) + (p0 - (p0 / (10 : Int32)) * (10 : Int32)))), some (.int 0), none, none, none], [.int 0], Wd (va_up f 2440 p0) fl g gl hh v tx)) rfl ?_
    refine WP.run hP_24 2 (c' := (38, [some (.ref 45), some (.ref 1), some (.ref 38), some (.int p0), some (.int (((p0 / (40 : Int32)) * (10 : Int32)) + (p0 - (p0 / (10 : Int32)) * (10 : Int32)))), some (.int 0), some (.int 0), none, none], [.int 0], Wd (va_up f 2440 p0) fl g gl hh v tx)) rfl ?_
    refine WP.run hP_24 1 (c' := (40, [some (.ref 45), some (.ref 1), some (.ref 38), some (.int p0), some (.int (((p0 / (40 : Int32)) * (10 : Int32)) + (p0 - (p0 / (10 : Int32)) * (10 : Int32)))), some (.int 0), some (.int 0), some (.int 0), none], [], Wd (va_up f 2440 p0) fl g gl hh v tx)) rfl ?_
    refine WP.clr hP_24 (pc := 40) rfl ?_
    exact h3
  · have h4 := h1.2 c2
    exact WP.ret hP_24 (r := none) (w' := Wd f fl g gl hh v tx) rfl h4

set_option maxRecDepth 20000 in
theorem b_yco_learn_45_1_38_40 (X : mm_X) (d : Nat) (f : Nat → Int32) (fl : Nat → Int64) (g : Nat → Nat → Int32) (gl : Nat → Nat → Int64) (hh : Nat → Nat → Option Nat) (v : Nat → Value) (tx : mm_W) (l4 : Int32) (l5 : Int32) (l6 : Int32) (l7 : Int32)  (P : Option Value → mm_W → Prop)
    (h : (((f 64) ≤ l7) → (((((l5 &&& (l6 ^^^ (-1 : Int32))) &&& (1 : Int32)) = 0) → ((¬ (l4 < 0 ∨ 250 ≤ l4.toNatClampNeg)) ∧ P none (Wd f fl (va_up g 49 (upd (g 49) (l4.toNatClampNeg) (l6 ||| (0 : Int32)))) gl hh v tx))) ∧
      ((¬ ((l5 &&& (l6 ^^^ (-1 : Int32))) &&& (1 : Int32)) = 0) → WP X (d) 4 (0, [some (.ref 38), none, none], [], Wd f fl g gl hh v tx) (fun rv w2 => WP X (d + 1) 24 (137, [some (.ref 45), none, some (.ref 38), none, some (.int l4), none, some (.int l6), some (.int 1), none], rv.toList ++ [.int l6, .int l4, .ref 49], w2) P)))) ∧
    ((¬ ((f 64) ≤ l7)) → ((¬ (l7 < 0 ∨ 8 ≤ l7.toNatClampNeg)) ∧ (((¬ (((l5 >>> (((g 4) l7.toNatClampNeg) &&& (31 : Int32))) : Int32) &&& (1 : Int32)) = 0) → WP X (d + 1) 24 (40, [some (.ref 45), some (.ref 1), some (.ref 38), none, some (.int l4), some (.int (l5 ||| (((1 : Int32) <<< (((g 4) l7.toNatClampNeg) &&& (31 : Int32))) : Int32))), some (.int l6), some (.int (l7 + (1 : Int32))), none], [], Wd f fl g gl hh v tx) P) ∧
      (((((l5 >>> (((g 4) l7.toNatClampNeg) &&& (31 : Int32))) : Int32) &&& (1 : Int32)) = 0) → WP X (d) 5 (0, [some (.ref 38), some (.int ((g 4) l7.toNatClampNeg))], [], Wd f fl g gl hh v tx) (fun rv w2 => WP X (d + 1) 24 (74, [some (.ref 45), some (.ref 1), some (.ref 38), none, some (.int l4), some (.int l5), some (.int l6), some (.int l7), some (.int ((g 4) l7.toNatClampNeg))], rv.toList ++ [], w2) P)))))) :
    WP X (d + 1) 24 (40, [some (.ref 45), some (.ref 1), some (.ref 38), none, some (.int l4), some (.int l5), some (.int l6), some (.int l7), none], [], Wd f fl g gl hh v tx) P := by
  refine WP.run hP_24 3 (c' := (46, [some (.ref 45), some (.ref 1), some (.ref 38), none, some (.int l4), some (.int l5), some (.int l6), some (.int l7), none], [.int (f 64), .int l7], Wd f fl g gl hh v tx)) rfl ?_
  refine WP.br hP_24 (q := (f 64) ≤ l7) (t := 101) (f := 49) (L := [some (.ref 45), some (.ref 1), some (.ref 38), none, some (.int l4), some (.int l5), some (.int l6), some (.int l7), none]) (st := []) (w := Wd f fl g gl hh v tx) rfl (fun c1 => ?_) (fun c1 => ?_)
  · have h2 := h.1 c1
    refine WP.run hP_24 7 (c' := (110, [some (.ref 45), none, some (.ref 38), none, some (.int l4), some (.int l5), some (.int l6), none, none], [.int ((l5 &&& (l6 ^^^ (-1 : Int32))) &&& (1 : Int32))], Wd f fl g gl hh v tx)) rfl ?_
    refine WP.br hP_24 (q := ((l5 &&& (l6 ^^^ (-1 : Int32))) &&& (1 : Int32)) = 0) (t := 117) (f := 113) (L := [some (.ref 45), none, some (.ref 38), none, some (.int l4), some (.int l5), some (.int l6), none, none]) (st := []) (w := Wd f fl g gl hh v tx) rfl (fun c3 => ?_) (fun c3 => ?_)
    · have h4 := h2.1 c3
      refine WP.run hP_24 1 (c' := (118, [some (.ref 45), none, some (.ref 38), none, some (.int l4), none, some (.int l6), none, none], [.int 0], Wd f fl g gl hh v tx)) rfl ?_
      refine WP.run hP_24 7 (c' := (140, [some (.ref 45), none, some (.ref 38), none, some (.int l4), none, some (.int l6), some (.int 0), none], [.int l6, .int l4, .ref 49], Wd f fl g gl hh v tx)) rfl ?_
      refine WP.run hP_24 1 (c' := (141, [none, none, none, none, none, none, none, none, none], [.int 0, .int l6, .int l4, .ref 49], Wd f fl g gl hh v tx)) rfl ?_
      refine WP.run hP_24 3 (c' := (145, [none, none, none, none, none, none, none, none, none], [.int (l6 ||| (0 : Int32)), .int l4, .ref 49], Wd f fl g gl hh v tx)) rfl ?_
      refine WP.of (fun _ _ => Ex.iast hP_24 (w2 := Wd f fl (va_up g 49 (upd (g 49) (l4.toNatClampNeg) (l6 ||| (0 : Int32)))) gl hh v tx) rfl (Wa_49 _ _ _ _ _ _ _) h4.1 (Ws_49 _ _ _ _ _ _ _ _)) ?_
      have h5 := h4.2
      exact WP.ret hP_24 (r := none) (w' := Wd f fl (va_up g 49 (upd (g 49) (l4.toNatClampNeg) (l6 ||| (0 : Int32)))) gl hh v tx) rfl h5
    · have h6 := h2.2 c3
      refine WP.run hP_24 10 (c' := (134, [some (.ref 45), none, some (.ref 38), none, some (.int l4), none, some (.int l6), some (.int 1), none], [.ref 38, .int l6, .int l4, .ref 49], Wd f fl g gl hh v tx)) rfl ?_
      refine WP.call hP_24 hP_4 (as := [.ref 38]) (pc' := 137) (L' := [some (.ref 45), none, some (.ref 38), none, some (.int l4), none, some (.int l6), some (.int 1), none]) (st' := [.int l6, .int l4, .ref 49]) (w1 := Wd f fl g gl hh v tx) rfl ⟨Nat.le_of_ble_eq_true rfl, Nat.le_of_ble_eq_true rfl⟩ rfl ?_
      exact h6
  · have h7 := h.2 c1
    refine WP.run hP_24 3 (c' := (55, [some (.ref 45), some (.ref 1), some (.ref 38), none, some (.int l4), some (.int l5), some (.int l6), some (.int l7), none], [.int l7, .ref 4], Wd f fl g gl hh v tx)) rfl ?_
    refine WP.of (fun _ _ => Ex.iald hP_24 rfl (Wa_4 _ _ _ _ _ _ _) h7.1) ?_
    have h8 := h7.2
    refine WP.run hP_24 6 (c' := (65, [some (.ref 45), some (.ref 1), some (.ref 38), none, some (.int l4), some (.int l5), some (.int l6), some (.int l7), some (.int ((g 4) l7.toNatClampNeg))], [.int (((l5 >>> (((g 4) l7.toNatClampNeg) &&& (31 : Int32))) : Int32) &&& (1 : Int32))], Wd f fl g gl hh v tx)) rfl ?_
    refine WP.br hP_24 (q := ¬ (((l5 >>> (((g 4) l7.toNatClampNeg) &&& (31 : Int32))) : Int32) &&& (1 : Int32)) = 0) (t := 86) (f := 68) (L := [some (.ref 45), some (.ref 1), some (.ref 38), none, some (.int l4), some (.int l5), some (.int l6), some (.int l7), some (.int ((g 4) l7.toNatClampNeg))]) (st := []) (w := Wd f fl g gl hh v tx) rfl (fun c9 => ?_) (fun c9 => ?_)
    · have h10 := h8.1 c9
      refine WP.run hP_24 5 (c' := (93, [some (.ref 45), some (.ref 1), some (.ref 38), none, some (.int l4), some (.int l5), some (.int l6), some (.int l7), some (.int ((g 4) l7.toNatClampNeg))], [.int (l5 ||| (((1 : Int32) <<< (((g 4) l7.toNatClampNeg) &&& (31 : Int32))) : Int32))], Wd f fl g gl hh v tx)) rfl ?_
      refine WP.run hP_24 1 (c' := (95, [some (.ref 45), some (.ref 1), some (.ref 38), none, some (.int l4), some (.int (l5 ||| (((1 : Int32) <<< (((g 4) l7.toNatClampNeg) &&& (31 : Int32))) : Int32))), some (.int l6), some (.int l7), some (.int ((g 4) l7.toNatClampNeg))], [], Wd f fl g gl hh v tx)) rfl ?_
      refine WP.run hP_24 2 (c' := (40, [some (.ref 45), some (.ref 1), some (.ref 38), none, some (.int l4), some (.int (l5 ||| (((1 : Int32) <<< (((g 4) l7.toNatClampNeg) &&& (31 : Int32))) : Int32))), some (.int l6), some (.int (l7 + (1 : Int32))), some (.int ((g 4) l7.toNatClampNeg))], [], Wd f fl g gl hh v tx)) rfl ?_
      refine WP.clr hP_24 (pc := 40) rfl ?_
      exact h10
    · have h11 := h8.2 (Classical.not_not.mp c9)
      refine WP.run hP_24 2 (c' := (71, [some (.ref 45), some (.ref 1), some (.ref 38), none, some (.int l4), some (.int l5), some (.int l6), some (.int l7), some (.int ((g 4) l7.toNatClampNeg))], [.int ((g 4) l7.toNatClampNeg), .ref 38], Wd f fl g gl hh v tx)) rfl ?_
      refine WP.call hP_24 hP_5 (as := [.ref 38, .int ((g 4) l7.toNatClampNeg)]) (pc' := 74) (L' := [some (.ref 45), some (.ref 1), some (.ref 38), none, some (.int l4), some (.int l5), some (.int l6), some (.int l7), some (.int ((g 4) l7.toNatClampNeg))]) (st' := []) (w1 := Wd f fl g gl hh v tx) rfl ⟨Nat.le_of_ble_eq_true rfl, Nat.le_of_ble_eq_true rfl⟩ rfl ?_
      exact h11

set_option maxRecDepth 20000 in
theorem b_yco_learn_45_1_38_137 (X : mm_X) (d : Nat) (f : Nat → Int32) (fl : Nat → Int64) (g : Nat → Nat → Int32) (gl : Nat → Nat → Int64) (hh : Nat → Nat → Option Nat) (v : Nat → Value) (tx : mm_W) (l4 : Int32) (l6 : Int32) (l7 : Int32) (s0 : Int32) (s1 : Int32) (s2 : Int32)  (P : Option Value → mm_W → Prop)
    (h : (¬ (s2 < 0 ∨ 250 ≤ s2.toNatClampNeg)) ∧ P none (Wd f fl (va_up g 49 (upd (g 49) (s2.toNatClampNeg) (s1 ||| ((s0 <<< ((6 : Int32) &&& (31 : Int32))) : Int32)))) gl hh v tx)) :
    WP X (d) 24 (137, [some (.ref 45), none, some (.ref 38), none, some (.int l4), none, some (.int l6), some (.int l7), none], [.int s0, .int s1, .int s2, .ref 49], Wd f fl g gl hh v tx) P := by
  refine WP.run hP_24 4 (c' := (145, [none, none, none, none, none, none, none, none, none], [.int (s1 ||| ((s0 <<< ((6 : Int32) &&& (31 : Int32))) : Int32)), .int s2, .ref 49], Wd f fl g gl hh v tx)) rfl ?_
  refine WP.of (fun _ _ => Ex.iast hP_24 (w2 := Wd f fl (va_up g 49 (upd (g 49) (s2.toNatClampNeg) (s1 ||| ((s0 <<< ((6 : Int32) &&& (31 : Int32))) : Int32)))) gl hh v tx) rfl (Wa_49 _ _ _ _ _ _ _) h.1 (Ws_49 _ _ _ _ _ _ _ _)) ?_
  have h1 := h.2
  exact WP.ret hP_24 (r := none) (w' := Wd f fl (va_up g 49 (upd (g 49) (s2.toNatClampNeg) (s1 ||| ((s0 <<< ((6 : Int32) &&& (31 : Int32))) : Int32)))) gl hh v tx) rfl h1

set_option maxRecDepth 20000 in
theorem b_yco_learn_45_1_38_74 (X : mm_X) (d : Nat) (f : Nat → Int32) (fl : Nat → Int64) (g : Nat → Nat → Int32) (gl : Nat → Nat → Int64) (hh : Nat → Nat → Option Nat) (v : Nat → Value) (tx : mm_W) (l4 : Int32) (l5 : Int32) (l6 : Int32) (l7 : Int32) (l8 : Int32) (s0 : Int32)  (P : Option Value → mm_W → Prop)
    (h : ((s0 = 0) → WP X (d) 24 (40, [some (.ref 45), some (.ref 1), some (.ref 38), none, some (.int l4), some (.int (l5 ||| (((1 : Int32) <<< (l8 &&& (31 : Int32))) : Int32))), some (.int l6), some (.int (l7 + (1 : Int32))), none], [], Wd f fl g gl hh v tx) P) ∧
    ((¬ s0 = 0) → WP X (d) 24 (40, [some (.ref 45), some (.ref 1), some (.ref 38), none, some (.int l4), some (.int (l5 ||| (((1 : Int32) <<< (l8 &&& (31 : Int32))) : Int32))), some (.int (l6 ||| (((1 : Int32) <<< (l8 &&& (31 : Int32))) : Int32))), some (.int (l7 + (1 : Int32))), none], [], Wd f fl g gl hh v tx) P)) :
    WP X (d) 24 (74, [some (.ref 45), some (.ref 1), some (.ref 38), none, some (.int l4), some (.int l5), some (.int l6), some (.int l7), some (.int l8)], [.int s0], Wd f fl g gl hh v tx) P := by
  refine WP.br hP_24 (q := s0 = 0) (t := 86) (f := 77) (L := [some (.ref 45), some (.ref 1), some (.ref 38), none, some (.int l4), some (.int l5), some (.int l6), some (.int l7), some (.int l8)]) (st := []) (w := Wd f fl g gl hh v tx) rfl (fun c1 => ?_) (fun c1 => ?_)
  · have h2 := h.1 c1
    refine WP.run hP_24 5 (c' := (93, [some (.ref 45), some (.ref 1), some (.ref 38), none, some (.int l4), some (.int l5), some (.int l6), some (.int l7), some (.int l8)], [.int (l5 ||| (((1 : Int32) <<< (l8 &&& (31 : Int32))) : Int32))], Wd f fl g gl hh v tx)) rfl ?_
    refine WP.run hP_24 1 (c' := (95, [some (.ref 45), some (.ref 1), some (.ref 38), none, some (.int l4), some (.int (l5 ||| (((1 : Int32) <<< (l8 &&& (31 : Int32))) : Int32))), some (.int l6), some (.int l7), some (.int l8)], [], Wd f fl g gl hh v tx)) rfl ?_
    refine WP.run hP_24 2 (c' := (40, [some (.ref 45), some (.ref 1), some (.ref 38), none, some (.int l4), some (.int (l5 ||| (((1 : Int32) <<< (l8 &&& (31 : Int32))) : Int32))), some (.int l6), some (.int (l7 + (1 : Int32))), some (.int l8)], [], Wd f fl g gl hh v tx)) rfl ?_
    refine WP.clr hP_24 (pc := 40) rfl ?_
    exact h2
  · have h3 := h.2 c1
    refine WP.run hP_24 6 (c' := (86, [some (.ref 45), some (.ref 1), some (.ref 38), none, some (.int l4), some (.int l5), some (.int (l6 ||| (((1 : Int32) <<< (l8 &&& (31 : Int32))) : Int32))), some (.int l7), some (.int l8)], [], Wd f fl g gl hh v tx)) rfl ?_
    refine WP.run hP_24 5 (c' := (93, [some (.ref 45), some (.ref 1), some (.ref 38), none, some (.int l4), some (.int l5), some (.int (l6 ||| (((1 : Int32) <<< (l8 &&& (31 : Int32))) : Int32))), some (.int l7), some (.int l8)], [.int (l5 ||| (((1 : Int32) <<< (l8 &&& (31 : Int32))) : Int32))], Wd f fl g gl hh v tx)) rfl ?_
    refine WP.run hP_24 1 (c' := (95, [some (.ref 45), some (.ref 1), some (.ref 38), none, some (.int l4), some (.int (l5 ||| (((1 : Int32) <<< (l8 &&& (31 : Int32))) : Int32))), some (.int (l6 ||| (((1 : Int32) <<< (l8 &&& (31 : Int32))) : Int32))), some (.int l7), some (.int l8)], [], Wd f fl g gl hh v tx)) rfl ?_
    refine WP.run hP_24 2 (c' := (40, [some (.ref 45), some (.ref 1), some (.ref 38), none, some (.int l4), some (.int (l5 ||| (((1 : Int32) <<< (l8 &&& (31 : Int32))) : Int32))), some (.int (l6 ||| (((1 : Int32) <<< (l8 &&& (31 : Int32))) : Int32))), some (.int (l7 + (1 : Int32))), some (.int l8)], [], Wd f fl g gl hh v tx)) rfl ?_
    refine WP.clr hP_24 (pc := 40) rfl ?_
    exact h3

set_option maxRecDepth 20000 in
theorem b_yco_spread_45_1_0 (X : mm_X) (d : Nat) (f : Nat → Int32) (fl : Nat → Int64) (g : Nat → Nat → Int32) (gl : Nat → Nat → Int64) (hh : Nat → Nat → Option Nat) (v : Nat → Value) (tx : mm_W) (p0 : Int32) (p1 : Int32) (p2 : Int32)  (P : Option Value → mm_W → Prop)
    (h : (¬ (((p1 - p0) - ((p1 - p0) / (8 : Int32)) * (8 : Int32)) < 0 ∨ 8 ≤ ((p1 - p0) - ((p1 - p0) / (8 : Int32)) * (8 : Int32)).toNatClampNeg)) ∧ ((¬ ((((p1 - p0) + (1 : Int32)) - (((p1 - p0) + (1 : Int32)) / (8 : Int32)) * (8 : Int32)) < 0 ∨ 8 ≤ (((p1 - p0) + (1 : Int32)) - (((p1 - p0) + (1 : Int32)) / (8 : Int32)) * (8 : Int32)).toNatClampNeg)) ∧ WP X (d) 25 (34, [some (.ref 45), some (.ref 1), some (.int p0), some (.int p1), some (.int p2), some (.int 0), some (.int ((g 48) ((p1 - p0) - ((p1 - p0) / (8 : Int32)) * (8 : Int32)).toNatClampNeg)), some (.int ((g 48) (((p1 - p0) + (1 : Int32)) - (((p1 - p0) + (1 : Int32)) / (8 : Int32)) * (8 : Int32)).toNatClampNeg)), some (.int 0), none], [], Wd f fl g gl hh v tx) P)) :
    WP X (d) 25 (0, [some (.ref 45), some (.ref 1), some (.int p0), some (.int p1), some (.int p2), none, none, none, none, none], [], Wd f fl g gl hh v tx) P := by
  refine WP.run hP_25 9 (c' := (13, [some (.ref 45), some (.ref 1), some (.int p0), some (.int p1), some (.int p2), some (.int 0), none, none, none, none], [.int ((p1 - p0) - ((p1 - p0) / (8 : Int32)) * (8 : Int32)), .ref 48], Wd f fl g gl hh v tx)) rfl ?_
  refine WP.of (fun _ _ => Ex.iald hP_25 rfl (Wa_48 _ _ _ _ _ _ _) h.1) ?_
  have h1 := h.2
  refine WP.run hP_25 10 (c' := (28, [some (.ref 45), some (.ref 1), some (.int p0), some (.int p1), some (.int p2), some (.int 0), some (.int ((g 48) ((p1 - p0) - ((p1 - p0) / (8 : Int32)) * (8 : Int32)).toNatClampNeg)), none, none, none], [.int (((p1 - p0) + (1 : Int32)) - (((p1 - p0) + (1 : Int32)) / (8 : Int32)) * (8 : Int32)), .ref 48], Wd f fl g gl hh v tx)) rfl ?_
  refine WP.of (fun _ _ => Ex.iald hP_25 rfl (Wa_48 _ _ _ _ _ _ _) h1.1) ?_
  have h2 := h1.2
  refine WP.run hP_25 2 (c' := (32, [some (.ref 45), some (.ref 1), some (.int p0), some (.int p1), some (.int p2), some (.int 0), some (.int ((g 48) ((p1 - p0) - ((p1 - p0) / (8 : Int32)) * (8 : Int32)).toNatClampNeg)), some (.int ((g 48) (((p1 - p0) + (1 : Int32)) - (((p1 - p0) + (1 : Int32)) / (8 : Int32)) * (8 : Int32)).toNatClampNeg)), none, none], [.int 0], Wd f fl g gl hh v tx)) rfl ?_
  refine WP.run hP_25 1 (c' := (34, [some (.ref 45), some (.ref 1), some (.int p0), some (.int p1), some (.int p2), some (.int 0), some (.int ((g 48) ((p1 - p0) - ((p1 - p0) / (8 : Int32)) * (8 : Int32)).toNatClampNeg)), some (.int ((g 48) (((p1 - p0) + (1 : Int32)) - (((p1 - p0) + (1 : Int32)) / (8 : Int32)) * (8 : Int32)).toNatClampNeg)), some (.int 0), none], [], Wd f fl g gl hh v tx)) rfl ?_
  exact h2

set_option maxRecDepth 20000 in
theorem b_yco_spread_45_1_34 (X : mm_X) (d : Nat) (f : Nat → Int32) (fl : Nat → Int64) (g : Nat → Nat → Int32) (gl : Nat → Nat → Int64) (hh : Nat → Nat → Option Nat) (v : Nat → Value) (tx : mm_W) (l2 : Int32) (l3 : Int32) (l4 : Int32) (l5 : Int32) (l6 : Int32) (l7 : Int32) (l8 : Int32)  (P : Option Value → mm_W → Prop)
    (h : (((f 64) ≤ l8) → ((l5 = 0 ∨ l5 = 1) ∧ P (some (.int l5)) (Wd f fl g gl hh v tx))) ∧
    ((¬ ((f 64) ≤ l8)) → ((¬ (l8 < 0 ∨ 8 ≤ l8.toNatClampNeg)) ∧ (((¬ ((g 3) l8.toNatClampNeg) = l2) → WP X (d) 25 (34, [some (.ref 45), some (.ref 1), some (.int l2), some (.int l3), some (.int l4), some (.int l5), some (.int l6), some (.int l7), some (.int (l8 + (1 : Int32))), none], [], Wd f fl g gl hh v tx) P) ∧
      ((((g 3) l8.toNatClampNeg) = l2) → WP X (d) 25 (58, [some (.ref 45), some (.ref 1), some (.int l2), some (.int l3), some (.int l4), some (.int l5), some (.int l6), some (.int l7), some (.int l8), some (.int l6)], [], Wd f fl g gl hh v tx) P))))) :
    WP X (d) 25 (34, [some (.ref 45), some (.ref 1), some (.int l2), some (.int l3), some (.int l4), some (.int l5), some (.int l6), some (.int l7), some (.int l8), none], [], Wd f fl g gl hh v tx) P := by
  refine WP.run hP_25 3 (c' := (40, [some (.ref 45), some (.ref 1), some (.int l2), some (.int l3), some (.int l4), some (.int l5), some (.int l6), some (.int l7), some (.int l8), none], [.int (f 64), .int l8], Wd f fl g gl hh v tx)) rfl ?_
  refine WP.br hP_25 (q := (f 64) ≤ l8) (t := 117) (f := 43) (L := [some (.ref 45), some (.ref 1), some (.int l2), some (.int l3), some (.int l4), some (.int l5), some (.int l6), some (.int l7), some (.int l8), none]) (st := []) (w := Wd f fl g gl hh v tx) rfl (fun c1 => ?_) (fun c1 => ?_)
  · have h2 := h.1 c1
    refine WP.run hP_25 1 (c' := (119, [none, none, none, none, none, some (.int l5), none, none, none, none], [.int l5], Wd f fl g gl hh v tx)) rfl ?_
    exact WP.retZ hP_25 rfl rfl h2.1 h2.2
  · have h3 := h.2 c1
    refine WP.run hP_25 3 (c' := (49, [some (.ref 45), some (.ref 1), some (.int l2), some (.int l3), some (.int l4), some (.int l5), some (.int l6), some (.int l7), some (.int l8), none], [.int l8, .ref 3], Wd f fl g gl hh v tx)) rfl ?_
    refine WP.of (fun _ _ => Ex.iald hP_25 rfl (Wa_3 _ _ _ _ _ _ _) h3.1) ?_
    have h4 := h3.2
    refine WP.run hP_25 1 (c' := (51, [some (.ref 45), some (.ref 1), some (.int l2), some (.int l3), some (.int l4), some (.int l5), some (.int l6), some (.int l7), some (.int l8), none], [.int l2, .int ((g 3) l8.toNatClampNeg)], Wd f fl g gl hh v tx)) rfl ?_
    refine WP.br hP_25 (q := ¬ ((g 3) l8.toNatClampNeg) = l2) (t := 111) (f := 54) (L := [some (.ref 45), some (.ref 1), some (.int l2), some (.int l3), some (.int l4), some (.int l5), some (.int l6), some (.int l7), some (.int l8), none]) (st := []) (w := Wd f fl g gl hh v tx) rfl (fun c5 => ?_) (fun c5 => ?_)
    · have h6 := h4.1 c5
      refine WP.run hP_25 2 (c' := (34, [some (.ref 45), some (.ref 1), some (.int l2), some (.int l3), some (.int l4), some (.int l5), some (.int l6), some (.int l7), some (.int (l8 + (1 : Int32))), none], [], Wd f fl g gl hh v tx)) rfl ?_
      exact h6
    · have h7 := h4.2 (Classical.not_not.mp c5)
      refine WP.run hP_25 2 (c' := (58, [some (.ref 45), some (.ref 1), some (.int l2), some (.int l3), some (.int l4), some (.int l5), some (.int l6), some (.int l7), some (.int l8), some (.int l6)], [], Wd f fl g gl hh v tx)) rfl ?_
      exact h7

set_option maxRecDepth 20000 in
theorem b_yco_spread_45_1_58 (X : mm_X) (d : Nat) (f : Nat → Int32) (fl : Nat → Int64) (g : Nat → Nat → Int32) (gl : Nat → Nat → Int64) (hh : Nat → Nat → Option Nat) (v : Nat → Value) (tx : mm_W) (l2 : Int32) (l3 : Int32) (l4 : Int32) (l5 : Int32) (l6 : Int32) (l7 : Int32) (l8 : Int32) (l9 : Int32)  (P : Option Value → mm_W → Prop)
    (h : ((l7 ≤ l9) → WP X (d + 1) 25 (34, [some (.ref 45), some (.ref 1), some (.int l2), some (.int l3), some (.int l4), some (.int l5), some (.int l6), some (.int l7), some (.int (l8 + (1 : Int32))), none], [], Wd f fl g gl hh v tx) P) ∧
    ((¬ (l7 ≤ l9)) → ((¬ (l9 < 0 ∨ 1000 ≤ l9.toNatClampNeg)) ∧ ((¬ (l8 < 0 ∨ 8 ≤ l8.toNatClampNeg)) ∧ WP X (d) 26 (0, [some (.ref 45), some (.int ((g 47) l9.toNatClampNeg)), some (.int ((g 4) l8.toNatClampNeg)), none], [], Wd f fl g gl hh v tx) (fun rv w2 => WP X (d + 1) 25 (84, [some (.ref 45), some (.ref 1), some (.int l2), some (.int l3), some (.int l4), some (.int l5), some (.int l6), some (.int l7), some (.int l8), some (.int l9)], rv.toList ++ [.ref 45], w2) P))))) :
    WP X (d + 1) 25 (58, [some (.ref 45), some (.ref 1), some (.int l2), some (.int l3), some (.int l4), some (.int l5), some (.int l6), some (.int l7), some (.int l8), some (.int l9)], [], Wd f fl g gl hh v tx) P := by
  refine WP.run hP_25 2 (c' := (62, [some (.ref 45), some (.ref 1), some (.int l2), some (.int l3), some (.int l4), some (.int l5), some (.int l6), some (.int l7), some (.int l8), some (.int l9)], [.int l7, .int l9], Wd f fl g gl hh v tx)) rfl ?_
  refine WP.br hP_25 (q := l7 ≤ l9) (t := 111) (f := 65) (L := [some (.ref 45), some (.ref 1), some (.int l2), some (.int l3), some (.int l4), some (.int l5), some (.int l6), some (.int l7), some (.int l8), some (.int l9)]) (st := []) (w := Wd f fl g gl hh v tx) rfl (fun c1 => ?_) (fun c1 => ?_)
  · have h2 := h.1 c1
    refine WP.run hP_25 2 (c' := (34, [some (.ref 45), some (.ref 1), some (.int l2), some (.int l3), some (.int l4), some (.int l5), some (.int l6), some (.int l7), some (.int (l8 + (1 : Int32))), none], [], Wd f fl g gl hh v tx)) rfl ?_
    exact h2
  · have h3 := h.2 c1
    refine WP.run hP_25 5 (c' := (73, [some (.ref 45), some (.ref 1), some (.int l2), some (.int l3), some (.int l4), some (.int l5), some (.int l6), some (.int l7), some (.int l8), some (.int l9)], [.int l9, .ref 47, .ref 45, .ref 45], Wd f fl g gl hh v tx)) rfl ?_
    refine WP.of (fun _ _ => Ex.iald hP_25 rfl (Wa_47 _ _ _ _ _ _ _) h3.1) ?_
    have h4 := h3.2
    refine WP.run hP_25 3 (c' := (80, [some (.ref 45), some (.ref 1), some (.int l2), some (.int l3), some (.int l4), some (.int l5), some (.int l6), some (.int l7), some (.int l8), some (.int l9)], [.int l8, .ref 4, .int ((g 47) l9.toNatClampNeg), .ref 45, .ref 45], Wd f fl g gl hh v tx)) rfl ?_
    refine WP.of (fun _ _ => Ex.iald hP_25 rfl (Wa_4 _ _ _ _ _ _ _) h4.1) ?_
    have h5 := h4.2
    refine WP.call hP_25 hP_26 (as := [.ref 45, .int ((g 47) l9.toNatClampNeg), .int ((g 4) l8.toNatClampNeg)]) (pc' := 84) (L' := [some (.ref 45), some (.ref 1), some (.int l2), some (.int l3), some (.int l4), some (.int l5), some (.int l6), some (.int l7), some (.int l8), some (.int l9)]) (st' := [.ref 45]) (w1 := Wd f fl g gl hh v tx) rfl ⟨Nat.le_of_ble_eq_true rfl, Nat.le_of_ble_eq_true rfl⟩ rfl ?_
    exact h5

set_option maxRecDepth 20000 in
theorem b_yco_spread_45_1_84 (X : mm_X) (d : Nat) (f : Nat → Int32) (fl : Nat → Int64) (g : Nat → Nat → Int32) (gl : Nat → Nat → Int64) (hh : Nat → Nat → Option Nat) (v : Nat → Value) (tx : mm_W) (l2 : Int32) (l3 : Int32) (l4 : Int32) (l5 : Int32) (l6 : Int32) (l7 : Int32) (l8 : Int32) (l9 : Int32) (s0 : Int32)  (P : Option Value → mm_W → Prop)
    (h : (¬ (s0 < 0 ∨ 1000 ≤ s0.toNatClampNeg)) ∧ (((¬ ((g 46) s0.toNatClampNeg) = (-1)) → ((((s0 / (40 : Int32)) = l4) → WP X (d + 2) 25 (58, [some (.ref 45), some (.ref 1), some (.int l2), some (.int l3), some (.int l4), some (.int 1), some (.int l6), some (.int l7), some (.int l8), some (.int (l9 + (1 : Int32)))], [], Wd f fl g gl hh v tx) P) ∧
      ((¬ (s0 / (40 : Int32)) = l4) → (((l5 = 0) → WP X (d + 2) 25 (58, [some (.ref 45), some (.ref 1), some (.int l2), some (.int l3), some (.int l4), some (.int 0), some (.int l6), some (.int l7), some (.int l8), some (.int (l9 + (1 : Int32)))], [], Wd f fl g gl hh v tx) P) ∧
        ((¬ l5 = 0) → WP X (d + 2) 25 (58, [some (.ref 45), some (.ref 1), some (.int l2), some (.int l3), some (.int l4), some (.int 1), some (.int l6), some (.int l7), some (.int l8), some (.int (l9 + (1 : Int32)))], [], Wd f fl g gl hh v tx) P))))) ∧
    ((((g 46) s0.toNatClampNeg) = (-1)) → (((1000 ≤ (f 2882)) → ((((s0 / (40 : Int32)) = l4) → WP X (d + 2) 25 (58, [some (.ref 45), some (.ref 1), some (.int l2), some (.int l3), some (.int l4), some (.int 1), some (.int l6), some (.int l7), some (.int l8), some (.int (l9 + (1 : Int32)))], [], Wd f fl g gl hh v tx) P) ∧
        ((¬ (s0 / (40 : Int32)) = l4) → (((l5 = 0) → WP X (d + 2) 25 (58, [some (.ref 45), some (.ref 1), some (.int l2), some (.int l3), some (.int l4), some (.int 0), some (.int l6), some (.int l7), some (.int l8), some (.int (l9 + (1 : Int32)))], [], Wd f fl g gl hh v tx) P) ∧
          ((¬ l5 = 0) → WP X (d + 2) 25 (58, [some (.ref 45), some (.ref 1), some (.int l2), some (.int l3), some (.int l4), some (.int 1), some (.int l6), some (.int l7), some (.int l8), some (.int (l9 + (1 : Int32)))], [], Wd f fl g gl hh v tx) P))))) ∧
      ((¬ (1000 ≤ (f 2882))) → ((¬ (s0 < 0 ∨ 1000 ≤ s0.toNatClampNeg)) ∧ ((¬ ((f 2882) < 0 ∨ 1000 ≤ (f 2882).toNatClampNeg)) ∧ ((((s0 / (40 : Int32)) = l4) → WP X (d + 2) 25 (58, [some (.ref 45), some (.ref 1), some (.int l2), some (.int l3), some (.int l4), some (.int 1), some (.int l6), some (.int l7), some (.int l8), some (.int (l9 + (1 : Int32)))], [], Wd (va_up f 2882 ((f 2882) + (1 : Int32))) fl (va_up (va_up g 46 (upd (g 46) (s0.toNatClampNeg) l3)) 47 (upd (g 47) ((f 2882).toNatClampNeg) s0)) gl hh v tx) P) ∧
        ((¬ (s0 / (40 : Int32)) = l4) → (((l5 = 0) → WP X (d + 2) 25 (58, [some (.ref 45), some (.ref 1), some (.int l2), some (.int l3), some (.int l4), some (.int 0), some (.int l6), some (.int l7), some (.int l8), some (.int (l9 + (1 : Int32)))], [], Wd (va_up f 2882 ((f 2882) + (1 : Int32))) fl (va_up (va_up g 46 (upd (g 46) (s0.toNatClampNeg) l3)) 47 (upd (g 47) ((f 2882).toNatClampNeg) s0)) gl hh v tx) P) ∧
          ((¬ l5 = 0) → WP X (d + 2) 25 (58, [some (.ref 45), some (.ref 1), some (.int l2), some (.int l3), some (.int l4), some (.int 1), some (.int l6), some (.int l7), some (.int l8), some (.int (l9 + (1 : Int32)))], [], Wd (va_up f 2882 ((f 2882) + (1 : Int32))) fl (va_up (va_up g 46 (upd (g 46) (s0.toNatClampNeg) l3)) 47 (upd (g 47) ((f 2882).toNatClampNeg) s0)) gl hh v tx) P))))))))))) :
    WP X (d + 2) 25 (84, [some (.ref 45), some (.ref 1), some (.int l2), some (.int l3), some (.int l4), some (.int l5), some (.int l6), some (.int l7), some (.int l8), some (.int l9)], [.int s0, .ref 45], Wd f fl g gl hh v tx) P := by
  refine WP.run hP_25 1 (c' := (85, [some (.ref 45), some (.ref 1), some (.int l2), some (.int l3), some (.int l4), some (.int l5), some (.int l6), some (.int l7), some (.int l8), some (.int l9)], [.int l3, .int s0, .ref 45], Wd f fl g gl hh v tx)) rfl ?_
  refine WP.call hP_25 hP_23 (as := [.ref 45, .int s0, .int l3]) (pc' := 88) (L' := [some (.ref 45), some (.ref 1), some (.int l2), some (.int l3), some (.int l4), some (.int l5), some (.int l6), some (.int l7), some (.int l8), some (.int l9)]) (st' := []) (w1 := Wd f fl g gl hh v tx) rfl ⟨Nat.le_of_ble_eq_true rfl, Nat.le_of_ble_eq_true rfl⟩ rfl (b_yco_arrive_45_0 X (d) f fl g gl hh v tx s0 l3 _ ?_)
  refine ⟨h.1, ?_⟩
  have h1 := h.2
  refine ⟨fun c2 => ?_, fun c2 => ?_⟩
  · have h3 := h1.1 c2
    refine WP.run hP_25 1 (c' := (90, [some (.ref 45), some (.ref 1), some (.int l2), some (.int l3), some (.int l4), some (.int l5), some (.int l6), some (.int l7), some (.int l8), some (.int l9)], [.int l4, .int (s0 / (40 : Int32))], Wd f fl g gl hh v tx)) rfl ?_
    refine WP.br hP_25 (q := (s0 / (40 : Int32)) = l4) (t := 98) (f := 93) (L := [some (.ref 45), some (.ref 1), some (.int l2), some (.int l3), some (.int l4), some (.int l5), some (.int l6), some (.int l7), some (.int l8), some (.int l9)]) (st := []) (w := Wd f fl g gl hh v tx) rfl (fun c4 => ?_) (fun c4 => ?_)
    · have h5 := h3.1 c4
      refine WP.run hP_25 2 (c' := (103, [some (.ref 45), some (.ref 1), some (.int l2), some (.int l3), some (.int l4), none, some (.int l6), some (.int l7), some (.int l8), some (.int l9)], [.int 1], Wd f fl g gl hh v tx)) rfl ?_
      refine WP.run hP_25 1 (c' := (105, [some (.ref 45), some (.ref 1), some (.int l2), some (.int l3), some (.int l4), some (.int 1), some (.int l6), some (.int l7), some (.int l8), some (.int l9)], [], Wd f fl g gl hh v tx)) rfl ?_
      refine WP.run hP_25 2 (c' := (58, [some (.ref 45), some (.ref 1), some (.int l2), some (.int l3), some (.int l4), some (.int 1), some (.int l6), some (.int l7), some (.int l8), some (.int (l9 + (1 : Int32)))], [], Wd f fl g gl hh v tx)) rfl ?_
      exact h5
    · have h6 := h3.2 c4
      refine WP.run hP_25 1 (c' := (95, [some (.ref 45), some (.ref 1), some (.int l2), some (.int l3), some (.int l4), some (.int l5), some (.int l6), some (.int l7), some (.int l8), some (.int l9)], [.int l5], Wd f fl g gl hh v tx)) rfl ?_
      refine WP.br hP_25 (q := l5 = 0) (t := 102) (f := 98) (L := [some (.ref 45), some (.ref 1), some (.int l2), some (.int l3), some (.int l4), some (.int l5), some (.int l6), some (.int l7), some (.int l8), some (.int l9)]) (st := []) (w := Wd f fl g gl hh v tx) rfl (fun c7 => ?_) (fun c7 => ?_)
      · have h8 := h6.1 c7
        refine WP.run hP_25 1 (c' := (103, [some (.ref 45), some (.ref 1), some (.int l2), some (.int l3), some (.int l4), none, some (.int l6), some (.int l7), some (.int l8), some (.int l9)], [.int 0], Wd f fl g gl hh v tx)) rfl ?_
        refine WP.run hP_25 1 (c' := (105, [some (.ref 45), some (.ref 1), some (.int l2), some (.int l3), some (.int l4), some (.int 0), some (.int l6), some (.int l7), some (.int l8), some (.int l9)], [], Wd f fl g gl hh v tx)) rfl ?_
        refine WP.run hP_25 2 (c' := (58, [some (.ref 45), some (.ref 1), some (.int l2), some (.int l3), some (.int l4), some (.int 0), some (.int l6), some (.int l7), some (.int l8), some (.int (l9 + (1 : Int32)))], [], Wd f fl g gl hh v tx)) rfl ?_
        exact h8
      · have h9 := h6.2 c7
        refine WP.run hP_25 2 (c' := (103, [some (.ref 45), some (.ref 1), some (.int l2), some (.int l3), some (.int l4), none, some (.int l6), some (.int l7), some (.int l8), some (.int l9)], [.int 1], Wd f fl g gl hh v tx)) rfl ?_
        refine WP.run hP_25 1 (c' := (105, [some (.ref 45), some (.ref 1), some (.int l2), some (.int l3), some (.int l4), some (.int 1), some (.int l6), some (.int l7), some (.int l8), some (.int l9)], [], Wd f fl g gl hh v tx)) rfl ?_
        refine WP.run hP_25 2 (c' := (58, [some (.ref 45), some (.ref 1), some (.int l2), some (.int l3), some (.int l4), some (.int 1), some (.int l6), some (.int l7), some (.int l8), some (.int (l9 + (1 : Int32)))], [], Wd f fl g gl hh v tx)) rfl ?_
        exact h9
  · have h10 := h1.2 c2
    refine ⟨fun c11 => ?_, fun c11 => ?_⟩
    · have h12 := h10.1 c11
      refine WP.run hP_25 1 (c' := (90, [some (.ref 45), some (.ref 1), some (.int l2), some (.int l3), some (.int l4), some (.int l5), some (.int l6), some (.int l7), some (.int l8), some (.int l9)], [.int l4, .int (s0 / (40 : Int32))], Wd f fl g gl hh v tx)) rfl ?_
      refine WP.br hP_25 (q := (s0 / (40 : Int32)) = l4) (t := 98) (f := 93) (L := [some (.ref 45), some (.ref 1), some (.int l2), some (.int l3), some (.int l4), some (.int l5), some (.int l6), some (.int l7), some (.int l8), some (.int l9)]) (st := []) (w := Wd f fl g gl hh v tx) rfl (fun c13 => ?_) (fun c13 => ?_)
      · have h14 := h12.1 c13
        refine WP.run hP_25 2 (c' := (103, [some (.ref 45), some (.ref 1), some (.int l2), some (.int l3), some (.int l4), none, some (.int l6), some (.int l7), some (.int l8), some (.int l9)], [.int 1], Wd f fl g gl hh v tx)) rfl ?_
        refine WP.run hP_25 1 (c' := (105, [some (.ref 45), some (.ref 1), some (.int l2), some (.int l3), some (.int l4), some (.int 1), some (.int l6), some (.int l7), some (.int l8), some (.int l9)], [], Wd f fl g gl hh v tx)) rfl ?_
        refine WP.run hP_25 2 (c' := (58, [some (.ref 45), some (.ref 1), some (.int l2), some (.int l3), some (.int l4), some (.int 1), some (.int l6), some (.int l7), some (.int l8), some (.int (l9 + (1 : Int32)))], [], Wd f fl g gl hh v tx)) rfl ?_
        exact h14
      · have h15 := h12.2 c13
        refine WP.run hP_25 1 (c' := (95, [some (.ref 45), some (.ref 1), some (.int l2), some (.int l3), some (.int l4), some (.int l5), some (.int l6), some (.int l7), some (.int l8), some (.int l9)], [.int l5], Wd f fl g gl hh v tx)) rfl ?_
        refine WP.br hP_25 (q := l5 = 0) (t := 102) (f := 98) (L := [some (.ref 45), some (.ref 1), some (.int l2), some (.int l3), some (.int l4), some (.int l5), some (.int l6), some (.int l7), some (.int l8), some (.int l9)]) (st := []) (w := Wd f fl g gl hh v tx) rfl (fun c16 => ?_) (fun c16 => ?_)
        · have h17 := h15.1 c16
          refine WP.run hP_25 1 (c' := (103, [some (.ref 45), some (.ref 1), some (.int l2), some (.int l3), some (.int l4), none, some (.int l6), some (.int l7), some (.int l8), some (.int l9)], [.int 0], Wd f fl g gl hh v tx)) rfl ?_
          refine WP.run hP_25 1 (c' := (105, [some (.ref 45), some (.ref 1), some (.int l2), some (.int l3), some (.int l4), some (.int 0), some (.int l6), some (.int l7), some (.int l8), some (.int l9)], [], Wd f fl g gl hh v tx)) rfl ?_
          refine WP.run hP_25 2 (c' := (58, [some (.ref 45), some (.ref 1), some (.int l2), some (.int l3), some (.int l4), some (.int 0), some (.int l6), some (.int l7), some (.int l8), some (.int (l9 + (1 : Int32)))], [], Wd f fl g gl hh v tx)) rfl ?_
          exact h17
        · have h18 := h15.2 c16
          refine WP.run hP_25 2 (c' := (103, [some (.ref 45), some (.ref 1), some (.int l2), some (.int l3), some (.int l4), none, some (.int l6), some (.int l7), some (.int l8), some (.int l9)], [.int 1], Wd f fl g gl hh v tx)) rfl ?_
          refine WP.run hP_25 1 (c' := (105, [some (.ref 45), some (.ref 1), some (.int l2), some (.int l3), some (.int l4), some (.int 1), some (.int l6), some (.int l7), some (.int l8), some (.int l9)], [], Wd f fl g gl hh v tx)) rfl ?_
          refine WP.run hP_25 2 (c' := (58, [some (.ref 45), some (.ref 1), some (.int l2), some (.int l3), some (.int l4), some (.int 1), some (.int l6), some (.int l7), some (.int l8), some (.int (l9 + (1 : Int32)))], [], Wd f fl g gl hh v tx)) rfl ?_
          exact h18
    · have h19 := h10.2 c11
      refine ⟨h19.1, ?_⟩
      have h20 := h19.2
      refine ⟨h20.1, ?_⟩
      have h21 := h20.2
      refine WP.run hP_25 1 (c' := (90, [some (.ref 45), some (.ref 1), some (.int l2), some (.int l3), some (.int l4), some (.int l5), some (.int l6), some (.int l7), some (.int l8), some (.int l9)], [.int l4, .int (s0 / (40 : Int32))], Wd (va_up f 2882 ((f 2882) + (1 : Int32))) fl (va_up (va_up g 46 (upd (g 46) (s0.toNatClampNeg) l3)) 47 (upd (g 47) ((f 2882).toNatClampNeg) s0)) gl hh v tx)) rfl ?_
      refine WP.br hP_25 (q := (s0 / (40 : Int32)) = l4) (t := 98) (f := 93) (L := [some (.ref 45), some (.ref 1), some (.int l2), some (.int l3), some (.int l4), some (.int l5), some (.int l6), some (.int l7), some (.int l8), some (.int l9)]) (st := []) (w := Wd (va_up f 2882 ((f 2882) + (1 : Int32))) fl (va_up (va_up g 46 (upd (g 46) (s0.toNatClampNeg) l3)) 47 (upd (g 47) ((f 2882).toNatClampNeg) s0)) gl hh v tx) rfl (fun c22 => ?_) (fun c22 => ?_)
      · have h23 := h21.1 c22
        refine WP.run hP_25 2 (c' := (103, [some (.ref 45), some (.ref 1), some (.int l2), some (.int l3), some (.int l4), none, some (.int l6), some (.int l7), some (.int l8), some (.int l9)], [.int 1], Wd (va_up f 2882 ((f 2882) + (1 : Int32))) fl (va_up (va_up g 46 (upd (g 46) (s0.toNatClampNeg) l3)) 47 (upd (g 47) ((f 2882).toNatClampNeg) s0)) gl hh v tx)) rfl ?_
        refine WP.run hP_25 1 (c' := (105, [some (.ref 45), some (.ref 1), some (.int l2), some (.int l3), some (.int l4), some (.int 1), some (.int l6), some (.int l7), some (.int l8), some (.int l9)], [], Wd (va_up f 2882 ((f 2882) + (1 : Int32))) fl (va_up (va_up g 46 (upd (g 46) (s0.toNatClampNeg) l3)) 47 (upd (g 47) ((f 2882).toNatClampNeg) s0)) gl hh v tx)) rfl ?_
        refine WP.run hP_25 2 (c' := (58, [some (.ref 45), some (.ref 1), some (.int l2), some (.int l3), some (.int l4), some (.int 1), some (.int l6), some (.int l7), some (.int l8), some (.int (l9 + (1 : Int32)))], [], Wd (va_up f 2882 ((f 2882) + (1 : Int32))) fl (va_up (va_up g 46 (upd (g 46) (s0.toNatClampNeg) l3)) 47 (upd (g 47) ((f 2882).toNatClampNeg) s0)) gl hh v tx)) rfl ?_
        exact h23
      · have h24 := h21.2 c22
        refine WP.run hP_25 1 (c' := (95, [some (.ref 45), some (.ref 1), some (.int l2), some (.int l3), some (.int l4), some (.int l5), some (.int l6), some (.int l7), some (.int l8), some (.int l9)], [.int l5], Wd (va_up f 2882 ((f 2882) + (1 : Int32))) fl (va_up (va_up g 46 (upd (g 46) (s0.toNatClampNeg) l3)) 47 (upd (g 47) ((f 2882).toNatClampNeg) s0)) gl hh v tx)) rfl ?_
        refine WP.br hP_25 (q := l5 = 0) (t := 102) (f := 98) (L := [some (.ref 45), some (.ref 1), some (.int l2), some (.int l3), some (.int l4), some (.int l5), some (.int l6), some (.int l7), some (.int l8), some (.int l9)]) (st := []) (w := Wd (va_up f 2882 ((f 2882) + (1 : Int32))) fl (va_up (va_up g 46 (upd (g 46) (s0.toNatClampNeg) l3)) 47 (upd (g 47) ((f 2882).toNatClampNeg) s0)) gl hh v tx) rfl (fun c25 => ?_) (fun c25 => ?_)
        · have h26 := h24.1 c25
          refine WP.run hP_25 1 (c' := (103, [some (.ref 45), some (.ref 1), some (.int l2), some (.int l3), some (.int l4), none, some (.int l6), some (.int l7), some (.int l8), some (.int l9)], [.int 0], Wd (va_up f 2882 ((f 2882) + (1 : Int32))) fl (va_up (va_up g 46 (upd (g 46) (s0.toNatClampNeg) l3)) 47 (upd (g 47) ((f 2882).toNatClampNeg) s0)) gl hh v tx)) rfl ?_
          refine WP.run hP_25 1 (c' := (105, [some (.ref 45), some (.ref 1), some (.int l2), some (.int l3), some (.int l4), some (.int 0), some (.int l6), some (.int l7), some (.int l8), some (.int l9)], [], Wd (va_up f 2882 ((f 2882) + (1 : Int32))) fl (va_up (va_up g 46 (upd (g 46) (s0.toNatClampNeg) l3)) 47 (upd (g 47) ((f 2882).toNatClampNeg) s0)) gl hh v tx)) rfl ?_
          refine WP.run hP_25 2 (c' := (58, [some (.ref 45), some (.ref 1), some (.int l2), some (.int l3), some (.int l4), some (.int 0), some (.int l6), some (.int l7), some (.int l8), some (.int (l9 + (1 : Int32)))], [], Wd (va_up f 2882 ((f 2882) + (1 : Int32))) fl (va_up (va_up g 46 (upd (g 46) (s0.toNatClampNeg) l3)) 47 (upd (g 47) ((f 2882).toNatClampNeg) s0)) gl hh v tx)) rfl ?_
          exact h26
        · have h27 := h24.2 c25
          refine WP.run hP_25 2 (c' := (103, [some (.ref 45), some (.ref 1), some (.int l2), some (.int l3), some (.int l4), none, some (.int l6), some (.int l7), some (.int l8), some (.int l9)], [.int 1], Wd (va_up f 2882 ((f 2882) + (1 : Int32))) fl (va_up (va_up g 46 (upd (g 46) (s0.toNatClampNeg) l3)) 47 (upd (g 47) ((f 2882).toNatClampNeg) s0)) gl hh v tx)) rfl ?_
          refine WP.run hP_25 1 (c' := (105, [some (.ref 45), some (.ref 1), some (.int l2), some (.int l3), some (.int l4), some (.int 1), some (.int l6), some (.int l7), some (.int l8), some (.int l9)], [], Wd (va_up f 2882 ((f 2882) + (1 : Int32))) fl (va_up (va_up g 46 (upd (g 46) (s0.toNatClampNeg) l3)) 47 (upd (g 47) ((f 2882).toNatClampNeg) s0)) gl hh v tx)) rfl ?_
          refine WP.run hP_25 2 (c' := (58, [some (.ref 45), some (.ref 1), some (.int l2), some (.int l3), some (.int l4), some (.int 1), some (.int l6), some (.int l7), some (.int l8), some (.int (l9 + (1 : Int32)))], [], Wd (va_up f 2882 ((f 2882) + (1 : Int32))) fl (va_up (va_up g 46 (upd (g 46) (s0.toNatClampNeg) l3)) 47 (upd (g 47) ((f 2882).toNatClampNeg) s0)) gl hh v tx)) rfl ?_
          exact h27

set_option maxRecDepth 20000 in
theorem b_yco_search_45_1_38_0 (X : mm_X) (d : Nat) (f : Nat → Int32) (fl : Nat → Int64) (g : Nat → Nat → Int32) (gl : Nat → Nat → Int64) (hh : Nat → Nat → Option Nat) (v : Nat → Value) (tx : mm_W) (p0 : Int32) (p1 : Int32)  (P : Option Value → mm_W → Prop)
    (h : WP X (d) 258 (0, [some (.ref 46), some (.int (-1)), none, none], [], Wd f fl g gl hh v tx) (fun rv w2 => WP X (d + 1) 21 (8, [some (.ref 45), some (.ref 1), some (.ref 38), some (.int p0), some (.int p1), none, none, none], rv.toList ++ [], w2) P)) :
    WP X (d + 1) 21 (0, [some (.ref 45), some (.ref 1), some (.ref 38), some (.int p0), some (.int p1), none, none, none], [], Wd f fl g gl hh v tx) P := by
  refine WP.run hP_21 3 (c' := (5, [some (.ref 45), some (.ref 1), some (.ref 38), some (.int p0), some (.int p1), none, none, none], [.int (-1), .ref 46], Wd f fl g gl hh v tx)) rfl ?_
  refine WP.call hP_21 hP_258 (as := [.ref 46, .int (-1)]) (pc' := 8) (L' := [some (.ref 45), some (.ref 1), some (.ref 38), some (.int p0), some (.int p1), none, none, none]) (st' := []) (w1 := Wd f fl g gl hh v tx) rfl ⟨Nat.le_of_ble_eq_true rfl, Nat.le_of_ble_eq_true rfl⟩ rfl ?_
  exact h

set_option maxRecDepth 20000 in
theorem b_yco_search_45_1_38_8 (X : mm_X) (d : Nat) (f : Nat → Int32) (fl : Nat → Int64) (g : Nat → Nat → Int32) (gl : Nat → Nat → Int64) (hh : Nat → Nat → Option Nat) (v : Nat → Value) (tx : mm_W) (l3 : Int32) (l4 : Int32)  (P : Option Value → mm_W → Prop)
    (h : WP X (d) 258 (0, [some (.ref 49), some (.int (-1)), none, none], [], Wd f fl g gl hh v tx) (fun rv w2 => WP X (d + 1) 21 (16, [some (.ref 45), some (.ref 1), some (.ref 38), some (.int l3), some (.int l4), none, none, none], rv.toList ++ [], w2) P)) :
    WP X (d + 1) 21 (8, [some (.ref 45), some (.ref 1), some (.ref 38), some (.int l3), some (.int l4), none, none, none], [], Wd f fl g gl hh v tx) P := by
  refine WP.run hP_21 3 (c' := (13, [some (.ref 45), some (.ref 1), some (.ref 38), some (.int l3), some (.int l4), none, none, none], [.int (-1), .ref 49], Wd f fl g gl hh v tx)) rfl ?_
  refine WP.call hP_21 hP_258 (as := [.ref 49, .int (-1)]) (pc' := 16) (L' := [some (.ref 45), some (.ref 1), some (.ref 38), some (.int l3), some (.int l4), none, none, none]) (st' := []) (w1 := Wd f fl g gl hh v tx) rfl ⟨Nat.le_of_ble_eq_true rfl, Nat.le_of_ble_eq_true rfl⟩ rfl ?_
  exact h

set_option maxRecDepth 20000 in
theorem b_yco_search_45_1_38_16 (X : mm_X) (d : Nat) (f : Nat → Int32) (fl : Nat → Int64) (g : Nat → Nat → Int32) (gl : Nat → Nat → Int64) (hh : Nat → Nat → Option Nat) (v : Nat → Value) (tx : mm_W) (l3 : Int32) (l4 : Int32)  (P : Option Value → mm_W → Prop)
    (h : (¬ (l3 < 0 ∨ 1000 ≤ l3.toNatClampNeg)) ∧ (((¬ ((g 46) l3.toNatClampNeg) = (-1)) → (((¬ (l3 / (40 : Int32)) = l4) → WP X (d + 2) 21 (49, [some (.ref 45), some (.ref 1), some (.ref 38), none, some (.int l4), some (.int 0), some (.int 0), none], [], Wd (va_up f 2882 0) fl (va_up g 48 (upd (g 48) 0 0)) gl hh v tx) P) ∧
      (((l3 / (40 : Int32)) = l4) → WP X (d + 2) 21 (49, [some (.ref 45), some (.ref 1), some (.ref 38), none, some (.int l4), some (.int 1), some (.int 0), none], [], Wd (va_up f 2882 0) fl (va_up g 48 (upd (g 48) 0 0)) gl hh v tx) P))) ∧
    ((((g 46) l3.toNatClampNeg) = (-1)) → ((¬ (l3 < 0 ∨ 1000 ≤ l3.toNatClampNeg)) ∧ ((¬ ((0 : Int32) < 0 ∨ 1000 ≤ (0 : Int32).toNatClampNeg)) ∧ (((¬ (l3 / (40 : Int32)) = l4) → WP X (d + 2) 21 (49, [some (.ref 45), some (.ref 1), some (.ref 38), none, some (.int l4), some (.int 0), some (.int 0), none], [], Wd (va_up f 2882 (0 + (1 : Int32))) fl (va_up (va_up (va_up g 48 (upd (g 48) 0 0)) 46 (upd (g 46) (l3.toNatClampNeg) (0 : Int32))) 47 (upd (g 47) ((0 : Int32).toNatClampNeg) l3)) gl hh v tx) P) ∧
      (((l3 / (40 : Int32)) = l4) → WP X (d + 2) 21 (49, [some (.ref 45), some (.ref 1), some (.ref 38), none, some (.int l4), some (.int 1), some (.int 0), none], [], Wd (va_up f 2882 (0 + (1 : Int32))) fl (va_up (va_up (va_up g 48 (upd (g 48) 0 0)) 46 (upd (g 46) (l3.toNatClampNeg) (0 : Int32))) 47 (upd (g 47) ((0 : Int32).toNatClampNeg) l3)) gl hh v tx) P))))))) :
    WP X (d + 2) 21 (16, [some (.ref 45), some (.ref 1), some (.ref 38), some (.int l3), some (.int l4), none, none, none], [], Wd f fl g gl hh v tx) P := by
  refine WP.run hP_21 7 (c' := (27, [some (.ref 45), some (.ref 1), some (.ref 38), some (.int l3), some (.int l4), none, none, none], [.int 0, .int 0, .ref 48], Wd (va_up f 2882 0) fl g gl hh v tx)) rfl ?_
  refine WP.of (fun _ _ => Ex.iast hP_21 (w2 := Wd (va_up f 2882 0) fl (va_up g 48 (upd (g 48) 0 0)) gl hh v tx) rfl (Wa_48 _ _ _ _ _ _ _) (by decide) (Ws_48 _ _ _ _ _ _ _ _)) ?_
  refine WP.run hP_21 3 (c' := (31, [some (.ref 45), some (.ref 1), some (.ref 38), some (.int l3), some (.int l4), none, none, none], [.int 0, .int l3, .ref 45], Wd (va_up f 2882 0) fl (va_up g 48 (upd (g 48) 0 0)) gl hh v tx)) rfl ?_
  refine WP.call hP_21 hP_23 (as := [.ref 45, .int l3, .int 0]) (pc' := 34) (L' := [some (.ref 45), some (.ref 1), some (.ref 38), some (.int l3), some (.int l4), none, none, none]) (st' := []) (w1 := Wd (va_up f 2882 0) fl (va_up g 48 (upd (g 48) 0 0)) gl hh v tx) rfl ⟨Nat.le_of_ble_eq_true rfl, Nat.le_of_ble_eq_true rfl⟩ rfl (b_yco_arrive_45_0 X (d) (va_up f 2882 0) fl (va_up g 48 (upd (g 48) 0 0)) gl hh v tx l3 0 _ ?_)
  refine ⟨h.1, ?_⟩
  have h1 := h.2
  refine ⟨fun c2 => ?_, fun c2 => ?_⟩
  · have h3 := h1.1 c2
    refine WP.run hP_21 1 (c' := (36, [some (.ref 45), some (.ref 1), some (.ref 38), some (.int l3), some (.int l4), none, none, none], [.int l4, .int (l3 / (40 : Int32))], Wd (va_up f 2882 0) fl (va_up g 48 (upd (g 48) 0 0)) gl hh v tx)) rfl ?_
    refine WP.br hP_21 (q := ¬ (l3 / (40 : Int32)) = l4) (t := 43) (f := 39) (L := [some (.ref 45), some (.ref 1), some (.ref 38), some (.int l3), some (.int l4), none, none, none]) (st := []) (w := Wd (va_up f 2882 0) fl (va_up g 48 (upd (g 48) 0 0)) gl hh v tx) rfl (fun c4 => ?_) (fun c4 => ?_)
    · have h5 := h3.1 c4
      refine WP.run hP_21 1 (c' := (44, [some (.ref 45), some (.ref 1), some (.ref 38), none, some (.int l4), none, none, none], [.int 0], Wd (va_up f 2882 0) fl (va_up g 48 (upd (g 48) 0 0)) gl hh v tx)) rfl ?_
      refine WP.run hP_21 2 (c' := (47, [some (.ref 45), some (.ref 1), some (.ref 38), none, some (.int l4), some (.int 0), none, none], [.int 0], Wd (va_up f 2882 0) fl (va_up g 48 (upd (g 48) 0 0)) gl hh v tx)) rfl ?_
      refine WP.run hP_21 1 (c' := (49, [some (.ref 45), some (.ref 1), some (.ref 38), none, some (.int l4), some (.int 0), some (.int 0), none], [], Wd (va_up f 2882 0) fl (va_up g 48 (upd (g 48) 0 0)) gl hh v tx)) rfl ?_
      exact h5
    · have h6 := h3.2 (Classical.not_not.mp c4)
      refine WP.run hP_21 4 (c' := (47, [some (.ref 45), some (.ref 1), some (.ref 38), none, some (.int l4), some (.int 1), none, none], [.int 0], Wd (va_up f 2882 0) fl (va_up g 48 (upd (g 48) 0 0)) gl hh v tx)) rfl ?_
      refine WP.run hP_21 1 (c' := (49, [some (.ref 45), some (.ref 1), some (.ref 38), none, some (.int l4), some (.int 1), some (.int 0), none], [], Wd (va_up f 2882 0) fl (va_up g 48 (upd (g 48) 0 0)) gl hh v tx)) rfl ?_
      exact h6
  · have h7 := h1.2 c2
    refine ⟨fun c => absurd c (show ¬ (1000 : Int32) ≤ 0 by decide), fun c8 => ?_⟩
    refine ⟨h7.1, ?_⟩
    have h9 := h7.2
    refine ⟨h9.1, ?_⟩
    have h10 := h9.2
    refine WP.run hP_21 1 (c' := (36, [some (.ref 45), some (.ref 1), some (.ref 38), some (.int l3), some (.int l4), none, none, none], [.int l4, .int (l3 / (40 : Int32))], Wd (va_up f 2882 (0 + (1 : Int32))) fl (va_up (va_up (va_up g 48 (upd (g 48) 0 0)) 46 (upd (g 46) (l3.toNatClampNeg) (0 : Int32))) 47 (upd (g 47) ((0 : Int32).toNatClampNeg) l3)) gl hh v tx)) rfl ?_
    refine WP.br hP_21 (q := ¬ (l3 / (40 : Int32)) = l4) (t := 43) (f := 39) (L := [some (.ref 45), some (.ref 1), some (.ref 38), some (.int l3), some (.int l4), none, none, none]) (st := []) (w := Wd (va_up f 2882 (0 + (1 : Int32))) fl (va_up (va_up (va_up g 48 (upd (g 48) 0 0)) 46 (upd (g 46) (l3.toNatClampNeg) (0 : Int32))) 47 (upd (g 47) ((0 : Int32).toNatClampNeg) l3)) gl hh v tx) rfl (fun c11 => ?_) (fun c11 => ?_)
    · have h12 := h10.1 c11
      refine WP.run hP_21 1 (c' := (44, [some (.ref 45), some (.ref 1), some (.ref 38), none, some (.int l4), none, none, none], [.int 0], Wd (va_up f 2882 (0 + (1 : Int32))) fl (va_up (va_up (va_up g 48 (upd (g 48) 0 0)) 46 (upd (g 46) (l3.toNatClampNeg) (0 : Int32))) 47 (upd (g 47) ((0 : Int32).toNatClampNeg) l3)) gl hh v tx)) rfl ?_
      refine WP.run hP_21 2 (c' := (47, [some (.ref 45), some (.ref 1), some (.ref 38), none, some (.int l4), some (.int 0), none, none], [.int 0], Wd (va_up f 2882 (0 + (1 : Int32))) fl (va_up (va_up (va_up g 48 (upd (g 48) 0 0)) 46 (upd (g 46) (l3.toNatClampNeg) (0 : Int32))) 47 (upd (g 47) ((0 : Int32).toNatClampNeg) l3)) gl hh v tx)) rfl ?_
      refine WP.run hP_21 1 (c' := (49, [some (.ref 45), some (.ref 1), some (.ref 38), none, some (.int l4), some (.int 0), some (.int 0), none], [], Wd (va_up f 2882 (0 + (1 : Int32))) fl (va_up (va_up (va_up g 48 (upd (g 48) 0 0)) 46 (upd (g 46) (l3.toNatClampNeg) (0 : Int32))) 47 (upd (g 47) ((0 : Int32).toNatClampNeg) l3)) gl hh v tx)) rfl ?_
      exact h12
    · have h13 := h10.2 (Classical.not_not.mp c11)
      refine WP.run hP_21 4 (c' := (47, [some (.ref 45), some (.ref 1), some (.ref 38), none, some (.int l4), some (.int 1), none, none], [.int 0], Wd (va_up f 2882 (0 + (1 : Int32))) fl (va_up (va_up (va_up g 48 (upd (g 48) 0 0)) 46 (upd (g 46) (l3.toNatClampNeg) (0 : Int32))) 47 (upd (g 47) ((0 : Int32).toNatClampNeg) l3)) gl hh v tx)) rfl ?_
      refine WP.run hP_21 1 (c' := (49, [some (.ref 45), some (.ref 1), some (.ref 38), none, some (.int l4), some (.int 1), some (.int 0), none], [], Wd (va_up f 2882 (0 + (1 : Int32))) fl (va_up (va_up (va_up g 48 (upd (g 48) 0 0)) 46 (upd (g 46) (l3.toNatClampNeg) (0 : Int32))) 47 (upd (g 47) ((0 : Int32).toNatClampNeg) l3)) gl hh v tx)) rfl ?_
      exact h13

set_option maxRecDepth 20000 in
theorem b_yco_search_45_1_38_49 (X : mm_X) (d : Nat) (f : Nat → Int32) (fl : Nat → Int64) (g : Nat → Nat → Int32) (gl : Nat → Nat → Int64) (hh : Nat → Nat → Option Nat) (v : Nat → Value) (tx : mm_W) (l4 : Int32) (l5 : Int32) (l6 : Int32)  (P : Option Value → mm_W → Prop)
    (h : ((¬ l5 = 0) → (((¬ l5 = 0) → WP X (d) 27 (0, [some (.ref 45), some (.ref 1), some (.int l6), some (.int l4), none, none, none], [], Wd f fl g gl hh v tx) (fun rv w2 => WP X (d + 1) 21 (207, [some (.ref 45), some (.ref 1), none, none, some (.int l4), none, some (.int l6), none], rv.toList ++ [], w2) P)) ∧
      ((l5 = 0) → P (some (.int (-1))) (Wd f fl g gl hh v tx)))) ∧
    ((l5 = 0) → (((4000 ≤ l6) → (((¬ l5 = 0) → WP X (d) 27 (0, [some (.ref 45), some (.ref 1), some (.int l6), some (.int l4), none, none, none], [], Wd f fl g gl hh v tx) (fun rv w2 => WP X (d + 1) 21 (207, [some (.ref 45), some (.ref 1), none, none, some (.int l4), none, some (.int l6), none], rv.toList ++ [], w2) P)) ∧
        ((l5 = 0) → P (some (.int (-1))) (Wd f fl g gl hh v tx)))) ∧
      ((¬ (4000 ≤ l6)) → ((¬ (((if 0 < (l6 - (3 : Int32)) then (l6 - (3 : Int32)) else 0) - ((if 0 < (l6 - (3 : Int32)) then (l6 - (3 : Int32)) else 0) / (8 : Int32)) * (8 : Int32)) < 0 ∨ 8 ≤ ((if 0 < (l6 - (3 : Int32)) then (l6 - (3 : Int32)) else 0) - ((if 0 < (l6 - (3 : Int32)) then (l6 - (3 : Int32)) else 0) / (8 : Int32)) * (8 : Int32)).toNatClampNeg)) ∧ ((((f 2882) ≤ ((g 48) ((if 0 < (l6 - (3 : Int32)) then (l6 - (3 : Int32)) else 0) - ((if 0 < (l6 - (3 : Int32)) then (l6 - (3 : Int32)) else 0) / (8 : Int32)) * (8 : Int32)).toNatClampNeg)) → (((¬ l5 = 0) → WP X (d) 27 (0, [some (.ref 45), some (.ref 1), some (.int l6), some (.int l4), none, none, none], [], Wd f fl g gl hh v tx) (fun rv w2 => WP X (d + 1) 21 (207, [some (.ref 45), some (.ref 1), none, none, some (.int l4), none, some (.int l6), none], rv.toList ++ [], w2) P)) ∧
          ((l5 = 0) → P (some (.int (-1))) (Wd f fl g gl hh v tx)))) ∧
        ((¬ ((f 2882) ≤ ((g 48) ((if 0 < (l6 - (3 : Int32)) then (l6 - (3 : Int32)) else 0) - ((if 0 < (l6 - (3 : Int32)) then (l6 - (3 : Int32)) else 0) / (8 : Int32)) * (8 : Int32)).toNatClampNeg))) → ((¬ ((l6 - (l6 / (8 : Int32)) * (8 : Int32)) < 0 ∨ 8 ≤ (l6 - (l6 / (8 : Int32)) * (8 : Int32)).toNatClampNeg)) ∧ WP X (d + 1) 21 (97, [some (.ref 45), some (.ref 1), some (.ref 38), none, some (.int l4), some (.int l5), some (.int l6), some (.int ((g 48) (l6 - (l6 / (8 : Int32)) * (8 : Int32)).toNatClampNeg))], [], Wd f fl g gl hh v tx) P)))))))) :
    WP X (d + 1) 21 (49, [some (.ref 45), some (.ref 1), some (.ref 38), none, some (.int l4), some (.int l5), some (.int l6), none], [], Wd f fl g gl hh v tx) P := by
  refine WP.run hP_21 1 (c' := (51, [some (.ref 45), some (.ref 1), some (.ref 38), none, some (.int l4), some (.int l5), some (.int l6), none], [.int l5], Wd f fl g gl hh v tx)) rfl ?_
  refine WP.br hP_21 (q := ¬ l5 = 0) (t := 191) (f := 54) (L := [some (.ref 45), some (.ref 1), some (.ref 38), none, some (.int l4), some (.int l5), some (.int l6), none]) (st := []) (w := Wd f fl g gl hh v tx) rfl (fun c1 => ?_) (fun c1 => ?_)
  · have h2 := h.1 c1
    refine WP.run hP_21 1 (c' := (193, [some (.ref 45), some (.ref 1), none, none, some (.int l4), some (.int l5), some (.int l6), none], [.int l5], Wd f fl g gl hh v tx)) rfl ?_
    refine WP.br hP_21 (q := ¬ l5 = 0) (t := 198) (f := 196) (L := [some (.ref 45), some (.ref 1), none, none, some (.int l4), some (.int l5), some (.int l6), none]) (st := []) (w := Wd f fl g gl hh v tx) rfl (fun c3 => ?_) (fun c3 => ?_)
    · have h4 := h2.1 c3
      refine WP.run hP_21 4 (c' := (204, [some (.ref 45), some (.ref 1), none, none, some (.int l4), none, some (.int l6), none], [.int l4, .int l6, .ref 1, .ref 45], Wd f fl g gl hh v tx)) rfl ?_
      refine WP.call hP_21 hP_27 (as := [.ref 45, .ref 1, .int l6, .int l4]) (pc' := 207) (L' := [some (.ref 45), some (.ref 1), none, none, some (.int l4), none, some (.int l6), none]) (st' := []) (w1 := Wd f fl g gl hh v tx) rfl ⟨Nat.le_of_ble_eq_true rfl, Nat.le_of_ble_eq_true rfl⟩ rfl ?_
      exact h4
    · have h5 := h2.2 (Classical.not_not.mp c3)
      refine WP.run hP_21 1 (c' := (197, [some (.ref 45), some (.ref 1), none, none, some (.int l4), some (.int l5), some (.int l6), none], [.int (-1)], Wd f fl g gl hh v tx)) rfl ?_
      exact WP.retI hP_21 rfl rfl h5
  · have h6 := h.2 (Classical.not_not.mp c1)
    refine WP.run hP_21 2 (c' := (59, [some (.ref 45), some (.ref 1), some (.ref 38), none, some (.int l4), some (.int l5), some (.int l6), none], [.int 4000, .int l6], Wd f fl g gl hh v tx)) rfl ?_
    refine WP.br hP_21 (q := 4000 ≤ l6) (t := 191) (f := 62) (L := [some (.ref 45), some (.ref 1), some (.ref 38), none, some (.int l4), some (.int l5), some (.int l6), none]) (st := []) (w := Wd f fl g gl hh v tx) rfl (fun c7 => ?_) (fun c7 => ?_)
    · have h8 := h6.1 c7
      refine WP.run hP_21 1 (c' := (193, [some (.ref 45), some (.ref 1), none, none, some (.int l4), some (.int l5), some (.int l6), none], [.int l5], Wd f fl g gl hh v tx)) rfl ?_
      refine WP.br hP_21 (q := ¬ l5 = 0) (t := 198) (f := 196) (L := [some (.ref 45), some (.ref 1), none, none, some (.int l4), some (.int l5), some (.int l6), none]) (st := []) (w := Wd f fl g gl hh v tx) rfl (fun c9 => ?_) (fun c9 => ?_)
      · have h10 := h8.1 c9
        refine WP.run hP_21 4 (c' := (204, [some (.ref 45), some (.ref 1), none, none, some (.int l4), none, some (.int l6), none], [.int l4, .int l6, .ref 1, .ref 45], Wd f fl g gl hh v tx)) rfl ?_
        refine WP.call hP_21 hP_27 (as := [.ref 45, .ref 1, .int l6, .int l4]) (pc' := 207) (L' := [some (.ref 45), some (.ref 1), none, none, some (.int l4), none, some (.int l6), none]) (st' := []) (w1 := Wd f fl g gl hh v tx) rfl ⟨Nat.le_of_ble_eq_true rfl, Nat.le_of_ble_eq_true rfl⟩ rfl ?_
        exact h10
      · have h11 := h8.2 (Classical.not_not.mp c9)
        refine WP.run hP_21 1 (c' := (197, [some (.ref 45), some (.ref 1), none, none, some (.int l4), some (.int l5), some (.int l6), none], [.int (-1)], Wd f fl g gl hh v tx)) rfl ?_
        exact WP.retI hP_21 rfl rfl h11
    · have h12 := h6.2 c7
      refine WP.run hP_21 11 (c' := (81, [some (.ref 45), some (.ref 1), some (.ref 38), none, some (.int l4), some (.int l5), some (.int l6), none], [.int ((if 0 < (l6 - (3 : Int32)) then (l6 - (3 : Int32)) else 0) - ((if 0 < (l6 - (3 : Int32)) then (l6 - (3 : Int32)) else 0) / (8 : Int32)) * (8 : Int32)), .ref 48, .int (f 2882)], Wd f fl g gl hh v tx)) rfl ?_
      refine WP.of (fun _ _ => Ex.iald hP_21 rfl (Wa_48 _ _ _ _ _ _ _) h12.1) ?_
      have h13 := h12.2
      refine WP.br hP_21 (q := (f 2882) ≤ ((g 48) ((if 0 < (l6 - (3 : Int32)) then (l6 - (3 : Int32)) else 0) - ((if 0 < (l6 - (3 : Int32)) then (l6 - (3 : Int32)) else 0) / (8 : Int32)) * (8 : Int32)).toNatClampNeg)) (t := 191) (f := 85) (L := [some (.ref 45), some (.ref 1), some (.ref 38), none, some (.int l4), some (.int l5), some (.int l6), none]) (st := []) (w := Wd f fl g gl hh v tx) rfl (fun c14 => ?_) (fun c14 => ?_)
      · have h15 := h13.1 c14
        refine WP.run hP_21 1 (c' := (193, [some (.ref 45), some (.ref 1), none, none, some (.int l4), some (.int l5), some (.int l6), none], [.int l5], Wd f fl g gl hh v tx)) rfl ?_
        refine WP.br hP_21 (q := ¬ l5 = 0) (t := 198) (f := 196) (L := [some (.ref 45), some (.ref 1), none, none, some (.int l4), some (.int l5), some (.int l6), none]) (st := []) (w := Wd f fl g gl hh v tx) rfl (fun c16 => ?_) (fun c16 => ?_)
        · have h17 := h15.1 c16
          refine WP.run hP_21 4 (c' := (204, [some (.ref 45), some (.ref 1), none, none, some (.int l4), none, some (.int l6), none], [.int l4, .int l6, .ref 1, .ref 45], Wd f fl g gl hh v tx)) rfl ?_
          refine WP.call hP_21 hP_27 (as := [.ref 45, .ref 1, .int l6, .int l4]) (pc' := 207) (L' := [some (.ref 45), some (.ref 1), none, none, some (.int l4), none, some (.int l6), none]) (st' := []) (w1 := Wd f fl g gl hh v tx) rfl ⟨Nat.le_of_ble_eq_true rfl, Nat.le_of_ble_eq_true rfl⟩ rfl ?_
          exact h17
        · have h18 := h15.2 (Classical.not_not.mp c16)
          refine WP.run hP_21 1 (c' := (197, [some (.ref 45), some (.ref 1), none, none, some (.int l4), some (.int l5), some (.int l6), none], [.int (-1)], Wd f fl g gl hh v tx)) rfl ?_
          exact WP.retI hP_21 rfl rfl h18
      · have h19 := h13.2 c14
        refine WP.run hP_21 5 (c' := (94, [some (.ref 45), some (.ref 1), some (.ref 38), none, some (.int l4), some (.int l5), some (.int l6), none], [.int (l6 - (l6 / (8 : Int32)) * (8 : Int32)), .ref 48], Wd f fl g gl hh v tx)) rfl ?_
        refine WP.of (fun _ _ => Ex.iald hP_21 rfl (Wa_48 _ _ _ _ _ _ _) h19.1) ?_
        have h20 := h19.2
        refine WP.run hP_21 1 (c' := (97, [some (.ref 45), some (.ref 1), some (.ref 38), none, some (.int l4), some (.int l5), some (.int l6), some (.int ((g 48) (l6 - (l6 / (8 : Int32)) * (8 : Int32)).toNatClampNeg))], [], Wd f fl g gl hh v tx)) rfl ?_
        exact h20

set_option maxRecDepth 20000 in
theorem b_yco_search_45_1_38_207 (X : mm_X) (d : Nat) (f : Nat → Int32) (fl : Nat → Int64) (g : Nat → Nat → Int32) (gl : Nat → Nat → Int64) (hh : Nat → Nat → Option Nat) (v : Nat → Value) (tx : mm_W) (l4 : Int32) (l6 : Int32)  (P : Option Value → mm_W → Prop)
    (h : P (some (.int l6)) (Wd f fl g gl hh v tx)) :
    WP X (d) 21 (207, [some (.ref 45), some (.ref 1), none, none, some (.int l4), none, some (.int l6), none], [], Wd f fl g gl hh v tx) P := by
  refine WP.run hP_21 1 (c' := (209, [some (.ref 45), some (.ref 1), none, none, some (.int l4), none, some (.int l6), none], [.int l6], Wd f fl g gl hh v tx)) rfl ?_
  exact WP.retI hP_21 rfl rfl h

set_option maxRecDepth 20000 in
theorem b_yco_search_45_1_38_97 (X : mm_X) (d : Nat) (f : Nat → Int32) (fl : Nat → Int64) (g : Nat → Nat → Int32) (gl : Nat → Nat → Int64) (hh : Nat → Nat → Option Nat) (v : Nat → Value) (tx : mm_W) (l4 : Int32) (l5 : Int32) (l6 : Int32) (l7 : Int32)  (P : Option Value → mm_W → Prop)
    (h : (((f 2882) ≤ l7) → ((¬ (((l6 + (1 : Int32)) - ((l6 + (1 : Int32)) / (8 : Int32)) * (8 : Int32)) < 0 ∨ 8 ≤ ((l6 + (1 : Int32)) - ((l6 + (1 : Int32)) / (8 : Int32)) * (8 : Int32)).toNatClampNeg)) ∧ WP X (d + 1) 21 (145, [some (.ref 45), some (.ref 1), some (.ref 38), none, some (.int l4), some (.int l5), some (.int (l6 + (1 : Int32))), some (.int 1)], [], Wd f fl (va_up g 48 (upd (g 48) (((l6 + (1 : Int32)) - ((l6 + (1 : Int32)) / (8 : Int32)) * (8 : Int32)).toNatClampNeg) (f 2882))) gl hh v tx) P)) ∧
    ((¬ ((f 2882) ≤ l7)) → ((¬ (l7 < 0 ∨ 1000 ≤ l7.toNatClampNeg)) ∧ WP X (d) 24 (0, [some (.ref 45), some (.ref 1), some (.ref 38), some (.int ((g 47) l7.toNatClampNeg)), none, none, none, none, none], [], Wd f fl g gl hh v tx) (fun rv w2 => WP X (d + 1) 21 (119, [some (.ref 45), some (.ref 1), some (.ref 38), none, some (.int l4), some (.int l5), some (.int l6), some (.int l7)], rv.toList ++ [], w2) P)))) :
    WP X (d + 1) 21 (97, [some (.ref 45), some (.ref 1), some (.ref 38), none, some (.int l4), some (.int l5), some (.int l6), some (.int l7)], [], Wd f fl g gl hh v tx) P := by
  refine WP.run hP_21 3 (c' := (103, [some (.ref 45), some (.ref 1), some (.ref 38), none, some (.int l4), some (.int l5), some (.int l6), some (.int l7)], [.int (f 2882), .int l7], Wd f fl g gl hh v tx)) rfl ?_
  refine WP.br hP_21 (q := (f 2882) ≤ l7) (t := 125) (f := 106) (L := [some (.ref 45), some (.ref 1), some (.ref 38), none, some (.int l4), some (.int l5), some (.int l6), some (.int l7)]) (st := []) (w := Wd f fl g gl hh v tx) rfl (fun c1 => ?_) (fun c1 => ?_)
  · have h2 := h.1 c1
    refine WP.run hP_21 8 (c' := (141, [some (.ref 45), some (.ref 1), some (.ref 38), none, some (.int l4), some (.int l5), some (.int (l6 + (1 : Int32))), none], [.int (f 2882), .int ((l6 + (1 : Int32)) - ((l6 + (1 : Int32)) / (8 : Int32)) * (8 : Int32)), .ref 48], Wd f fl g gl hh v tx)) rfl ?_
    refine WP.of (fun _ _ => Ex.iast hP_21 (w2 := Wd f fl (va_up g 48 (upd (g 48) (((l6 + (1 : Int32)) - ((l6 + (1 : Int32)) / (8 : Int32)) * (8 : Int32)).toNatClampNeg) (f 2882))) gl hh v tx) rfl (Wa_48 _ _ _ _ _ _ _) h2.1 (Ws_48 _ _ _ _ _ _ _ _)) ?_
    have h3 := h2.2
    refine WP.run hP_21 2 (c' := (145, [some (.ref 45), some (.ref 1), some (.ref 38), none, some (.int l4), some (.int l5), some (.int (l6 + (1 : Int32))), some (.int 1)], [], Wd f fl (va_up g 48 (upd (g 48) (((l6 + (1 : Int32)) - ((l6 + (1 : Int32)) / (8 : Int32)) * (8 : Int32)).toNatClampNeg) (f 2882))) gl hh v tx)) rfl ?_
    exact h3
  · have h4 := h.2 c1
    refine WP.run hP_21 6 (c' := (115, [some (.ref 45), some (.ref 1), some (.ref 38), none, some (.int l4), some (.int l5), some (.int l6), some (.int l7)], [.int l7, .ref 47, .ref 38, .ref 1, .ref 45], Wd f fl g gl hh v tx)) rfl ?_
    refine WP.of (fun _ _ => Ex.iald hP_21 rfl (Wa_47 _ _ _ _ _ _ _) h4.1) ?_
    have h5 := h4.2
    refine WP.call hP_21 hP_24 (as := [.ref 45, .ref 1, .ref 38, .int ((g 47) l7.toNatClampNeg)]) (pc' := 119) (L' := [some (.ref 45), some (.ref 1), some (.ref 38), none, some (.int l4), some (.int l5), some (.int l6), some (.int l7)]) (st' := []) (w1 := Wd f fl g gl hh v tx) rfl ⟨Nat.le_of_ble_eq_true rfl, Nat.le_of_ble_eq_true rfl⟩ rfl ?_
    exact h5

set_option maxRecDepth 20000 in
theorem b_yco_search_45_1_38_145 (X : mm_X) (d : Nat) (f : Nat → Int32) (fl : Nat → Int64) (g : Nat → Nat → Int32) (gl : Nat → Nat → Int64) (hh : Nat → Nat → Option Nat) (v : Nat → Value) (tx : mm_W) (l4 : Int32) (l5 : Int32) (l6 : Int32) (l7 : Int32)  (P : Option Value → mm_W → Prop)
    (h : (((if 4 < l6 then 4 else l6) < l7) → WP X (d + 1) 21 (49, [some (.ref 45), some (.ref 1), some (.ref 38), none, some (.int l4), some (.int l5), some (.int l6), none], [], Wd f fl g gl hh v tx) P) ∧
    ((¬ ((if 4 < l6 then 4 else l6) < l7)) → WP X (d) 25 (0, [some (.ref 45), some (.ref 1), some (.int l7), some (.int l6), some (.int l4), none, none, none, none, none], [], Wd f fl g gl hh v tx) (fun rv w2 => WP X (d + 1) 21 (167, [some (.ref 45), some (.ref 1), some (.ref 38), none, some (.int l4), some (.int l5), some (.int l6), some (.int l7)], rv.toList ++ [], w2) P))) :
    WP X (d + 1) 21 (145, [some (.ref 45), some (.ref 1), some (.ref 38), none, some (.int l4), some (.int l5), some (.int l6), some (.int l7)], [], Wd f fl g gl hh v tx) P := by
  refine WP.run hP_21 4 (c' := (153, [some (.ref 45), some (.ref 1), some (.ref 38), none, some (.int l4), some (.int l5), some (.int l6), some (.int l7)], [.int (if 4 < l6 then 4 else l6), .int l7], Wd f fl g gl hh v tx)) rfl ?_
  refine WP.br hP_21 (q := (if 4 < l6 then 4 else l6) < l7) (t := 188) (f := 156) (L := [some (.ref 45), some (.ref 1), some (.ref 38), none, some (.int l4), some (.int l5), some (.int l6), some (.int l7)]) (st := []) (w := Wd f fl g gl hh v tx) rfl (fun c1 => ?_) (fun c1 => ?_)
  · have h2 := h.1 c1
    refine WP.run hP_21 1 (c' := (49, [some (.ref 45), some (.ref 1), some (.ref 38), none, some (.int l4), some (.int l5), some (.int l6), none], [], Wd f fl g gl hh v tx)) rfl ?_
    exact h2
  · have h3 := h.2 c1
    refine WP.run hP_21 5 (c' := (164, [some (.ref 45), some (.ref 1), some (.ref 38), none, some (.int l4), some (.int l5), some (.int l6), some (.int l7)], [.int l4, .int l6, .int l7, .ref 1, .ref 45], Wd f fl g gl hh v tx)) rfl ?_
    refine WP.call hP_21 hP_25 (as := [.ref 45, .ref 1, .int l7, .int l6, .int l4]) (pc' := 167) (L' := [some (.ref 45), some (.ref 1), some (.ref 38), none, some (.int l4), some (.int l5), some (.int l6), some (.int l7)]) (st' := []) (w1 := Wd f fl g gl hh v tx) rfl ⟨Nat.le_of_ble_eq_true rfl, Nat.le_of_ble_eq_true rfl⟩ rfl ?_
    exact h3

set_option maxRecDepth 20000 in
theorem b_yco_search_45_1_38_119 (X : mm_X) (d : Nat) (f : Nat → Int32) (fl : Nat → Int64) (g : Nat → Nat → Int32) (gl : Nat → Nat → Int64) (hh : Nat → Nat → Option Nat) (v : Nat → Value) (tx : mm_W) (l4 : Int32) (l5 : Int32) (l6 : Int32) (l7 : Int32)  (P : Option Value → mm_W → Prop)
    (h : WP X (d) 21 (97, [some (.ref 45), some (.ref 1), some (.ref 38), none, some (.int l4), some (.int l5), some (.int l6), some (.int (l7 + (1 : Int32)))], [], Wd f fl g gl hh v tx) P) :
    WP X (d) 21 (119, [some (.ref 45), some (.ref 1), some (.ref 38), none, some (.int l4), some (.int l5), some (.int l6), some (.int l7)], [], Wd f fl g gl hh v tx) P := by
  refine WP.run hP_21 2 (c' := (97, [some (.ref 45), some (.ref 1), some (.ref 38), none, some (.int l4), some (.int l5), some (.int l6), some (.int (l7 + (1 : Int32)))], [], Wd f fl g gl hh v tx)) rfl ?_
  exact h

set_option maxRecDepth 20000 in
theorem b_yco_search_45_1_38_167 (X : mm_X) (d : Nat) (f : Nat → Int32) (fl : Nat → Int64) (g : Nat → Nat → Int32) (gl : Nat → Nat → Int64) (hh : Nat → Nat → Option Nat) (v : Nat → Value) (tx : mm_W) (l4 : Int32) (l5 : Int32) (l6 : Int32) (l7 : Int32) (s0 : Int32)  (P : Option Value → mm_W → Prop)
    (h : ((¬ s0 = 0) → WP X (d) 21 (145, [some (.ref 45), some (.ref 1), some (.ref 38), none, some (.int l4), some (.int 1), some (.int l6), some (.int (l7 + (1 : Int32)))], [], Wd f fl g gl hh v tx) P) ∧
    ((s0 = 0) → (((l5 = 0) → WP X (d) 21 (145, [some (.ref 45), some (.ref 1), some (.ref 38), none, some (.int l4), some (.int 0), some (.int l6), some (.int (l7 + (1 : Int32)))], [], Wd f fl g gl hh v tx) P) ∧
      ((¬ l5 = 0) → WP X (d) 21 (145, [some (.ref 45), some (.ref 1), some (.ref 38), none, some (.int l4), some (.int 1), some (.int l6), some (.int (l7 + (1 : Int32)))], [], Wd f fl g gl hh v tx) P)))) :
    WP X (d) 21 (167, [some (.ref 45), some (.ref 1), some (.ref 38), none, some (.int l4), some (.int l5), some (.int l6), some (.int l7)], [.int s0], Wd f fl g gl hh v tx) P := by
  refine WP.br hP_21 (q := ¬ s0 = 0) (t := 175) (f := 170) (L := [some (.ref 45), some (.ref 1), some (.ref 38), none, some (.int l4), some (.int l5), some (.int l6), some (.int l7)]) (st := []) (w := Wd f fl g gl hh v tx) rfl (fun c1 => ?_) (fun c1 => ?_)
  · have h2 := h.1 c1
    refine WP.run hP_21 2 (c' := (180, [some (.ref 45), some (.ref 1), some (.ref 38), none, some (.int l4), none, some (.int l6), some (.int l7)], [.int 1], Wd f fl g gl hh v tx)) rfl ?_
    refine WP.run hP_21 1 (c' := (182, [some (.ref 45), some (.ref 1), some (.ref 38), none, some (.int l4), some (.int 1), some (.int l6), some (.int l7)], [], Wd f fl g gl hh v tx)) rfl ?_
    refine WP.run hP_21 2 (c' := (145, [some (.ref 45), some (.ref 1), some (.ref 38), none, some (.int l4), some (.int 1), some (.int l6), some (.int (l7 + (1 : Int32)))], [], Wd f fl g gl hh v tx)) rfl ?_
    exact h2
  · have h3 := h.2 (Classical.not_not.mp c1)
    refine WP.run hP_21 1 (c' := (172, [some (.ref 45), some (.ref 1), some (.ref 38), none, some (.int l4), some (.int l5), some (.int l6), some (.int l7)], [.int l5], Wd f fl g gl hh v tx)) rfl ?_
    refine WP.br hP_21 (q := l5 = 0) (t := 179) (f := 175) (L := [some (.ref 45), some (.ref 1), some (.ref 38), none, some (.int l4), some (.int l5), some (.int l6), some (.int l7)]) (st := []) (w := Wd f fl g gl hh v tx) rfl (fun c4 => ?_) (fun c4 => ?_)
    · have h5 := h3.1 c4
      refine WP.run hP_21 1 (c' := (180, [some (.ref 45), some (.ref 1), some (.ref 38), none, some (.int l4), none, some (.int l6), some (.int l7)], [.int 0], Wd f fl g gl hh v tx)) rfl ?_
      refine WP.run hP_21 1 (c' := (182, [some (.ref 45), some (.ref 1), some (.ref 38), none, some (.int l4), some (.int 0), some (.int l6), some (.int l7)], [], Wd f fl g gl hh v tx)) rfl ?_
      refine WP.run hP_21 2 (c' := (145, [some (.ref 45), some (.ref 1), some (.ref 38), none, some (.int l4), some (.int 0), some (.int l6), some (.int (l7 + (1 : Int32)))], [], Wd f fl g gl hh v tx)) rfl ?_
      exact h5
    · have h6 := h3.2 c4
      refine WP.run hP_21 2 (c' := (180, [some (.ref 45), some (.ref 1), some (.ref 38), none, some (.int l4), none, some (.int l6), some (.int l7)], [.int 1], Wd f fl g gl hh v tx)) rfl ?_
      refine WP.run hP_21 1 (c' := (182, [some (.ref 45), some (.ref 1), some (.ref 38), none, some (.int l4), some (.int 1), some (.int l6), some (.int l7)], [], Wd f fl g gl hh v tx)) rfl ?_
      refine WP.run hP_21 2 (c' := (145, [some (.ref 45), some (.ref 1), some (.ref 38), none, some (.int l4), some (.int 1), some (.int l6), some (.int (l7 + (1 : Int32)))], [], Wd f fl g gl hh v tx)) rfl ?_
      exact h6

set_option maxRecDepth 20000 in
theorem b_yco_signAt_45_1_0 (X : mm_X) (d : Nat) (f : Nat → Int32) (fl : Nat → Int64) (g : Nat → Nat → Int32) (gl : Nat → Nat → Int64) (hh : Nat → Nat → Option Nat) (v : Nat → Value) (tx : mm_W) (p0 : Int32) (p1 : Int32)  (P : Option Value → mm_W → Prop)
    (h : WP X (d) 28 (0, [some (.ref 45), some (.ref 1), some (.int p0), none], [], Wd f fl g gl hh v tx) (fun rv w2 => WP X (d + 1) 22 (10, [some (.ref 45), some (.ref 1), some (.int p0), some (.int p1), some (.int p0), none, none], rv.toList ++ [], w2) P)) :
    WP X (d + 1) 22 (0, [some (.ref 45), some (.ref 1), some (.int p0), some (.int p1), none, none, none], [], Wd f fl g gl hh v tx) P := by
  refine WP.run hP_22 5 (c' := (7, [some (.ref 45), some (.ref 1), some (.int p0), some (.int p1), some (.int p0), none, none], [.int p0, .ref 1, .ref 45], Wd f fl g gl hh v tx)) rfl ?_
  refine WP.call hP_22 hP_28 (as := [.ref 45, .ref 1, .int p0]) (pc' := 10) (L' := [some (.ref 45), some (.ref 1), some (.int p0), some (.int p1), some (.int p0), none, none]) (st' := []) (w1 := Wd f fl g gl hh v tx) rfl ⟨Nat.le_of_ble_eq_true rfl, Nat.le_of_ble_eq_true rfl⟩ rfl ?_
  exact h

set_option maxRecDepth 20000 in
theorem b_yco_signAt_45_1_10 (X : mm_X) (d : Nat) (f : Nat → Int32) (fl : Nat → Int64) (g : Nat → Nat → Int32) (gl : Nat → Nat → Int64) (hh : Nat → Nat → Option Nat) (v : Nat → Value) (tx : mm_W) (l2 : Int32) (l3 : Int32) (l4 : Int32) (s0 : Int32)  (P : Option Value → mm_W → Prop)
    (h : WP X (d) 22 (15, [some (.ref 45), some (.ref 1), none, some (.int l3), some (.int l4), some (.int s0), some (.int 0)], [], Wd f fl g gl hh v tx) P) :
    WP X (d) 22 (10, [some (.ref 45), some (.ref 1), some (.int l2), some (.int l3), some (.int l4), none, none], [.int s0], Wd f fl g gl hh v tx) P := by
  refine WP.run hP_22 2 (c' := (13, [some (.ref 45), some (.ref 1), some (.int l2), some (.int l3), some (.int l4), some (.int s0), none], [.int 0], Wd f fl g gl hh v tx)) rfl ?_
  refine WP.run hP_22 1 (c' := (15, [some (.ref 45), some (.ref 1), some (.int l2), some (.int l3), some (.int l4), some (.int s0), some (.int 0)], [], Wd f fl g gl hh v tx)) rfl ?_
  refine WP.clr hP_22 (pc := 15) rfl ?_
  exact h

set_option maxRecDepth 20000 in
theorem b_yco_signAt_45_1_15 (X : mm_X) (d : Nat) (f : Nat → Int32) (fl : Nat → Int64) (g : Nat → Nat → Int32) (gl : Nat → Nat → Int64) (hh : Nat → Nat → Option Nat) (v : Nat → Value) (tx : mm_W) (l3 : Int32) (l4 : Int32) (l5 : Int32) (l6 : Int32)  (P : Option Value → mm_W → Prop)
    (h : ((l3 ≤ l6) → P (some (.int l5)) (Wd f fl g gl hh v tx)) ∧
    ((¬ (l3 ≤ l6)) → (((4000 ≤ l6) → P (some (.int l5)) (Wd f fl g gl hh v tx)) ∧
      ((¬ (4000 ≤ l6)) → (((l5 = (-1)) → P (some (.int l5)) (Wd f fl g gl hh v tx)) ∧
        ((¬ l5 = (-1)) → ((¬ (l5 < 0 ∨ 8 ≤ l5.toNatClampNeg)) ∧ WP X (d) 26 (0, [some (.ref 45), some (.int l4), some (.int ((g 4) l5.toNatClampNeg)), none], [], Wd f fl g gl hh v tx) (fun rv w2 => WP X (d + 1) 22 (48, [some (.ref 45), some (.ref 1), none, some (.int l3), some (.int l4), some (.int l5), some (.int l6)], rv.toList ++ [], w2) P)))))))) :
    WP X (d + 1) 22 (15, [some (.ref 45), some (.ref 1), none, some (.int l3), some (.int l4), some (.int l5), some (.int l6)], [], Wd f fl g gl hh v tx) P := by
  refine WP.run hP_22 2 (c' := (18, [some (.ref 45), some (.ref 1), none, some (.int l3), some (.int l4), some (.int l5), some (.int l6)], [.int l3, .int l6], Wd f fl g gl hh v tx)) rfl ?_
  refine WP.br hP_22 (q := l3 ≤ l6) (t := 65) (f := 21) (L := [some (.ref 45), some (.ref 1), none, some (.int l3), some (.int l4), some (.int l5), some (.int l6)]) (st := []) (w := Wd f fl g gl hh v tx) rfl (fun c1 => ?_) (fun c1 => ?_)
  · have h2 := h.1 c1
    refine WP.run hP_22 1 (c' := (67, [none, none, none, none, none, some (.int l5), none], [.int l5], Wd f fl g gl hh v tx)) rfl ?_
    exact WP.retI hP_22 rfl rfl h2
  · have h3 := h.2 c1
    refine WP.run hP_22 2 (c' := (26, [some (.ref 45), some (.ref 1), none, some (.int l3), some (.int l4), some (.int l5), some (.int l6)], [.int 4000, .int l6], Wd f fl g gl hh v tx)) rfl ?_
    refine WP.br hP_22 (q := 4000 ≤ l6) (t := 65) (f := 29) (L := [some (.ref 45), some (.ref 1), none, some (.int l3), some (.int l4), some (.int l5), some (.int l6)]) (st := []) (w := Wd f fl g gl hh v tx) rfl (fun c4 => ?_) (fun c4 => ?_)
    · have h5 := h3.1 c4
      refine WP.run hP_22 1 (c' := (67, [none, none, none, none, none, some (.int l5), none], [.int l5], Wd f fl g gl hh v tx)) rfl ?_
      exact WP.retI hP_22 rfl rfl h5
    · have h6 := h3.2 c4
      refine WP.run hP_22 2 (c' := (32, [some (.ref 45), some (.ref 1), none, some (.int l3), some (.int l4), some (.int l5), some (.int l6)], [.int (-1), .int l5], Wd f fl g gl hh v tx)) rfl ?_
      refine WP.br hP_22 (q := l5 = (-1)) (t := 65) (f := 35) (L := [some (.ref 45), some (.ref 1), none, some (.int l3), some (.int l4), some (.int l5), some (.int l6)]) (st := []) (w := Wd f fl g gl hh v tx) rfl (fun c7 => ?_) (fun c7 => ?_)
      · have h8 := h6.1 c7
        refine WP.run hP_22 1 (c' := (67, [none, none, none, none, none, some (.int l5), none], [.int l5], Wd f fl g gl hh v tx)) rfl ?_
        exact WP.retI hP_22 rfl rfl h8
      · have h9 := h6.2 c7
        refine WP.run hP_22 5 (c' := (44, [some (.ref 45), some (.ref 1), none, some (.int l3), some (.int l4), some (.int l5), some (.int l6)], [.int l5, .ref 4, .int l4, .ref 45], Wd f fl g gl hh v tx)) rfl ?_
        refine WP.of (fun _ _ => Ex.iald hP_22 rfl (Wa_4 _ _ _ _ _ _ _) h9.1) ?_
        have h10 := h9.2
        refine WP.call hP_22 hP_26 (as := [.ref 45, .int l4, .int ((g 4) l5.toNatClampNeg)]) (pc' := 48) (L' := [some (.ref 45), some (.ref 1), none, some (.int l3), some (.int l4), some (.int l5), some (.int l6)]) (st' := []) (w1 := Wd f fl g gl hh v tx) rfl ⟨Nat.le_of_ble_eq_true rfl, Nat.le_of_ble_eq_true rfl⟩ rfl ?_
        exact h10

set_option maxRecDepth 20000 in
theorem b_yco_signAt_45_1_48 (X : mm_X) (d : Nat) (f : Nat → Int32) (fl : Nat → Int64) (g : Nat → Nat → Int32) (gl : Nat → Nat → Int64) (hh : Nat → Nat → Option Nat) (v : Nat → Value) (tx : mm_W) (l3 : Int32) (l4 : Int32) (l5 : Int32) (l6 : Int32) (s0 : Int32)  (P : Option Value → mm_W → Prop)
    (h : WP X (d) 28 (0, [some (.ref 45), some (.ref 1), some (.int s0), none], [], Wd f fl g gl hh v tx) (fun rv w2 => WP X (d + 1) 22 (57, [some (.ref 45), some (.ref 1), none, some (.int l3), some (.int s0), some (.int l5), some (.int l6)], rv.toList ++ [], w2) P)) :
    WP X (d + 1) 22 (48, [some (.ref 45), some (.ref 1), none, some (.int l3), some (.int l4), some (.int l5), some (.int l6)], [.int s0], Wd f fl g gl hh v tx) P := by
  refine WP.run hP_22 4 (c' := (54, [some (.ref 45), some (.ref 1), none, some (.int l3), some (.int s0), some (.int l5), some (.int l6)], [.int s0, .ref 1, .ref 45], Wd f fl g gl hh v tx)) rfl ?_
  refine WP.call hP_22 hP_28 (as := [.ref 45, .ref 1, .int s0]) (pc' := 57) (L' := [some (.ref 45), some (.ref 1), none, some (.int l3), some (.int s0), some (.int l5), some (.int l6)]) (st' := []) (w1 := Wd f fl g gl hh v tx) rfl ⟨Nat.le_of_ble_eq_true rfl, Nat.le_of_ble_eq_true rfl⟩ rfl ?_
  exact h

set_option maxRecDepth 20000 in
theorem b_yco_signAt_45_1_57 (X : mm_X) (d : Nat) (f : Nat → Int32) (fl : Nat → Int64) (g : Nat → Nat → Int32) (gl : Nat → Nat → Int64) (hh : Nat → Nat → Option Nat) (v : Nat → Value) (tx : mm_W) (l3 : Int32) (l4 : Int32) (l5 : Int32) (l6 : Int32) (s0 : Int32)  (P : Option Value → mm_W → Prop)
    (h : WP X (d) 22 (15, [some (.ref 45), some (.ref 1), none, some (.int l3), some (.int l4), some (.int s0), some (.int (l6 + (1 : Int32)))], [], Wd f fl g gl hh v tx) P) :
    WP X (d) 22 (57, [some (.ref 45), some (.ref 1), none, some (.int l3), some (.int l4), some (.int l5), some (.int l6)], [.int s0], Wd f fl g gl hh v tx) P := by
  refine WP.run hP_22 1 (c' := (59, [some (.ref 45), some (.ref 1), none, some (.int l3), some (.int l4), some (.int s0), some (.int l6)], [], Wd f fl g gl hh v tx)) rfl ?_
  refine WP.run hP_22 2 (c' := (15, [some (.ref 45), some (.ref 1), none, some (.int l3), some (.int l4), some (.int s0), some (.int (l6 + (1 : Int32)))], [], Wd f fl g gl hh v tx)) rfl ?_
  exact h

set_option maxRecDepth 20000 in
theorem b_x_plan_0 (X : mm_X) (d : Nat) (f : Nat → Int32) (fl : Nat → Int64) (g : Nat → Nat → Int32) (gl : Nat → Nat → Int64) (hh : Nat → Nat → Option Nat) (v : Nat → Value) (tx : mm_W) (p0 : Int32) (p1 : Int32) (p2 : Int32) (t0 : Nat)  (P : Option Value → mm_W → Prop)
    (h : ((0 ≤ p0 ∧ p0 < (f 68)) → (((0 ≤ p1 ∧ p1 < (25 : Int32)) → ((((-1) ≤ p2) → (((0 ≤ (f 76) ∧ (f 76) < (f 74)) → ((¬ ((f 76) < 0 ∨ 6 ≤ (f 76).toNatClampNeg)) ∧ (((mm_rf ((hh 7) (f 76).toNatClampNeg)) = .ref t0) ∧ WP X (d + 1) 2 (0, [some (.ref 38), some (.ref 1), some (.int p0), some (.ref t0)], [], Wd f fl g gl hh v tx) (fun rv w2 => WP X (d + 2) 83 (49, [some (.ref 0), some (.int p0), some (.int p1), some (.int p2), none, none], rv.toList ++ [], w2) P)))) ∧
          ((¬ (0 ≤ (f 76) ∧ (f 76) < (f 74))) → WP X (d + 1) 2 (0, [some (.ref 38), some (.ref 1), some (.int p0), some (.null)], [], Wd f fl g gl hh v tx) (fun rv w2 => WP X (d + 2) 83 (49, [some (.ref 0), some (.int p0), some (.int p1), some (.int p2), none, none], rv.toList ++ [], w2) P)))) ∧
        ((¬ ((-1) ≤ p2)) → P (some (.int (-1))) (Wd f fl g gl hh v tx)))) ∧
      ((¬ (0 ≤ p1 ∧ p1 < (25 : Int32))) → P (some (.int (-1))) (Wd f fl g gl hh v tx)))) ∧
    ((¬ (0 ≤ p0 ∧ p0 < (f 68))) → P (some (.int (-1))) (Wd f fl g gl hh v tx))) :
    WP X (d + 2) 83 (0, [some (.ref 0), some (.int p0), some (.int p1), some (.int p2), none, none], [], Wd f fl g gl hh v tx) P := by
  refine WP.run hP_83 4 (c' := (8, [some (.ref 0), some (.int p0), some (.int p1), some (.int p2), none, none], [.int (f 68), .int p0], Wd f fl g gl hh v tx)) rfl ?_
  refine WP.call hP_83 hP_99 (as := [.int p0, .int (f 68)]) (pc' := 11) (L' := [some (.ref 0), some (.int p0), some (.int p1), some (.int p2), none, none]) (st' := []) (w1 := Wd f fl g gl hh v tx) rfl ⟨Nat.le_of_ble_eq_true rfl, Nat.le_of_ble_eq_true rfl⟩ rfl (b_within_m X (d + 1) f fl g gl hh v tx p0 (f 68) _ ?_)
  refine ⟨fun c1 => ?_, fun c1 => ?_⟩
  · have h2 := h.1 c1
    refine WP.run hP_83 3 (c' := (17, [some (.ref 0), some (.int p0), some (.int p1), some (.int p2), none, none], [.int 25, .int p1], Wd f fl g gl hh v tx)) rfl ?_
    refine WP.call hP_83 hP_99 (as := [.int p1, .int 25]) (pc' := 20) (L' := [some (.ref 0), some (.int p0), some (.int p1), some (.int p2), none, none]) (st' := []) (w1 := Wd f fl g gl hh v tx) rfl ⟨Nat.le_of_ble_eq_true rfl, Nat.le_of_ble_eq_true rfl⟩ rfl (b_within_m X (d + 1) f fl g gl hh v tx p1 25 _ ?_)
    refine ⟨fun c3 => ?_, fun c3 => ?_⟩
    · have h4 := h2.1 c3
      refine WP.run hP_83 3 (c' := (25, [some (.ref 0), some (.int p0), some (.int p1), some (.int p2), none, none], [.int (-1), .int p2], Wd f fl g gl hh v tx)) rfl ?_
      refine WP.br hP_83 (q := (-1) ≤ p2) (t := 30) (f := 28) (L := [some (.ref 0), some (.int p0), some (.int p1), some (.int p2), none, none]) (st := []) (w := Wd f fl g gl hh v tx) rfl (fun c5 => ?_) (fun c5 => ?_)
      · have h6 := h4.1 c5
        refine WP.run hP_83 7 (c' := (43, [some (.ref 0), some (.int p0), some (.int p1), some (.int p2), none, none], [.ref 1, .int p0, .ref 1, .ref 38], Wd f fl g gl hh v tx)) rfl ?_
        refine WP.call hP_83 hP_46 (as := [.ref 1]) (pc' := 46) (L' := [some (.ref 0), some (.int p0), some (.int p1), some (.int p2), none, none]) (st' := [.int p0, .ref 1, .ref 38]) (w1 := Wd f fl g gl hh v tx) rfl ⟨Nat.le_of_ble_eq_true rfl, Nat.le_of_ble_eq_true rfl⟩ rfl (b_yst_lawInForce_1_0 X (d) f fl g gl hh v tx  _ ?_)
        refine ⟨fun c7 => ?_, fun c7 => ?_⟩
        · have h8 := h6.1 c7
          refine ⟨h8.1, ?_⟩
          have h9 := h8.2
          rw [h9.1]
          have h10 := h9.2
          refine WP.call hP_83 hP_2 (as := [.ref 38, .ref 1, .int p0, .ref t0]) (pc' := 49) (L' := [some (.ref 0), some (.int p0), some (.int p1), some (.int p2), none, none]) (st' := []) (w1 := Wd f fl g gl hh v tx) rfl ⟨Nat.le_of_ble_eq_true rfl, Nat.le_of_ble_eq_true rfl⟩ rfl ?_
          exact h10
        · have h11 := h6.2 c7
          refine WP.call hP_83 hP_2 (as := [.ref 38, .ref 1, .int p0, .null]) (pc' := 49) (L' := [some (.ref 0), some (.int p0), some (.int p1), some (.int p2), none, none]) (st' := []) (w1 := Wd f fl g gl hh v tx) rfl ⟨Nat.le_of_ble_eq_true rfl, Nat.le_of_ble_eq_true rfl⟩ rfl ?_
          exact h11
      · have h12 := h4.2 c5
        refine WP.run hP_83 1 (c' := (29, [none, none, none, none, none, none], [.int (-1)], Wd f fl g gl hh v tx)) rfl ?_
        exact WP.retI hP_83 rfl rfl h12
    · have h13 := h2.2 c3
      refine WP.run hP_83 2 (c' := (29, [none, none, none, none, none, none], [.int (-1)], Wd f fl g gl hh v tx)) rfl ?_
      exact WP.retI hP_83 rfl rfl h13
  · have h14 := h.2 c1
    refine WP.run hP_83 2 (c' := (29, [none, none, none, none, none, none], [.int (-1)], Wd f fl g gl hh v tx)) rfl ?_
    exact WP.retI hP_83 rfl rfl h14

set_option maxRecDepth 20000 in
theorem b_x_plan_49 (X : mm_X) (d : Nat) (f : Nat → Int32) (fl : Nat → Int64) (g : Nat → Nat → Int32) (gl : Nat → Nat → Int64) (hh : Nat → Nat → Option Nat) (v : Nat → Value) (tx : mm_W) (l1 : Int32) (l2 : Int32) (l3 : Int32)  (P : Option Value → mm_W → Prop)
    (h : (¬ (l1 < 0 ∨ 3 ≤ l1.toNatClampNeg)) ∧ WP X (d) 21 (0, [some (.ref 45), some (.ref 1), some (.ref 38), some (.int ((g 5) l1.toNatClampNeg)), some (.int l2), none, none, none], [], Wd f fl g gl hh v tx) (fun rv w2 => WP X (d + 1) 83 (78, [some (.ref 0), some (.int l1), some (.int l2), some (.int l3), some (.int ((g 5) l1.toNatClampNeg)), none], rv.toList ++ [], w2) P)) :
    WP X (d + 1) 83 (49, [some (.ref 0), some (.int l1), some (.int l2), some (.int l3), none, none], [], Wd f fl g gl hh v tx) P := by
  refine WP.run hP_83 4 (c' := (57, [some (.ref 0), some (.int l1), some (.int l2), some (.int l3), none, none], [.int l1, .ref 5], Wd f fl g gl hh v tx)) rfl ?_
  refine WP.of (fun _ _ => Ex.iald hP_83 rfl (Wa_5 _ _ _ _ _ _ _) h.1) ?_
  have h1 := h.2
  refine WP.run hP_83 9 (c' := (75, [some (.ref 0), some (.int l1), some (.int l2), some (.int l3), some (.int ((g 5) l1.toNatClampNeg)), none], [.int l2, .int ((g 5) l1.toNatClampNeg), .ref 38, .ref 1, .ref 45], Wd f fl g gl hh v tx)) rfl ?_
  refine WP.call hP_83 hP_21 (as := [.ref 45, .ref 1, .ref 38, .int ((g 5) l1.toNatClampNeg), .int l2]) (pc' := 78) (L' := [some (.ref 0), some (.int l1), some (.int l2), some (.int l3), some (.int ((g 5) l1.toNatClampNeg)), none]) (st' := []) (w1 := Wd f fl g gl hh v tx) rfl ⟨Nat.le_of_ble_eq_true rfl, Nat.le_of_ble_eq_true rfl⟩ rfl ?_
  exact h1

set_option maxRecDepth 20000 in
theorem b_x_plan_78 (X : mm_X) (d : Nat) (f : Nat → Int32) (fl : Nat → Int64) (g : Nat → Nat → Int32) (gl : Nat → Nat → Int64) (hh : Nat → Nat → Option Nat) (v : Nat → Value) (tx : mm_W) (l1 : Int32) (l2 : Int32) (l3 : Int32) (l4 : Int32) (s0 : Int32)  (P : Option Value → mm_W → Prop)
    (h : ((s0 = (-1)) → P (some (.int s0)) (Wd f fl g gl hh v tx)) ∧
    ((¬ s0 = (-1)) → (((¬ l3 = (-1)) → WP X (d) 22 (0, [some (.ref 45), some (.ref 1), some (.int l4), some (.int l3), none, none, none], [], Wd f fl g gl hh v tx) (fun rv w2 => WP X (d + 1) 83 (110, [none, none, none, none, none, none], rv.toList ++ [], w2) P)) ∧
      ((l3 = (-1)) → P (some (.int s0)) (Wd f fl g gl hh v tx))))) :
    WP X (d + 1) 83 (78, [some (.ref 0), some (.int l1), some (.int l2), some (.int l3), some (.int l4), none], [.int s0], Wd f fl g gl hh v tx) P := by
  refine WP.run hP_83 3 (c' := (83, [some (.ref 0), some (.int l1), some (.int l2), some (.int l3), some (.int l4), some (.int s0)], [.int (-1), .int s0], Wd f fl g gl hh v tx)) rfl ?_
  refine WP.br hP_83 (q := s0 = (-1)) (t := 91) (f := 86) (L := [some (.ref 0), some (.int l1), some (.int l2), some (.int l3), some (.int l4), some (.int s0)]) (st := []) (w := Wd f fl g gl hh v tx) rfl (fun c1 => ?_) (fun c1 => ?_)
  · have h2 := h.1 c1
    refine WP.run hP_83 2 (c' := (110, [none, none, none, none, none, some (.int s0)], [.int s0], Wd f fl g gl hh v tx)) rfl ?_
    exact WP.retI hP_83 rfl rfl h2
  · have h3 := h.2 c1
    refine WP.run hP_83 2 (c' := (88, [some (.ref 0), some (.int l1), some (.int l2), some (.int l3), some (.int l4), some (.int s0)], [.int (-1), .int l3], Wd f fl g gl hh v tx)) rfl ?_
    refine WP.br hP_83 (q := ¬ l3 = (-1)) (t := 96) (f := 91) (L := [some (.ref 0), some (.int l1), some (.int l2), some (.int l3), some (.int l4), some (.int s0)]) (st := []) (w := Wd f fl g gl hh v tx) rfl (fun c4 => ?_) (fun c4 => ?_)
    · have h5 := h3.1 c4
      refine WP.run hP_83 6 (c' := (107, [some (.ref 0), none, none, some (.int l3), some (.int l4), none], [.int l3, .int l4, .ref 1, .ref 45], Wd f fl g gl hh v tx)) rfl ?_
      refine WP.call hP_83 hP_22 (as := [.ref 45, .ref 1, .int l4, .int l3]) (pc' := 110) (L' := [some (.ref 0), none, none, some (.int l3), some (.int l4), none]) (st' := []) (w1 := Wd f fl g gl hh v tx) rfl ⟨Nat.le_of_ble_eq_true rfl, Nat.le_of_ble_eq_true rfl⟩ rfl ?_
      refine WP.mono h5 (fun _ _ hq => ?_)
      exact WP.clr hP_83 (pc := 110) rfl hq
    · have h6 := h3.2 (Classical.not_not.mp c4)
      refine WP.run hP_83 2 (c' := (110, [none, none, none, none, none, some (.int s0)], [.int s0], Wd f fl g gl hh v tx)) rfl ?_
      exact WP.retI hP_83 rfl rfl h6

set_option maxRecDepth 20000 in
theorem b_x_plan_110 (X : mm_X) (d : Nat) (f : Nat → Int32) (fl : Nat → Int64) (g : Nat → Nat → Int32) (gl : Nat → Nat → Int64) (hh : Nat → Nat → Option Nat) (v : Nat → Value) (tx : mm_W) (s0 : Int32)  (P : Option Value → mm_W → Prop)
    (h : P (some (.int s0)) (Wd f fl g gl hh v tx)) :
    WP X (d) 83 (110, [none, none, none, none, none, none], [.int s0], Wd f fl g gl hh v tx) P := by
  exact WP.retI hP_83 rfl rfl h

set_option maxRecDepth 20000 in
theorem b_m_leftWith_0 (X : mm_X) (d : Nat) (f : Nat → Int32) (fl : Nat → Int64) (g : Nat → Nat → Int32) (gl : Nat → Nat → Int64) (hh : Nat → Nat → Option Nat) (v : Nat → Value) (tx : mm_W) (p0 : Int32) (p1 : Int32)  (P : Option Value → mm_W → Prop)
    (h : (¬ (((39 : Int32) + p1) < 0 ∨ 5667 ≤ ((39 : Int32) + p1).toNatClampNeg)) ∧ ((¬ ((((6 : Int32) * p0) + ((g 76) ((39 : Int32) + p1).toNatClampNeg)) < 0 ∨ 6000 ≤ (((6 : Int32) * p0) + ((g 76) ((39 : Int32) + p1).toNatClampNeg)).toNatClampNeg)) ∧ ((¬ (((g 91) (((6 : Int32) * p0) + ((g 76) ((39 : Int32) + p1).toNatClampNeg)).toNatClampNeg) < 0 ∨ 1000 ≤ ((g 91) (((6 : Int32) * p0) + ((g 76) ((39 : Int32) + p1).toNatClampNeg)).toNatClampNeg).toNatClampNeg)) ∧ ((¬ (((31 : Int32) + p1) < 0 ∨ 5667 ≤ ((31 : Int32) + p1).toNatClampNeg)) ∧ ((((((g 92) ((g 91) (((6 : Int32) * p0) + ((g 76) ((39 : Int32) + p1).toNatClampNeg)).toNatClampNeg).toNatClampNeg) + ((g 76) ((31 : Int32) + p1).toNatClampNeg)) ≤ (1000000 : Int32)) → P (some (.int (((g 92) ((g 91) (((6 : Int32) * p0) + ((g 76) ((39 : Int32) + p1).toNatClampNeg)).toNatClampNeg).toNatClampNeg) + ((g 76) ((31 : Int32) + p1).toNatClampNeg)))) (Wd f fl g gl hh v tx)) ∧
    ((¬ ((((g 92) ((g 91) (((6 : Int32) * p0) + ((g 76) ((39 : Int32) + p1).toNatClampNeg)).toNatClampNeg).toNatClampNeg) + ((g 76) ((31 : Int32) + p1).toNatClampNeg)) ≤ (1000000 : Int32))) → P (some (.int 1000000)) (Wd f fl g gl hh v tx))))))) :
    WP X (d + 1) 213 (0, [some (.ref 74), some (.int p0), some (.int p1)], [], Wd f fl g gl hh v tx) P := by
  refine WP.run hP_213 13 (c' := (22, [some (.ref 74), some (.int p0), some (.int p1)], [.int ((39 : Int32) + p1), .ref 76, .int ((6 : Int32) * p0), .ref 91, .ref 92, .int 1000000], Wd f fl g gl hh v tx)) rfl ?_
  refine WP.of (fun _ _ => Ex.iald hP_213 rfl (Wa_76 _ _ _ _ _ _ _) h.1) ?_
  have h1 := h.2
  refine WP.run hP_213 1 (c' := (24, [some (.ref 74), some (.int p0), some (.int p1)], [.int (((6 : Int32) * p0) + ((g 76) ((39 : Int32) + p1).toNatClampNeg)), .ref 91, .ref 92, .int 1000000], Wd f fl g gl hh v tx)) rfl ?_
  refine WP.of (fun _ _ => Ex.iald hP_213 rfl (Wa_91 _ _ _ _ _ _ _) h1.1) ?_
  have h2 := h1.2
  refine WP.of (fun _ _ => Ex.iald hP_213 rfl (Wa_92 _ _ _ _ _ _ _) h2.1) ?_
  have h3 := h2.2
  refine WP.run hP_213 5 (c' := (34, [some (.ref 74), some (.int p0), some (.int p1)], [.int ((31 : Int32) + p1), .ref 76, .int ((g 92) ((g 91) (((6 : Int32) * p0) + ((g 76) ((39 : Int32) + p1).toNatClampNeg)).toNatClampNeg).toNatClampNeg), .int 1000000], Wd f fl g gl hh v tx)) rfl ?_
  refine WP.of (fun _ _ => Ex.iald hP_213 rfl (Wa_76 _ _ _ _ _ _ _) h3.1) ?_
  have h4 := h3.2
  refine WP.run hP_213 1 (c' := (36, [some (.ref 74), some (.int p0), some (.int p1)], [.int (((g 92) ((g 91) (((6 : Int32) * p0) + ((g 76) ((39 : Int32) + p1).toNatClampNeg)).toNatClampNeg).toNatClampNeg) + ((g 76) ((31 : Int32) + p1).toNatClampNeg)), .int 1000000], Wd f fl g gl hh v tx)) rfl ?_
  refine WP.call hP_213 hP_117 (as := [.int 1000000, .int (((g 92) ((g 91) (((6 : Int32) * p0) + ((g 76) ((39 : Int32) + p1).toNatClampNeg)).toNatClampNeg).toNatClampNeg) + ((g 76) ((31 : Int32) + p1).toNatClampNeg))]) (pc' := 39) (L' := [some (.ref 74), some (.int p0), some (.int p1)]) (st' := []) (w1 := Wd f fl g gl hh v tx) rfl ⟨Nat.le_of_ble_eq_true rfl, Nat.le_of_ble_eq_true rfl⟩ rfl (b_m_lesser_0 X (d) f fl g gl hh v tx 1000000 (((g 92) ((g 91) (((6 : Int32) * p0) + ((g 76) ((39 : Int32) + p1).toNatClampNeg)).toNatClampNeg).toNatClampNeg) + ((g 76) ((31 : Int32) + p1).toNatClampNeg)) _ ?_)
  refine ⟨fun c5 => ?_, fun c5 => ?_⟩
  · have h6 := h4.1 c5
    exact WP.retI hP_213 rfl rfl h6
  · have h7 := h4.2 c5
    exact WP.retI hP_213 rfl rfl h7

set_option maxRecDepth 20000 in
theorem b_m_laysPlan_0 (X : mm_X) (d : Nat) (f : Nat → Int32) (fl : Nat → Int64) (g : Nat → Nat → Int32) (gl : Nat → Nat → Int64) (hh : Nat → Nat → Option Nat) (v : Nat → Value) (tx : mm_W) (p0 : Int32) (p1 : Int32)  (P : Option Value → mm_W → Prop)
    (h : WP X (d) 214 (2, [some (.ref 74), some (.int p0), some (.int p1), some (.int 0), none, none, none], [], Wd f fl g gl hh v tx) P) :
    WP X (d) 214 (0, [some (.ref 74), some (.int p0), some (.int p1), none, none, none, none], [], Wd f fl g gl hh v tx) P := by
  refine WP.run hP_214 2 (c' := (2, [some (.ref 74), some (.int p0), some (.int p1), some (.int 0), none, none, none], [], Wd f fl g gl hh v tx)) rfl ?_
  exact h

set_option maxRecDepth 20000 in
theorem b_m_laysPlan_2 (X : mm_X) (d : Nat) (f : Nat → Int32) (fl : Nat → Int64) (g : Nat → Nat → Int32) (gl : Nat → Nat → Int64) (hh : Nat → Nat → Option Nat) (v : Nat → Value) (tx : mm_W) (l1 : Int32) (l2 : Int32) (l3 : Int32)  (P : Option Value → mm_W → Prop)
    (h : ((1000 ≤ l3) → WP X (d) 214 (75, [some (.ref 74), none, none, some (.int 1), none, none, none], [], Wd f fl g gl hh v tx) P) ∧
    ((¬ (1000 ≤ l3)) → (((¬ ((l3 / (10 : Int32)) / (4 : Int32)) = l2) → ((¬ (l3 < 0 ∨ 1000 ≤ l3.toNatClampNeg)) ∧ WP X (d) 214 (34, [some (.ref 74), some (.int l1), some (.int l2), some (.int l3), some (.int 0), none, none], [], Wd f fl (va_up g 92 (upd (g 92) (l3.toNatClampNeg) 1000000)) gl hh v tx) P)) ∧
      ((((l3 / (10 : Int32)) / (4 : Int32)) = l2) → ((¬ (l3 < 0 ∨ 1000 ≤ l3.toNatClampNeg)) ∧ WP X (d) 214 (34, [some (.ref 74), some (.int l1), some (.int l2), some (.int l3), some (.int 0), none, none], [], Wd f fl (va_up g 92 (upd (g 92) (l3.toNatClampNeg) 0)) gl hh v tx) P))))) :
    WP X (d) 214 (2, [some (.ref 74), some (.int l1), some (.int l2), some (.int l3), none, none, none], [], Wd f fl g gl hh v tx) P := by
  refine WP.run hP_214 2 (c' := (6, [some (.ref 74), some (.int l1), some (.int l2), some (.int l3), none, none, none], [.int 1000, .int l3], Wd f fl g gl hh v tx)) rfl ?_
  refine WP.br hP_214 (q := 1000 ≤ l3) (t := 73) (f := 9) (L := [some (.ref 74), some (.int l1), some (.int l2), some (.int l3), none, none, none]) (st := []) (w := Wd f fl g gl hh v tx) rfl (fun c1 => ?_) (fun c1 => ?_)
  · have h2 := h.1 c1
    refine WP.run hP_214 1 (c' := (74, [some (.ref 74), none, none, none, none, none, none], [.int 1], Wd f fl g gl hh v tx)) rfl ?_
    refine WP.run hP_214 1 (c' := (75, [some (.ref 74), none, none, some (.int 1), none, none, none], [], Wd f fl g gl hh v tx)) rfl ?_
    exact h2
  · have h3 := h.2 c1
    refine WP.run hP_214 9 (c' := (21, [some (.ref 74), some (.int l1), some (.int l2), some (.int l3), none, none, none], [.int l2, .int ((l3 / (10 : Int32)) / (4 : Int32)), .int l3, .ref 92], Wd f fl g gl hh v tx)) rfl ?_
    refine WP.br hP_214 (q := ¬ ((l3 / (10 : Int32)) / (4 : Int32)) = l2) (t := 28) (f := 24) (L := [some (.ref 74), some (.int l1), some (.int l2), some (.int l3), none, none, none]) (st := [.int l3, .ref 92]) (w := Wd f fl g gl hh v tx) rfl (fun c4 => ?_) (fun c4 => ?_)
    · have h5 := h3.1 c4
      refine WP.run hP_214 1 (c' := (30, [some (.ref 74), some (.int l1), some (.int l2), some (.int l3), none, none, none], [.int 1000000, .int l3, .ref 92], Wd f fl g gl hh v tx)) rfl ?_
      refine WP.of (fun _ _ => Ex.iast hP_214 (w2 := Wd f fl (va_up g 92 (upd (g 92) (l3.toNatClampNeg) 1000000)) gl hh v tx) rfl (Wa_92 _ _ _ _ _ _ _) h5.1 (Ws_92 _ _ _ _ _ _ _ _)) ?_
      have h6 := h5.2
      refine WP.run hP_214 2 (c' := (34, [some (.ref 74), some (.int l1), some (.int l2), some (.int l3), some (.int 0), none, none], [], Wd f fl (va_up g 92 (upd (g 92) (l3.toNatClampNeg) 1000000)) gl hh v tx)) rfl ?_
      exact h6
    · have h7 := h3.2 (Classical.not_not.mp c4)
      refine WP.run hP_214 2 (c' := (30, [some (.ref 74), some (.int l1), some (.int l2), some (.int l3), none, none, none], [.int 0, .int l3, .ref 92], Wd f fl g gl hh v tx)) rfl ?_
      refine WP.of (fun _ _ => Ex.iast hP_214 (w2 := Wd f fl (va_up g 92 (upd (g 92) (l3.toNatClampNeg) 0)) gl hh v tx) rfl (Wa_92 _ _ _ _ _ _ _) h7.1 (Ws_92 _ _ _ _ _ _ _ _)) ?_
      have h8 := h7.2
      refine WP.run hP_214 2 (c' := (34, [some (.ref 74), some (.int l1), some (.int l2), some (.int l3), some (.int 0), none, none], [], Wd f fl (va_up g 92 (upd (g 92) (l3.toNatClampNeg) 0)) gl hh v tx)) rfl ?_
      exact h8

set_option maxRecDepth 20000 in
theorem b_m_laysPlan_75 (X : mm_X) (d : Nat) (f : Nat → Int32) (fl : Nat → Int64) (g : Nat → Nat → Int32) (gl : Nat → Nat → Int64) (hh : Nat → Nat → Option Nat) (v : Nat → Value) (tx : mm_W) (l3 : Int32)  (P : Option Value → mm_W → Prop)
    (h : ((l3 = 0) → P none (Wd f fl g gl hh v tx)) ∧
    ((¬ l3 = 0) → WP X (d) 214 (84, [some (.ref 74), none, none, some (.int 0), some (.int 0), none, none], [], Wd f fl g gl hh v tx) P)) :
    WP X (d) 214 (75, [some (.ref 74), none, none, some (.int l3), none, none, none], [], Wd f fl g gl hh v tx) P := by
  refine WP.run hP_214 1 (c' := (76, [some (.ref 74), none, none, some (.int l3), none, none, none], [.int l3], Wd f fl g gl hh v tx)) rfl ?_
  refine WP.br hP_214 (q := l3 = 0) (t := 156) (f := 79) (L := [some (.ref 74), none, none, some (.int l3), none, none, none]) (st := []) (w := Wd f fl g gl hh v tx) rfl (fun c1 => ?_) (fun c1 => ?_)
  · have h2 := h.1 c1
    exact WP.ret hP_214 (r := none) (w' := Wd f fl g gl hh v tx) rfl h2
  · have h3 := h.2 c1
    refine WP.run hP_214 3 (c' := (82, [some (.ref 74), none, none, some (.int 0), none, none, none], [.int 0], Wd f fl g gl hh v tx)) rfl ?_
    refine WP.run hP_214 1 (c' := (84, [some (.ref 74), none, none, some (.int 0), some (.int 0), none, none], [], Wd f fl g gl hh v tx)) rfl ?_
    exact h3

set_option maxRecDepth 20000 in
theorem b_m_laysPlan_34 (X : mm_X) (d : Nat) (f : Nat → Int32) (fl : Nat → Int64) (g : Nat → Nat → Int32) (gl : Nat → Nat → Int64) (hh : Nat → Nat → Option Nat) (v : Nat → Value) (tx : mm_W) (l1 : Int32) (l2 : Int32) (l3 : Int32) (l4 : Int32)  (P : Option Value → mm_W → Prop)
    (h : ((6 ≤ l4) → WP X (d + 1) 214 (2, [some (.ref 74), some (.int l1), some (.int l2), some (.int (l3 + (1 : Int32))), none, none, none], [], Wd f fl g gl hh v tx) P) ∧
    ((¬ (6 ≤ l4)) → WP X (d) 207 (0, [some (.ref 74), some (.int l1), some (.int l3), some (.int l4), none, none, none], [], Wd f fl g gl hh v tx) (fun rv w2 => WP X (d + 1) 214 (60, [some (.ref 74), some (.int l1), some (.int l2), some (.int l3), some (.int l4), none, none], rv.toList ++ [.int (((6 : Int32) * l3) + l4), .ref 91], w2) P))) :
    WP X (d + 1) 214 (34, [some (.ref 74), some (.int l1), some (.int l2), some (.int l3), some (.int l4), none, none], [], Wd f fl g gl hh v tx) P := by
  refine WP.run hP_214 2 (c' := (38, [some (.ref 74), some (.int l1), some (.int l2), some (.int l3), some (.int l4), none, none], [.int 6, .int l4], Wd f fl g gl hh v tx)) rfl ?_
  refine WP.br hP_214 (q := 6 ≤ l4) (t := 67) (f := 41) (L := [some (.ref 74), some (.int l1), some (.int l2), some (.int l3), some (.int l4), none, none]) (st := []) (w := Wd f fl g gl hh v tx) rfl (fun c1 => ?_) (fun c1 => ?_)
  · have h2 := h.1 c1
    refine WP.run hP_214 2 (c' := (2, [some (.ref 74), some (.int l1), some (.int l2), some (.int (l3 + (1 : Int32))), none, none, none], [], Wd f fl g gl hh v tx)) rfl ?_
    exact h2
  · have h3 := h.2 c1
    refine WP.run hP_214 11 (c' := (57, [some (.ref 74), some (.int l1), some (.int l2), some (.int l3), some (.int l4), none, none], [.int l4, .int l3, .int l1, .ref 74, .int (((6 : Int32) * l3) + l4), .ref 91], Wd f fl g gl hh v tx)) rfl ?_
    refine WP.call hP_214 hP_207 (as := [.ref 74, .int l1, .int l3, .int l4]) (pc' := 60) (L' := [some (.ref 74), some (.int l1), some (.int l2), some (.int l3), some (.int l4), none, none]) (st' := [.int (((6 : Int32) * l3) + l4), .ref 91]) (w1 := Wd f fl g gl hh v tx) rfl ⟨Nat.le_of_ble_eq_true rfl, Nat.le_of_ble_eq_true rfl⟩ rfl ?_
    exact h3

set_option maxRecDepth 20000 in
theorem b_m_laysPlan_84 (X : mm_X) (d : Nat) (f : Nat → Int32) (fl : Nat → Int64) (g : Nat → Nat → Int32) (gl : Nat → Nat → Int64) (hh : Nat → Nat → Option Nat) (v : Nat → Value) (tx : mm_W) (l3 : Int32) (l4 : Int32)  (P : Option Value → mm_W → Prop)
    (h : ((((1000 : Int32) * ((g 76) 55)) ≤ l4) → WP X (d + 2) 214 (75, [some (.ref 74), none, none, some (.int l3), none, none, none], [], Wd f fl g gl hh v tx) P) ∧
    ((¬ (((1000 : Int32) * ((g 76) 55)) ≤ l4)) → ((¬ ((g 76) 55) = 0) ∧ ((¬ ((g 76) 55) = 0) ∧ ((¬ (((39 : Int32) + (l4 - (l4 / ((g 76) 55)) * ((g 76) 55))) < 0 ∨ 5667 ≤ ((39 : Int32) + (l4 - (l4 / ((g 76) 55)) * ((g 76) 55))).toNatClampNeg)) ∧ ((¬ ((((6 : Int32) * (l4 / ((g 76) 55))) + ((g 76) ((39 : Int32) + (l4 - (l4 / ((g 76) 55)) * ((g 76) 55))).toNatClampNeg)) < 0 ∨ 6000 ≤ (((6 : Int32) * (l4 / ((g 76) 55))) + ((g 76) ((39 : Int32) + (l4 - (l4 / ((g 76) 55)) * ((g 76) 55))).toNatClampNeg)).toNatClampNeg)) ∧ ((¬ (((g 91) (((6 : Int32) * (l4 / ((g 76) 55))) + ((g 76) ((39 : Int32) + (l4 - (l4 / ((g 76) 55)) * ((g 76) 55))).toNatClampNeg)).toNatClampNeg) < 0 ∨ 1000 ≤ ((g 91) (((6 : Int32) * (l4 / ((g 76) 55))) + ((g 76) ((39 : Int32) + (l4 - (l4 / ((g 76) 55)) * ((g 76) 55))).toNatClampNeg)).toNatClampNeg).toNatClampNeg)) ∧ ((¬ (((31 : Int32) + (l4 - (l4 / ((g 76) 55)) * ((g 76) 55))) < 0 ∨ 5667 ≤ ((31 : Int32) + (l4 - (l4 / ((g 76) 55)) * ((g 76) 55))).toNatClampNeg)) ∧ ((((((g 92) ((g 91) (((6 : Int32) * (l4 / ((g 76) 55))) + ((g 76) ((39 : Int32) + (l4 - (l4 / ((g 76) 55)) * ((g 76) 55))).toNatClampNeg)).toNatClampNeg).toNatClampNeg) + ((g 76) ((31 : Int32) + (l4 - (l4 / ((g 76) 55)) * ((g 76) 55))).toNatClampNeg)) ≤ (1000000 : Int32)) → ((¬ ((l4 / ((g 76) 55)) < 0 ∨ 1000 ≤ (l4 / ((g 76) 55)).toNatClampNeg)) ∧ ((((((g 92) ((g 91) (((6 : Int32) * (l4 / ((g 76) 55))) + ((g 76) ((39 : Int32) + (l4 - (l4 / ((g 76) 55)) * ((g 76) 55))).toNatClampNeg)).toNatClampNeg).toNatClampNeg) + ((g 76) ((31 : Int32) + (l4 - (l4 / ((g 76) 55)) * ((g 76) 55))).toNatClampNeg)) < ((g 92) (l4 / ((g 76) 55)).toNatClampNeg)) → ((¬ ((l4 / ((g 76) 55)) < 0 ∨ 1000 ≤ (l4 / ((g 76) 55)).toNatClampNeg)) ∧ WP X (d + 2) 214 (84, [some (.ref 74), none, none, some (.int 1), some (.int (l4 + (1 : Int32))), none, none], [], Wd f fl (va_up g 92 (upd (g 92) ((l4 / ((g 76) 55)).toNatClampNeg) (((g 92) ((g 91) (((6 : Int32) * (l4 / ((g 76) 55))) + ((g 76) ((39 : Int32) + (l4 - (l4 / ((g 76) 55)) * ((g 76) 55))).toNatClampNeg)).toNatClampNeg).toNatClampNeg) + ((g 76) ((31 : Int32) + (l4 - (l4 / ((g 76) 55)) * ((g 76) 55))).toNatClampNeg)))) gl hh v tx) P)) ∧
        ((¬ ((((g 92) ((g 91) (((6 : Int32) * (l4 / ((g 76) 55))) + ((g 76) ((39 : Int32) + (l4 - (l4 / ((g 76) 55)) * ((g 76) 55))).toNatClampNeg)).toNatClampNeg).toNatClampNeg) + ((g 76) ((31 : Int32) + (l4 - (l4 / ((g 76) 55)) * ((g 76) 55))).toNatClampNeg)) < ((g 92) (l4 / ((g 76) 55)).toNatClampNeg))) → WP X (d + 2) 214 (84, [some (.ref 74), none, none, some (.int l3), some (.int (l4 + (1 : Int32))), none, none], [], Wd f fl g gl hh v tx) P)))) ∧
      ((¬ ((((g 92) ((g 91) (((6 : Int32) * (l4 / ((g 76) 55))) + ((g 76) ((39 : Int32) + (l4 - (l4 / ((g 76) 55)) * ((g 76) 55))).toNatClampNeg)).toNatClampNeg).toNatClampNeg) + ((g 76) ((31 : Int32) + (l4 - (l4 / ((g 76) 55)) * ((g 76) 55))).toNatClampNeg)) ≤ (1000000 : Int32))) → ((¬ ((l4 / ((g 76) 55)) < 0 ∨ 1000 ≤ (l4 / ((g 76) 55)).toNatClampNeg)) ∧ (((1000000 < ((g 92) (l4 / ((g 76) 55)).toNatClampNeg)) → ((¬ ((l4 / ((g 76) 55)) < 0 ∨ 1000 ≤ (l4 / ((g 76) 55)).toNatClampNeg)) ∧ WP X (d + 2) 214 (84, [some (.ref 74), none, none, some (.int 1), some (.int (l4 + (1 : Int32))), none, none], [], Wd f fl (va_up g 92 (upd (g 92) ((l4 / ((g 76) 55)).toNatClampNeg) 1000000)) gl hh v tx) P)) ∧
        ((¬ (1000000 < ((g 92) (l4 / ((g 76) 55)).toNatClampNeg))) → WP X (d + 2) 214 (84, [some (.ref 74), none, none, some (.int l3), some (.int (l4 + (1 : Int32))), none, none], [], Wd f fl g gl hh v tx) P))))))))))))) :
    WP X (d + 2) 214 (84, [some (.ref 74), none, none, some (.int l3), some (.int l4), none, none], [], Wd f fl g gl hh v tx) P := by
  refine WP.run hP_214 3 (c' := (90, [some (.ref 74), none, none, some (.int l3), some (.int l4), none, none], [.ref 74, .int 1000, .int l4], Wd f fl g gl hh v tx)) rfl ?_
  refine WP.call hP_214 hP_129 (as := [.ref 74]) (pc' := 93) (L' := [some (.ref 74), none, none, some (.int l3), some (.int l4), none, none]) (st' := [.int 1000, .int l4]) (w1 := Wd f fl g gl hh v tx) rfl ⟨Nat.le_of_ble_eq_true rfl, Nat.le_of_ble_eq_true rfl⟩ rfl (b_m_signMany_0 X (d + 1) f fl g gl hh v tx  _ ?_)
  refine WP.run hP_214 1 (c' := (94, [some (.ref 74), none, none, some (.int l3), some (.int l4), none, none], [.int ((1000 : Int32) * ((g 76) 55)), .int l4], Wd f fl g gl hh v tx)) rfl ?_
  refine WP.br hP_214 (q := ((1000 : Int32) * ((g 76) 55)) ≤ l4) (t := 153) (f := 97) (L := [some (.ref 74), none, none, some (.int l3), some (.int l4), none, none]) (st := []) (w := Wd f fl g gl hh v tx) rfl (fun c1 => ?_) (fun c1 => ?_)
  · have h2 := h.1 c1
    refine WP.run hP_214 1 (c' := (75, [some (.ref 74), none, none, some (.int l3), none, none, none], [], Wd f fl g gl hh v tx)) rfl ?_
    exact h2
  · have h3 := h.2 c1
    refine WP.run hP_214 2 (c' := (100, [some (.ref 74), none, none, some (.int l3), some (.int l4), none, none], [.ref 74, .int l4], Wd f fl g gl hh v tx)) rfl ?_
    refine WP.call hP_214 hP_129 (as := [.ref 74]) (pc' := 103) (L' := [some (.ref 74), none, none, some (.int l3), some (.int l4), none, none]) (st' := [.int l4]) (w1 := Wd f fl g gl hh v tx) rfl ⟨Nat.le_of_ble_eq_true rfl, Nat.le_of_ble_eq_true rfl⟩ rfl (b_m_signMany_0 X (d + 1) f fl g gl hh v tx  _ ?_)
    refine WP.of (fun _ _ => Ex.idiv hP_214 rfl h3.1) ?_
    have h4 := h3.2
    refine WP.run hP_214 5 (c' := (112, [some (.ref 74), none, none, some (.int l3), some (.int l4), some (.int (l4 / ((g 76) 55))), none], [.ref 74, .int l4, .int (l4 / ((g 76) 55)), .ref 74], Wd f fl g gl hh v tx)) rfl ?_
    refine WP.call hP_214 hP_129 (as := [.ref 74]) (pc' := 115) (L' := [some (.ref 74), none, none, some (.int l3), some (.int l4), some (.int (l4 / ((g 76) 55))), none]) (st' := [.int l4, .int (l4 / ((g 76) 55)), .ref 74]) (w1 := Wd f fl g gl hh v tx) rfl ⟨Nat.le_of_ble_eq_true rfl, Nat.le_of_ble_eq_true rfl⟩ rfl (b_m_signMany_0 X (d + 1) f fl g gl hh v tx  _ ?_)
    refine WP.of (fun _ _ => Ex.irem hP_214 rfl h4.1) ?_
    have h5 := h4.2
    refine WP.call hP_214 hP_213 (as := [.ref 74, .int (l4 / ((g 76) 55)), .int (l4 - (l4 / ((g 76) 55)) * ((g 76) 55))]) (pc' := 119) (L' := [some (.ref 74), none, none, some (.int l3), some (.int l4), some (.int (l4 / ((g 76) 55))), none]) (st' := []) (w1 := Wd f fl g gl hh v tx) rfl ⟨Nat.le_of_ble_eq_true rfl, Nat.le_of_ble_eq_true rfl⟩ rfl (b_m_leftWith_0 X (d) f fl g gl hh v tx (l4 / ((g 76) 55)) (l4 - (l4 / ((g 76) 55)) * ((g 76) 55)) _ ?_)
    refine ⟨h5.1, ?_⟩
    have h6 := h5.2
    refine ⟨h6.1, ?_⟩
    have h7 := h6.2
    refine ⟨h7.1, ?_⟩
    have h8 := h7.2
    refine ⟨h8.1, ?_⟩
    have h9 := h8.2
    refine ⟨fun c10 => ?_, fun c10 => ?_⟩
    · have h11 := h9.1 c10
      refine WP.run hP_214 5 (c' := (129, [some (.ref 74), none, none, some (.int l3), some (.int l4), some (.int (l4 / ((g 76) 55))), some (.int (((g 92) ((g 91) (((6 : Int32) * (l4 / ((g 76) 55))) + ((g 76) ((39 : Int32) + (l4 - (l4 / ((g 76) 55)) * ((g 76) 55))).toNatClampNeg)).toNatClampNeg).toNatClampNeg) + ((g 76) ((31 : Int32) + (l4 - (l4 / ((g 76) 55)) * ((g 76) 55))).toNatClampNeg)))], [.int (l4 / ((g 76) 55)), .ref 92, .int (((g 92) ((g 91) (((6 : Int32) * (l4 / ((g 76) 55))) + ((g 76) ((39 : Int32) + (l4 - (l4 / ((g 76) 55)) * ((g 76) 55))).toNatClampNeg)).toNatClampNeg).toNatClampNeg) + ((g 76) ((31 : Int32) + (l4 - (l4 / ((g 76) 55)) * ((g 76) 55))).toNatClampNeg))], Wd f fl g gl hh v tx)) rfl ?_
      refine WP.of (fun _ _ => Ex.iald hP_214 rfl (Wa_92 _ _ _ _ _ _ _) h11.1) ?_
      have h12 := h11.2
      refine WP.br hP_214 (q := (((g 92) ((g 91) (((6 : Int32) * (l4 / ((g 76) 55))) + ((g 76) ((39 : Int32) + (l4 - (l4 / ((g 76) 55)) * ((g 76) 55))).toNatClampNeg)).toNatClampNeg).toNatClampNeg) + ((g 76) ((31 : Int32) + (l4 - (l4 / ((g 76) 55)) * ((g 76) 55))).toNatClampNeg)) < ((g 92) (l4 / ((g 76) 55)).toNatClampNeg)) (t := 136) (f := 133) (L := [some (.ref 74), none, none, some (.int l3), some (.int l4), some (.int (l4 / ((g 76) 55))), some (.int (((g 92) ((g 91) (((6 : Int32) * (l4 / ((g 76) 55))) + ((g 76) ((39 : Int32) + (l4 - (l4 / ((g 76) 55)) * ((g 76) 55))).toNatClampNeg)).toNatClampNeg).toNatClampNeg) + ((g 76) ((31 : Int32) + (l4 - (l4 / ((g 76) 55)) * ((g 76) 55))).toNatClampNeg)))]) (st := []) (w := Wd f fl g gl hh v tx) rfl (fun c13 => ?_) (fun c13 => ?_)
      · have h14 := h12.1 c13
        refine WP.run hP_214 4 (c' := (144, [some (.ref 74), none, none, none, some (.int l4), some (.int (l4 / ((g 76) 55))), some (.int (((g 92) ((g 91) (((6 : Int32) * (l4 / ((g 76) 55))) + ((g 76) ((39 : Int32) + (l4 - (l4 / ((g 76) 55)) * ((g 76) 55))).toNatClampNeg)).toNatClampNeg).toNatClampNeg) + ((g 76) ((31 : Int32) + (l4 - (l4 / ((g 76) 55)) * ((g 76) 55))).toNatClampNeg)))], [.int (((g 92) ((g 91) (((6 : Int32) * (l4 / ((g 76) 55))) + ((g 76) ((39 : Int32) + (l4 - (l4 / ((g 76) 55)) * ((g 76) 55))).toNatClampNeg)).toNatClampNeg).toNatClampNeg) + ((g 76) ((31 : Int32) + (l4 - (l4 / ((g 76) 55)) * ((g 76) 55))).toNatClampNeg)), .int (l4 / ((g 76) 55)), .ref 92], Wd f fl g gl hh v tx)) rfl ?_
        refine WP.of (fun _ _ => Ex.iast hP_214 (w2 := Wd f fl (va_up g 92 (upd (g 92) ((l4 / ((g 76) 55)).toNatClampNeg) (((g 92) ((g 91) (((6 : Int32) * (l4 / ((g 76) 55))) + ((g 76) ((39 : Int32) + (l4 - (l4 / ((g 76) 55)) * ((g 76) 55))).toNatClampNeg)).toNatClampNeg).toNatClampNeg) + ((g 76) ((31 : Int32) + (l4 - (l4 / ((g 76) 55)) * ((g 76) 55))).toNatClampNeg)))) gl hh v tx) rfl (Wa_92 _ _ _ _ _ _ _) h14.1 (Ws_92 _ _ _ _ _ _ _ _)) ?_
        have h15 := h14.2
        refine WP.run hP_214 2 (c' := (147, [some (.ref 74), none, none, some (.int 1), some (.int l4), some (.int (l4 / ((g 76) 55))), some (.int (((g 92) ((g 91) (((6 : Int32) * (l4 / ((g 76) 55))) + ((g 76) ((39 : Int32) + (l4 - (l4 / ((g 76) 55)) * ((g 76) 55))).toNatClampNeg)).toNatClampNeg).toNatClampNeg) + ((g 76) ((31 : Int32) + (l4 - (l4 / ((g 76) 55)) * ((g 76) 55))).toNatClampNeg)))], [], Wd f fl (va_up g 92 (upd (g 92) ((l4 / ((g 76) 55)).toNatClampNeg) (((g 92) ((g 91) (((6 : Int32) * (l4 / ((g 76) 55))) + ((g 76) ((39 : Int32) + (l4 - (l4 / ((g 76) 55)) * ((g 76) 55))).toNatClampNeg)).toNatClampNeg).toNatClampNeg) + ((g 76) ((31 : Int32) + (l4 - (l4 / ((g 76) 55)) * ((g 76) 55))).toNatClampNeg)))) gl hh v tx)) rfl ?_
        refine WP.run hP_214 2 (c' := (84, [some (.ref 74), none, none, some (.int 1), some (.int (l4 + (1 : Int32))), none, none], [], Wd f fl (va_up g 92 (upd (g 92) ((l4 / ((g 76) 55)).toNatClampNeg) (((g 92) ((g 91) (((6 : Int32) * (l4 / ((g 76) 55))) + ((g 76) ((39 : Int32) + (l4 - (l4 / ((g 76) 55)) * ((g 76) 55))).toNatClampNeg)).toNatClampNeg).toNatClampNeg) + ((g 76) ((31 : Int32) + (l4 - (l4 / ((g 76) 55)) * ((g 76) 55))).toNatClampNeg)))) gl hh v tx)) rfl ?_
        exact h15
      · have h16 := h12.2 c13
        refine WP.run hP_214 3 (c' := (84, [some (.ref 74), none, none, some (.int l3), some (.int (l4 + (1 : Int32))), none, none], [], Wd f fl g gl hh v tx)) rfl ?_
        exact h16
    · have h17 := h9.2 c10
      refine WP.run hP_214 5 (c' := (129, [some (.ref 74), none, none, some (.int l3), some (.int l4), some (.int (l4 / ((g 76) 55))), some (.int 1000000)], [.int (l4 / ((g 76) 55)), .ref 92, .int 1000000], Wd f fl g gl hh v tx)) rfl ?_
      refine WP.of (fun _ _ => Ex.iald hP_214 rfl (Wa_92 _ _ _ _ _ _ _) h17.1) ?_
      have h18 := h17.2
      refine WP.br hP_214 (q := 1000000 < ((g 92) (l4 / ((g 76) 55)).toNatClampNeg)) (t := 136) (f := 133) (L := [some (.ref 74), none, none, some (.int l3), some (.int l4), some (.int (l4 / ((g 76) 55))), some (.int 1000000)]) (st := []) (w := Wd f fl g gl hh v tx) rfl (fun c19 => ?_) (fun c19 => ?_)
      · have h20 := h18.1 c19
        refine WP.run hP_214 4 (c' := (144, [some (.ref 74), none, none, none, some (.int l4), some (.int (l4 / ((g 76) 55))), some (.int 1000000)], [.int 1000000, .int (l4 / ((g 76) 55)), .ref 92], Wd f fl g gl hh v tx)) rfl ?_
        refine WP.of (fun _ _ => Ex.iast hP_214 (w2 := Wd f fl (va_up g 92 (upd (g 92) ((l4 / ((g 76) 55)).toNatClampNeg) 1000000)) gl hh v tx) rfl (Wa_92 _ _ _ _ _ _ _) h20.1 (Ws_92 _ _ _ _ _ _ _ _)) ?_
        have h21 := h20.2
        refine WP.run hP_214 2 (c' := (147, [some (.ref 74), none, none, some (.int 1), some (.int l4), some (.int (l4 / ((g 76) 55))), some (.int 1000000)], [], Wd f fl (va_up g 92 (upd (g 92) ((l4 / ((g 76) 55)).toNatClampNeg) 1000000)) gl hh v tx)) rfl ?_
        refine WP.run hP_214 2 (c' := (84, [some (.ref 74), none, none, some (.int 1), some (.int (l4 + (1 : Int32))), none, none], [], Wd f fl (va_up g 92 (upd (g 92) ((l4 / ((g 76) 55)).toNatClampNeg) 1000000)) gl hh v tx)) rfl ?_
        exact h21
      · have h22 := h18.2 c19
        refine WP.run hP_214 3 (c' := (84, [some (.ref 74), none, none, some (.int l3), some (.int (l4 + (1 : Int32))), none, none], [], Wd f fl g gl hh v tx)) rfl ?_
        exact h22

set_option maxRecDepth 20000 in
theorem b_m_laysPlan_60 (X : mm_X) (d : Nat) (f : Nat → Int32) (fl : Nat → Int64) (g : Nat → Nat → Int32) (gl : Nat → Nat → Int64) (hh : Nat → Nat → Option Nat) (v : Nat → Value) (tx : mm_W) (l1 : Int32) (l2 : Int32) (l3 : Int32) (l4 : Int32) (s0 : Int32) (s1 : Int32)  (P : Option Value → mm_W → Prop)
    (h : (¬ (s1 < 0 ∨ 6000 ≤ s1.toNatClampNeg)) ∧ WP X (d) 214 (34, [some (.ref 74), some (.int l1), some (.int l2), some (.int l3), some (.int (l4 + (1 : Int32))), none, none], [], Wd f fl (va_up g 91 (upd (g 91) (s1.toNatClampNeg) s0)) gl hh v tx) P) :
    WP X (d) 214 (60, [some (.ref 74), some (.int l1), some (.int l2), some (.int l3), some (.int l4), none, none], [.int s0, .int s1, .ref 91], Wd f fl g gl hh v tx) P := by
  refine WP.of (fun _ _ => Ex.iast hP_214 (w2 := Wd f fl (va_up g 91 (upd (g 91) (s1.toNatClampNeg) s0)) gl hh v tx) rfl (Wa_91 _ _ _ _ _ _ _) h.1 (Ws_91 _ _ _ _ _ _ _ _)) ?_
  have h1 := h.2
  refine WP.run hP_214 2 (c' := (34, [some (.ref 74), some (.int l1), some (.int l2), some (.int l3), some (.int (l4 + (1 : Int32))), none, none], [], Wd f fl (va_up g 91 (upd (g 91) (s1.toNatClampNeg) s0)) gl hh v tx)) rfl ?_
  exact h1

set_option maxRecDepth 20000 in
theorem b_m_plan_0 (X : mm_X) (d : Nat) (f : Nat → Int32) (fl : Nat → Int64) (g : Nat → Nat → Int32) (gl : Nat → Nat → Int64) (hh : Nat → Nat → Option Nat) (v : Nat → Value) (tx : mm_W) (p0 : Int32) (p1 : Int32) (p2 : Int32)  (P : Option Value → mm_W → Prop)
    (h : (((0 : Int32) ≤ p0 ∧ p0 ≤ (((g 76) 56) - (1 : Int32))) → ((((0 : Int32) ≤ p1 ∧ p1 ≤ (24 : Int32)) → ((((-1) ≤ p2) → WP X (d + 1) 214 (0, [some (.ref 74), some (.int p0), some (.int p1), none, none, none, none], [], Wd f fl g gl hh v tx) (fun rv w2 => WP X (d + 2) 215 (31, [some (.ref 74), some (.int p0), some (.int p1), some (.int p2), none, none, none], rv.toList ++ [], w2) P)) ∧
        ((¬ ((-1) ≤ p2)) → P (some (.int (-1))) (Wd f fl g gl hh v tx)))) ∧
      ((¬ ((0 : Int32) ≤ p1 ∧ p1 ≤ (24 : Int32))) → P (some (.int (-1))) (Wd f fl g gl hh v tx)))) ∧
    ((¬ ((0 : Int32) ≤ p0 ∧ p0 ≤ (((g 76) 56) - (1 : Int32)))) → P (some (.int (-1))) (Wd f fl g gl hh v tx))) :
    WP X (d + 2) 215 (0, [some (.ref 74), some (.int p0), some (.int p1), some (.int p2), none, none, none], [], Wd f fl g gl hh v tx) P := by
  refine WP.run hP_215 2 (c' := (2, [some (.ref 74), some (.int p0), some (.int p1), some (.int p2), none, none, none], [.int p0, .ref 74], Wd f fl g gl hh v tx)) rfl ?_
  refine WP.call hP_215 hP_132 (as := [.ref 74, .int p0]) (pc' := 5) (L' := [some (.ref 74), some (.int p0), some (.int p1), some (.int p2), none, none, none]) (st' := []) (w1 := Wd f fl g gl hh v tx) rfl ⟨Nat.le_of_ble_eq_true rfl, Nat.le_of_ble_eq_true rfl⟩ rfl (b_m_isShip_0 X (d) f fl g gl hh v tx p0 _ ?_)
  refine ⟨fun c1 => ?_, fun c1 => ?_⟩
  · have h2 := h.1 c1
    refine WP.run hP_215 4 (c' := (12, [some (.ref 74), some (.int p0), some (.int p1), some (.int p2), none, none, none], [.int 24, .int 0, .int p1], Wd f fl g gl hh v tx)) rfl ?_
    refine WP.call hP_215 hP_116 (as := [.int p1, .int 0, .int 24]) (pc' := 15) (L' := [some (.ref 74), some (.int p0), some (.int p1), some (.int p2), none, none, none]) (st' := []) (w1 := Wd f fl g gl hh v tx) rfl ⟨Nat.le_of_ble_eq_true rfl, Nat.le_of_ble_eq_true rfl⟩ rfl (b_lies_m X (d + 1) f fl g gl hh v tx p1 0 24 _ ?_)
    refine ⟨fun c3 => ?_, fun c3 => ?_⟩
    · have h4 := h2.1 c3
      refine WP.run hP_215 3 (c' := (20, [some (.ref 74), some (.int p0), some (.int p1), some (.int p2), none, none, none], [.int (-1), .int p2], Wd f fl g gl hh v tx)) rfl ?_
      refine WP.br hP_215 (q := (-1) ≤ p2) (t := 25) (f := 23) (L := [some (.ref 74), some (.int p0), some (.int p1), some (.int p2), none, none, none]) (st := []) (w := Wd f fl g gl hh v tx) rfl (fun c5 => ?_) (fun c5 => ?_)
      · have h6 := h4.1 c5
        refine WP.run hP_215 3 (c' := (28, [some (.ref 74), some (.int p0), some (.int p1), some (.int p2), none, none, none], [.int p1, .int p0, .ref 74], Wd f fl g gl hh v tx)) rfl ?_
        refine WP.call hP_215 hP_214 (as := [.ref 74, .int p0, .int p1]) (pc' := 31) (L' := [some (.ref 74), some (.int p0), some (.int p1), some (.int p2), none, none, none]) (st' := []) (w1 := Wd f fl g gl hh v tx) rfl ⟨Nat.le_of_ble_eq_true rfl, Nat.le_of_ble_eq_true rfl⟩ rfl ?_
        exact h6
      · have h7 := h4.2 c5
        refine WP.run hP_215 1 (c' := (24, [none, none, none, none, none, none, none], [.int (-1)], Wd f fl g gl hh v tx)) rfl ?_
        exact WP.retI hP_215 rfl rfl h7
    · have h8 := h2.2 c3
      refine WP.run hP_215 2 (c' := (24, [none, none, none, none, none, none, none], [.int (-1)], Wd f fl g gl hh v tx)) rfl ?_
      exact WP.retI hP_215 rfl rfl h8
  · have h9 := h.2 c1
    refine WP.run hP_215 2 (c' := (24, [none, none, none, none, none, none, none], [.int (-1)], Wd f fl g gl hh v tx)) rfl ?_
    exact WP.retI hP_215 rfl rfl h9

set_option maxRecDepth 20000 in
theorem b_m_plan_31 (X : mm_X) (d : Nat) (f : Nat → Int32) (fl : Nat → Int64) (g : Nat → Nat → Int32) (gl : Nat → Nat → Int64) (hh : Nat → Nat → Option Nat) (v : Nat → Value) (tx : mm_W) (l1 : Int32) (l2 : Int32) (l3 : Int32)  (P : Option Value → mm_W → Prop)
    (h : (¬ (((13 : Int32) + l1) < 0 ∨ 5667 ≤ ((13 : Int32) + l1).toNatClampNeg)) ∧ ((¬ (((16 : Int32) + l1) < 0 ∨ 5667 ≤ ((16 : Int32) + l1).toNatClampNeg)) ∧ ((¬ (((19 : Int32) + l1) < 0 ∨ 5667 ≤ ((19 : Int32) + l1).toNatClampNeg)) ∧ ((¬ ((((((4 : Int32) * ((g 76) ((13 : Int32) + l1).toNatClampNeg)) + ((g 76) ((16 : Int32) + l1).toNatClampNeg)) * (10 : Int32)) + ((g 76) ((19 : Int32) + l1).toNatClampNeg)) < 0 ∨ 1000 ≤ (((((4 : Int32) * ((g 76) ((13 : Int32) + l1).toNatClampNeg)) + ((g 76) ((16 : Int32) + l1).toNatClampNeg)) * (10 : Int32)) + ((g 76) ((19 : Int32) + l1).toNatClampNeg)).toNatClampNeg)) ∧ (((((g 92) (((((4 : Int32) * ((g 76) ((13 : Int32) + l1).toNatClampNeg)) + ((g 76) ((16 : Int32) + l1).toNatClampNeg)) * (10 : Int32)) + ((g 76) ((19 : Int32) + l1).toNatClampNeg)).toNatClampNeg) = 1000000) → ((¬ ((((((4 : Int32) * ((g 76) ((13 : Int32) + l1).toNatClampNeg)) + ((g 76) ((16 : Int32) + l1).toNatClampNeg)) * (10 : Int32)) + ((g 76) ((19 : Int32) + l1).toNatClampNeg)) < 0 ∨ 1000 ≤ (((((4 : Int32) * ((g 76) ((13 : Int32) + l1).toNatClampNeg)) + ((g 76) ((16 : Int32) + l1).toNatClampNeg)) * (10 : Int32)) + ((g 76) ((19 : Int32) + l1).toNatClampNeg)).toNatClampNeg)) ∧ (((¬ ((g 92) (((((4 : Int32) * ((g 76) ((13 : Int32) + l1).toNatClampNeg)) + ((g 76) ((16 : Int32) + l1).toNatClampNeg)) * (10 : Int32)) + ((g 76) ((19 : Int32) + l1).toNatClampNeg)).toNatClampNeg) = 1000000) → ((¬ ((((((4 : Int32) * ((g 76) ((13 : Int32) + l1).toNatClampNeg)) + ((g 76) ((16 : Int32) + l1).toNatClampNeg)) * (10 : Int32)) + ((g 76) ((19 : Int32) + l1).toNatClampNeg)) < 0 ∨ 1000 ≤ (((((4 : Int32) * ((g 76) ((13 : Int32) + l1).toNatClampNeg)) + ((g 76) ((16 : Int32) + l1).toNatClampNeg)) * (10 : Int32)) + ((g 76) ((19 : Int32) + l1).toNatClampNeg)).toNatClampNeg)) ∧ P (some (.int ((g 92) (((((4 : Int32) * ((g 76) ((13 : Int32) + l1).toNatClampNeg)) + ((g 76) ((16 : Int32) + l1).toNatClampNeg)) * (10 : Int32)) + ((g 76) ((19 : Int32) + l1).toNatClampNeg)).toNatClampNeg))) (Wd f fl g gl hh v tx))) ∧
      ((((g 92) (((((4 : Int32) * ((g 76) ((13 : Int32) + l1).toNatClampNeg)) + ((g 76) ((16 : Int32) + l1).toNatClampNeg)) * (10 : Int32)) + ((g 76) ((19 : Int32) + l1).toNatClampNeg)).toNatClampNeg) = 1000000) → P (some (.int (-1))) (Wd f fl g gl hh v tx))))) ∧
    ((¬ ((g 92) (((((4 : Int32) * ((g 76) ((13 : Int32) + l1).toNatClampNeg)) + ((g 76) ((16 : Int32) + l1).toNatClampNeg)) * (10 : Int32)) + ((g 76) ((19 : Int32) + l1).toNatClampNeg)).toNatClampNeg) = 1000000) → (((¬ l3 = (-1)) → WP X (d + 2) 215 (85, [some (.ref 74), none, none, some (.int l3), some (.int (((((4 : Int32) * ((g 76) ((13 : Int32) + l1).toNatClampNeg)) + ((g 76) ((16 : Int32) + l1).toNatClampNeg)) * (10 : Int32)) + ((g 76) ((19 : Int32) + l1).toNatClampNeg))), some (.int (-1)), some (.int 0)], [], Wd f fl g gl hh v tx) P) ∧
      ((l3 = (-1)) → ((¬ ((((((4 : Int32) * ((g 76) ((13 : Int32) + l1).toNatClampNeg)) + ((g 76) ((16 : Int32) + l1).toNatClampNeg)) * (10 : Int32)) + ((g 76) ((19 : Int32) + l1).toNatClampNeg)) < 0 ∨ 1000 ≤ (((((4 : Int32) * ((g 76) ((13 : Int32) + l1).toNatClampNeg)) + ((g 76) ((16 : Int32) + l1).toNatClampNeg)) * (10 : Int32)) + ((g 76) ((19 : Int32) + l1).toNatClampNeg)).toNatClampNeg)) ∧ (((¬ ((g 92) (((((4 : Int32) * ((g 76) ((13 : Int32) + l1).toNatClampNeg)) + ((g 76) ((16 : Int32) + l1).toNatClampNeg)) * (10 : Int32)) + ((g 76) ((19 : Int32) + l1).toNatClampNeg)).toNatClampNeg) = 1000000) → ((¬ ((((((4 : Int32) * ((g 76) ((13 : Int32) + l1).toNatClampNeg)) + ((g 76) ((16 : Int32) + l1).toNatClampNeg)) * (10 : Int32)) + ((g 76) ((19 : Int32) + l1).toNatClampNeg)) < 0 ∨ 1000 ≤ (((((4 : Int32) * ((g 76) ((13 : Int32) + l1).toNatClampNeg)) + ((g 76) ((16 : Int32) + l1).toNatClampNeg)) * (10 : Int32)) + ((g 76) ((19 : Int32) + l1).toNatClampNeg)).toNatClampNeg)) ∧ P (some (.int ((g 92) (((((4 : Int32) * ((g 76) ((13 : Int32) + l1).toNatClampNeg)) + ((g 76) ((16 : Int32) + l1).toNatClampNeg)) * (10 : Int32)) + ((g 76) ((19 : Int32) + l1).toNatClampNeg)).toNatClampNeg))) (Wd f fl g gl hh v tx))) ∧
        ((((g 92) (((((4 : Int32) * ((g 76) ((13 : Int32) + l1).toNatClampNeg)) + ((g 76) ((16 : Int32) + l1).toNatClampNeg)) * (10 : Int32)) + ((g 76) ((19 : Int32) + l1).toNatClampNeg)).toNatClampNeg) = 1000000) → P (some (.int (-1))) (Wd f fl g gl hh v tx)))))))))))) :
    WP X (d + 2) 215 (31, [some (.ref 74), some (.int l1), some (.int l2), some (.int l3), none, none, none], [], Wd f fl g gl hh v tx) P := by
  refine WP.run hP_215 2 (c' := (33, [some (.ref 74), some (.int l1), some (.int l2), some (.int l3), none, none, none], [.int l1, .ref 74], Wd f fl g gl hh v tx)) rfl ?_
  refine WP.call hP_215 hP_208 (as := [.ref 74, .int l1]) (pc' := 36) (L' := [some (.ref 74), some (.int l1), some (.int l2), some (.int l3), none, none, none]) (st' := []) (w1 := Wd f fl g gl hh v tx) rfl ⟨Nat.le_of_ble_eq_true rfl, Nat.le_of_ble_eq_true rfl⟩ rfl (b_m_stateNow_0 X (d) f fl g gl hh v tx l1 _ ?_)
  refine ⟨h.1, ?_⟩
  have h1 := h.2
  refine ⟨h1.1, ?_⟩
  have h2 := h1.2
  refine ⟨h2.1, ?_⟩
  have h3 := h2.2
  refine WP.run hP_215 4 (c' := (44, [some (.ref 74), some (.int l1), some (.int l2), some (.int l3), some (.int (((((4 : Int32) * ((g 76) ((13 : Int32) + l1).toNatClampNeg)) + ((g 76) ((16 : Int32) + l1).toNatClampNeg)) * (10 : Int32)) + ((g 76) ((19 : Int32) + l1).toNatClampNeg))), none, none], [.int (((((4 : Int32) * ((g 76) ((13 : Int32) + l1).toNatClampNeg)) + ((g 76) ((16 : Int32) + l1).toNatClampNeg)) * (10 : Int32)) + ((g 76) ((19 : Int32) + l1).toNatClampNeg)), .ref 92], Wd f fl g gl hh v tx)) rfl ?_
  refine WP.of (fun _ _ => Ex.iald hP_215 rfl (Wa_92 _ _ _ _ _ _ _) h3.1) ?_
  have h4 := h3.2
  refine WP.run hP_215 1 (c' := (47, [some (.ref 74), some (.int l1), some (.int l2), some (.int l3), some (.int (((((4 : Int32) * ((g 76) ((13 : Int32) + l1).toNatClampNeg)) + ((g 76) ((16 : Int32) + l1).toNatClampNeg)) * (10 : Int32)) + ((g 76) ((19 : Int32) + l1).toNatClampNeg))), none, none], [.int 1000000, .int ((g 92) (((((4 : Int32) * ((g 76) ((13 : Int32) + l1).toNatClampNeg)) + ((g 76) ((16 : Int32) + l1).toNatClampNeg)) * (10 : Int32)) + ((g 76) ((19 : Int32) + l1).toNatClampNeg)).toNatClampNeg)], Wd f fl g gl hh v tx)) rfl ?_
  refine WP.br hP_215 (q := ((g 92) (((((4 : Int32) * ((g 76) ((13 : Int32) + l1).toNatClampNeg)) + ((g 76) ((16 : Int32) + l1).toNatClampNeg)) * (10 : Int32)) + ((g 76) ((19 : Int32) + l1).toNatClampNeg)).toNatClampNeg) = 1000000) (t := 55) (f := 50) (L := [some (.ref 74), some (.int l1), some (.int l2), some (.int l3), some (.int (((((4 : Int32) * ((g 76) ((13 : Int32) + l1).toNatClampNeg)) + ((g 76) ((16 : Int32) + l1).toNatClampNeg)) * (10 : Int32)) + ((g 76) ((19 : Int32) + l1).toNatClampNeg))), none, none]) (st := []) (w := Wd f fl g gl hh v tx) rfl (fun c5 => ?_) (fun c5 => ?_)
  · have h6 := h4.1 c5
    refine WP.run hP_215 3 (c' := (61, [some (.ref 74), none, none, none, some (.int (((((4 : Int32) * ((g 76) ((13 : Int32) + l1).toNatClampNeg)) + ((g 76) ((16 : Int32) + l1).toNatClampNeg)) * (10 : Int32)) + ((g 76) ((19 : Int32) + l1).toNatClampNeg))), none, none], [.int (((((4 : Int32) * ((g 76) ((13 : Int32) + l1).toNatClampNeg)) + ((g 76) ((16 : Int32) + l1).toNatClampNeg)) * (10 : Int32)) + ((g 76) ((19 : Int32) + l1).toNatClampNeg)), .ref 92], Wd f fl g gl hh v tx)) rfl ?_
    refine WP.of (fun _ _ => Ex.iald hP_215 rfl (Wa_92 _ _ _ _ _ _ _) h6.1) ?_
    have h7 := h6.2
    refine WP.run hP_215 1 (c' := (64, [some (.ref 74), none, none, none, some (.int (((((4 : Int32) * ((g 76) ((13 : Int32) + l1).toNatClampNeg)) + ((g 76) ((16 : Int32) + l1).toNatClampNeg)) * (10 : Int32)) + ((g 76) ((19 : Int32) + l1).toNatClampNeg))), none, none], [.int 1000000, .int ((g 92) (((((4 : Int32) * ((g 76) ((13 : Int32) + l1).toNatClampNeg)) + ((g 76) ((16 : Int32) + l1).toNatClampNeg)) * (10 : Int32)) + ((g 76) ((19 : Int32) + l1).toNatClampNeg)).toNatClampNeg)], Wd f fl g gl hh v tx)) rfl ?_
    refine WP.br hP_215 (q := ¬ ((g 92) (((((4 : Int32) * ((g 76) ((13 : Int32) + l1).toNatClampNeg)) + ((g 76) ((16 : Int32) + l1).toNatClampNeg)) * (10 : Int32)) + ((g 76) ((19 : Int32) + l1).toNatClampNeg)).toNatClampNeg) = 1000000) (t := 71) (f := 67) (L := [some (.ref 74), none, none, none, some (.int (((((4 : Int32) * ((g 76) ((13 : Int32) + l1).toNatClampNeg)) + ((g 76) ((16 : Int32) + l1).toNatClampNeg)) * (10 : Int32)) + ((g 76) ((19 : Int32) + l1).toNatClampNeg))), none, none]) (st := []) (w := Wd f fl g gl hh v tx) rfl (fun c8 => ?_) (fun c8 => ?_)
    · have h9 := h7.1 c8
      refine WP.run hP_215 3 (c' := (77, [some (.ref 74), none, none, none, some (.int (((((4 : Int32) * ((g 76) ((13 : Int32) + l1).toNatClampNeg)) + ((g 76) ((16 : Int32) + l1).toNatClampNeg)) * (10 : Int32)) + ((g 76) ((19 : Int32) + l1).toNatClampNeg))), none, none], [.int (((((4 : Int32) * ((g 76) ((13 : Int32) + l1).toNatClampNeg)) + ((g 76) ((16 : Int32) + l1).toNatClampNeg)) * (10 : Int32)) + ((g 76) ((19 : Int32) + l1).toNatClampNeg)), .ref 92], Wd f fl g gl hh v tx)) rfl ?_
      refine WP.of (fun _ _ => Ex.iald hP_215 rfl (Wa_92 _ _ _ _ _ _ _) h9.1) ?_
      have h10 := h9.2
      exact WP.retI hP_215 rfl rfl h10
    · have h11 := h7.2 (Classical.not_not.mp c8)
      refine WP.run hP_215 2 (c' := (78, [some (.ref 74), none, none, none, some (.int (((((4 : Int32) * ((g 76) ((13 : Int32) + l1).toNatClampNeg)) + ((g 76) ((16 : Int32) + l1).toNatClampNeg)) * (10 : Int32)) + ((g 76) ((19 : Int32) + l1).toNatClampNeg))), none, none], [.int (-1)], Wd f fl g gl hh v tx)) rfl ?_
      exact WP.retI hP_215 rfl rfl h11
  · have h12 := h4.2 c5
    refine WP.run hP_215 2 (c' := (52, [some (.ref 74), some (.int l1), some (.int l2), some (.int l3), some (.int (((((4 : Int32) * ((g 76) ((13 : Int32) + l1).toNatClampNeg)) + ((g 76) ((16 : Int32) + l1).toNatClampNeg)) * (10 : Int32)) + ((g 76) ((19 : Int32) + l1).toNatClampNeg))), none, none], [.int (-1), .int l3], Wd f fl g gl hh v tx)) rfl ?_
    refine WP.br hP_215 (q := ¬ l3 = (-1)) (t := 79) (f := 55) (L := [some (.ref 74), some (.int l1), some (.int l2), some (.int l3), some (.int (((((4 : Int32) * ((g 76) ((13 : Int32) + l1).toNatClampNeg)) + ((g 76) ((16 : Int32) + l1).toNatClampNeg)) * (10 : Int32)) + ((g 76) ((19 : Int32) + l1).toNatClampNeg))), none, none]) (st := []) (w := Wd f fl g gl hh v tx) rfl (fun c13 => ?_) (fun c13 => ?_)
    · have h14 := h12.1 c13
      refine WP.run hP_215 1 (c' := (80, [some (.ref 74), none, none, some (.int l3), some (.int (((((4 : Int32) * ((g 76) ((13 : Int32) + l1).toNatClampNeg)) + ((g 76) ((16 : Int32) + l1).toNatClampNeg)) * (10 : Int32)) + ((g 76) ((19 : Int32) + l1).toNatClampNeg))), none, none], [.int (-1)], Wd f fl g gl hh v tx)) rfl ?_
      refine WP.run hP_215 2 (c' := (83, [some (.ref 74), none, none, some (.int l3), some (.int (((((4 : Int32) * ((g 76) ((13 : Int32) + l1).toNatClampNeg)) + ((g 76) ((16 : Int32) + l1).toNatClampNeg)) * (10 : Int32)) + ((g 76) ((19 : Int32) + l1).toNatClampNeg))), some (.int (-1)), none], [.int 0], Wd f fl g gl hh v tx)) rfl ?_
      refine WP.run hP_215 1 (c' := (85, [some (.ref 74), none, none, some (.int l3), some (.int (((((4 : Int32) * ((g 76) ((13 : Int32) + l1).toNatClampNeg)) + ((g 76) ((16 : Int32) + l1).toNatClampNeg)) * (10 : Int32)) + ((g 76) ((19 : Int32) + l1).toNatClampNeg))), some (.int (-1)), some (.int 0)], [], Wd f fl g gl hh v tx)) rfl ?_
      exact h14
    · have h15 := h12.2 (Classical.not_not.mp c13)
      refine WP.run hP_215 3 (c' := (61, [some (.ref 74), none, none, none, some (.int (((((4 : Int32) * ((g 76) ((13 : Int32) + l1).toNatClampNeg)) + ((g 76) ((16 : Int32) + l1).toNatClampNeg)) * (10 : Int32)) + ((g 76) ((19 : Int32) + l1).toNatClampNeg))), none, none], [.int (((((4 : Int32) * ((g 76) ((13 : Int32) + l1).toNatClampNeg)) + ((g 76) ((16 : Int32) + l1).toNatClampNeg)) * (10 : Int32)) + ((g 76) ((19 : Int32) + l1).toNatClampNeg)), .ref 92], Wd f fl g gl hh v tx)) rfl ?_
      refine WP.of (fun _ _ => Ex.iald hP_215 rfl (Wa_92 _ _ _ _ _ _ _) h15.1) ?_
      have h16 := h15.2
      refine WP.run hP_215 1 (c' := (64, [some (.ref 74), none, none, none, some (.int (((((4 : Int32) * ((g 76) ((13 : Int32) + l1).toNatClampNeg)) + ((g 76) ((16 : Int32) + l1).toNatClampNeg)) * (10 : Int32)) + ((g 76) ((19 : Int32) + l1).toNatClampNeg))), none, none], [.int 1000000, .int ((g 92) (((((4 : Int32) * ((g 76) ((13 : Int32) + l1).toNatClampNeg)) + ((g 76) ((16 : Int32) + l1).toNatClampNeg)) * (10 : Int32)) + ((g 76) ((19 : Int32) + l1).toNatClampNeg)).toNatClampNeg)], Wd f fl g gl hh v tx)) rfl ?_
      refine WP.br hP_215 (q := ¬ ((g 92) (((((4 : Int32) * ((g 76) ((13 : Int32) + l1).toNatClampNeg)) + ((g 76) ((16 : Int32) + l1).toNatClampNeg)) * (10 : Int32)) + ((g 76) ((19 : Int32) + l1).toNatClampNeg)).toNatClampNeg) = 1000000) (t := 71) (f := 67) (L := [some (.ref 74), none, none, none, some (.int (((((4 : Int32) * ((g 76) ((13 : Int32) + l1).toNatClampNeg)) + ((g 76) ((16 : Int32) + l1).toNatClampNeg)) * (10 : Int32)) + ((g 76) ((19 : Int32) + l1).toNatClampNeg))), none, none]) (st := []) (w := Wd f fl g gl hh v tx) rfl (fun c17 => ?_) (fun c17 => ?_)
      · have h18 := h16.1 c17
        refine WP.run hP_215 3 (c' := (77, [some (.ref 74), none, none, none, some (.int (((((4 : Int32) * ((g 76) ((13 : Int32) + l1).toNatClampNeg)) + ((g 76) ((16 : Int32) + l1).toNatClampNeg)) * (10 : Int32)) + ((g 76) ((19 : Int32) + l1).toNatClampNeg))), none, none], [.int (((((4 : Int32) * ((g 76) ((13 : Int32) + l1).toNatClampNeg)) + ((g 76) ((16 : Int32) + l1).toNatClampNeg)) * (10 : Int32)) + ((g 76) ((19 : Int32) + l1).toNatClampNeg)), .ref 92], Wd f fl g gl hh v tx)) rfl ?_
        refine WP.of (fun _ _ => Ex.iald hP_215 rfl (Wa_92 _ _ _ _ _ _ _) h18.1) ?_
        have h19 := h18.2
        exact WP.retI hP_215 rfl rfl h19
      · have h20 := h16.2 (Classical.not_not.mp c17)
        refine WP.run hP_215 2 (c' := (78, [some (.ref 74), none, none, none, some (.int (((((4 : Int32) * ((g 76) ((13 : Int32) + l1).toNatClampNeg)) + ((g 76) ((16 : Int32) + l1).toNatClampNeg)) * (10 : Int32)) + ((g 76) ((19 : Int32) + l1).toNatClampNeg))), none, none], [.int (-1)], Wd f fl g gl hh v tx)) rfl ?_
        exact WP.retI hP_215 rfl rfl h20

set_option maxRecDepth 20000 in
theorem b_m_plan_85 (X : mm_X) (d : Nat) (f : Nat → Int32) (fl : Nat → Int64) (g : Nat → Nat → Int32) (gl : Nat → Nat → Int64) (hh : Nat → Nat → Option Nat) (v : Nat → Value) (tx : mm_W) (l3 : Int32) (l4 : Int32) (l5 : Int32) (l6 : Int32)  (P : Option Value → mm_W → Prop)
    (h : ((l3 < l6) → P (some (.int l5)) (Wd f fl g gl hh v tx)) ∧
    ((¬ (l3 < l6)) → ((¬ (l4 < 0 ∨ 1000 ≤ l4.toNatClampNeg)) ∧ (((¬ ((g 92) l4.toNatClampNeg) = 0) → WP X (d) 215 (106, [some (.ref 74), none, none, some (.int l3), some (.int l4), some (.int 0), some (.int l6)], [], Wd f fl g gl hh v tx) P) ∧
      ((((g 92) l4.toNatClampNeg) = 0) → P (some (.int (-1))) (Wd f fl g gl hh v tx)))))) :
    WP X (d) 215 (85, [some (.ref 74), none, none, some (.int l3), some (.int l4), some (.int l5), some (.int l6)], [], Wd f fl g gl hh v tx) P := by
  refine WP.run hP_215 2 (c' := (88, [some (.ref 74), none, none, some (.int l3), some (.int l4), some (.int l5), some (.int l6)], [.int l3, .int l6], Wd f fl g gl hh v tx)) rfl ?_
  refine WP.br hP_215 (q := l3 < l6) (t := 159) (f := 91) (L := [some (.ref 74), none, none, some (.int l3), some (.int l4), some (.int l5), some (.int l6)]) (st := []) (w := Wd f fl g gl hh v tx) rfl (fun c1 => ?_) (fun c1 => ?_)
  · have h2 := h.1 c1
    refine WP.run hP_215 1 (c' := (161, [none, none, none, none, none, some (.int l5), none], [.int l5], Wd f fl g gl hh v tx)) rfl ?_
    exact WP.retI hP_215 rfl rfl h2
  · have h3 := h.2 c1
    refine WP.run hP_215 3 (c' := (97, [some (.ref 74), none, none, some (.int l3), some (.int l4), some (.int l5), some (.int l6)], [.int l4, .ref 92], Wd f fl g gl hh v tx)) rfl ?_
    refine WP.of (fun _ _ => Ex.iald hP_215 rfl (Wa_92 _ _ _ _ _ _ _) h3.1) ?_
    have h4 := h3.2
    refine WP.br hP_215 (q := ¬ ((g 92) l4.toNatClampNeg) = 0) (t := 103) (f := 101) (L := [some (.ref 74), none, none, some (.int l3), some (.int l4), some (.int l5), some (.int l6)]) (st := []) (w := Wd f fl g gl hh v tx) rfl (fun c5 => ?_) (fun c5 => ?_)
    · have h6 := h4.1 c5
      refine WP.run hP_215 1 (c' := (104, [some (.ref 74), none, none, some (.int l3), some (.int l4), none, some (.int l6)], [.int 0], Wd f fl g gl hh v tx)) rfl ?_
      refine WP.run hP_215 1 (c' := (106, [some (.ref 74), none, none, some (.int l3), some (.int l4), some (.int 0), some (.int l6)], [], Wd f fl g gl hh v tx)) rfl ?_
      exact h6
    · have h7 := h4.2 (Classical.not_not.mp c5)
      refine WP.run hP_215 1 (c' := (102, [some (.ref 74), none, none, some (.int l3), some (.int l4), some (.int l5), some (.int l6)], [.int (-1)], Wd f fl g gl hh v tx)) rfl ?_
      exact WP.retI hP_215 rfl rfl h7

set_option maxRecDepth 20000 in
theorem b_m_plan_106 (X : mm_X) (d : Nat) (f : Nat → Int32) (fl : Nat → Int64) (g : Nat → Nat → Int32) (gl : Nat → Nat → Int64) (hh : Nat → Nat → Option Nat) (v : Nat → Value) (tx : mm_W) (l3 : Int32) (l4 : Int32) (l5 : Int32) (l6 : Int32)  (P : Option Value → mm_W → Prop)
    (h : (¬ (((39 : Int32) + l5) < 0 ∨ 5667 ≤ ((39 : Int32) + l5).toNatClampNeg)) ∧ ((¬ ((((6 : Int32) * l4) + ((g 76) ((39 : Int32) + l5).toNatClampNeg)) < 0 ∨ 6000 ≤ (((6 : Int32) * l4) + ((g 76) ((39 : Int32) + l5).toNatClampNeg)).toNatClampNeg)) ∧ ((¬ (((g 91) (((6 : Int32) * l4) + ((g 76) ((39 : Int32) + l5).toNatClampNeg)).toNatClampNeg) < 0 ∨ 1000 ≤ ((g 91) (((6 : Int32) * l4) + ((g 76) ((39 : Int32) + l5).toNatClampNeg)).toNatClampNeg).toNatClampNeg)) ∧ ((¬ (((31 : Int32) + l5) < 0 ∨ 5667 ≤ ((31 : Int32) + l5).toNatClampNeg)) ∧ ((((((g 92) ((g 91) (((6 : Int32) * l4) + ((g 76) ((39 : Int32) + l5).toNatClampNeg)).toNatClampNeg).toNatClampNeg) + ((g 76) ((31 : Int32) + l5).toNatClampNeg)) ≤ (1000000 : Int32)) → ((¬ (l4 < 0 ∨ 1000 ≤ l4.toNatClampNeg)) ∧ ((((((g 92) ((g 91) (((6 : Int32) * l4) + ((g 76) ((39 : Int32) + l5).toNatClampNeg)).toNatClampNeg).toNatClampNeg) + ((g 76) ((31 : Int32) + l5).toNatClampNeg)) = ((g 92) l4.toNatClampNeg)) → ((¬ (((39 : Int32) + l5) < 0 ∨ 5667 ≤ ((39 : Int32) + l5).toNatClampNeg)) ∧ ((¬ ((((6 : Int32) * l4) + ((g 76) ((39 : Int32) + l5).toNatClampNeg)) < 0 ∨ 6000 ≤ (((6 : Int32) * l4) + ((g 76) ((39 : Int32) + l5).toNatClampNeg)).toNatClampNeg)) ∧ WP X (d + 2) 215 (85, [some (.ref 74), none, none, some (.int l3), some (.int ((g 91) (((6 : Int32) * l4) + ((g 76) ((39 : Int32) + l5).toNatClampNeg)).toNatClampNeg)), some (.int l5), some (.int (l6 + (1 : Int32)))], [], Wd f fl g gl hh v tx) P))) ∧
      ((¬ (((g 92) ((g 91) (((6 : Int32) * l4) + ((g 76) ((39 : Int32) + l5).toNatClampNeg)).toNatClampNeg).toNatClampNeg) + ((g 76) ((31 : Int32) + l5).toNatClampNeg)) = ((g 92) l4.toNatClampNeg)) → WP X (d + 2) 215 (106, [some (.ref 74), none, none, some (.int l3), some (.int l4), some (.int (l5 + (1 : Int32))), some (.int l6)], [], Wd f fl g gl hh v tx) P)))) ∧
    ((¬ ((((g 92) ((g 91) (((6 : Int32) * l4) + ((g 76) ((39 : Int32) + l5).toNatClampNeg)).toNatClampNeg).toNatClampNeg) + ((g 76) ((31 : Int32) + l5).toNatClampNeg)) ≤ (1000000 : Int32))) → ((¬ (l4 < 0 ∨ 1000 ≤ l4.toNatClampNeg)) ∧ (((1000000 = ((g 92) l4.toNatClampNeg)) → ((¬ (((39 : Int32) + l5) < 0 ∨ 5667 ≤ ((39 : Int32) + l5).toNatClampNeg)) ∧ ((¬ ((((6 : Int32) * l4) + ((g 76) ((39 : Int32) + l5).toNatClampNeg)) < 0 ∨ 6000 ≤ (((6 : Int32) * l4) + ((g 76) ((39 : Int32) + l5).toNatClampNeg)).toNatClampNeg)) ∧ WP X (d + 2) 215 (85, [some (.ref 74), none, none, some (.int l3), some (.int ((g 91) (((6 : Int32) * l4) + ((g 76) ((39 : Int32) + l5).toNatClampNeg)).toNatClampNeg)), some (.int l5), some (.int (l6 + (1 : Int32)))], [], Wd f fl g gl hh v tx) P))) ∧
      ((¬ 1000000 = ((g 92) l4.toNatClampNeg)) → WP X (d + 2) 215 (106, [some (.ref 74), none, none, some (.int l3), some (.int l4), some (.int (l5 + (1 : Int32))), some (.int l6)], [], Wd f fl g gl hh v tx) P))))))))) :
    WP X (d + 2) 215 (106, [some (.ref 74), none, none, some (.int l3), some (.int l4), some (.int l5), some (.int l6)], [], Wd f fl g gl hh v tx) P := by
  refine WP.run hP_215 3 (c' := (111, [some (.ref 74), none, none, some (.int l3), some (.int l4), some (.int l5), some (.int l6)], [.int l5, .int l4, .ref 74], Wd f fl g gl hh v tx)) rfl ?_
  refine WP.call hP_215 hP_213 (as := [.ref 74, .int l4, .int l5]) (pc' := 114) (L' := [some (.ref 74), none, none, some (.int l3), some (.int l4), some (.int l5), some (.int l6)]) (st' := []) (w1 := Wd f fl g gl hh v tx) rfl ⟨Nat.le_of_ble_eq_true rfl, Nat.le_of_ble_eq_true rfl⟩ rfl (b_m_leftWith_0 X (d) f fl g gl hh v tx l4 l5 _ ?_)
  refine ⟨h.1, ?_⟩
  have h1 := h.2
  refine ⟨h1.1, ?_⟩
  have h2 := h1.2
  refine ⟨h2.1, ?_⟩
  have h3 := h2.2
  refine ⟨h3.1, ?_⟩
  have h4 := h3.2
  refine ⟨fun c5 => ?_, fun c5 => ?_⟩
  · have h6 := h4.1 c5
    refine WP.run hP_215 3 (c' := (120, [some (.ref 74), none, none, some (.int l3), some (.int l4), some (.int l5), some (.int l6)], [.int l4, .ref 92, .int (((g 92) ((g 91) (((6 : Int32) * l4) + ((g 76) ((39 : Int32) + l5).toNatClampNeg)).toNatClampNeg).toNatClampNeg) + ((g 76) ((31 : Int32) + l5).toNatClampNeg))], Wd f fl g gl hh v tx)) rfl ?_
    refine WP.of (fun _ _ => Ex.iald hP_215 rfl (Wa_92 _ _ _ _ _ _ _) h6.1) ?_
    have h7 := h6.2
    refine WP.br hP_215 (q := (((g 92) ((g 91) (((6 : Int32) * l4) + ((g 76) ((39 : Int32) + l5).toNatClampNeg)).toNatClampNeg).toNatClampNeg) + ((g 76) ((31 : Int32) + l5).toNatClampNeg)) = ((g 92) l4.toNatClampNeg)) (t := 130) (f := 124) (L := [some (.ref 74), none, none, some (.int l3), some (.int l4), some (.int l5), some (.int l6)]) (st := []) (w := Wd f fl g gl hh v tx) rfl (fun c8 => ?_) (fun c8 => ?_)
    · have h9 := h7.1 c8
      refine WP.run hP_215 10 (c' := (148, [some (.ref 74), none, none, some (.int l3), some (.int l4), some (.int l5), some (.int l6)], [.int ((39 : Int32) + l5), .ref 76, .int ((6 : Int32) * l4), .ref 91], Wd f fl g gl hh v tx)) rfl ?_
      refine WP.of (fun _ _ => Ex.iald hP_215 rfl (Wa_76 _ _ _ _ _ _ _) h9.1) ?_
      have h10 := h9.2
      refine WP.run hP_215 1 (c' := (150, [some (.ref 74), none, none, some (.int l3), some (.int l4), some (.int l5), some (.int l6)], [.int (((6 : Int32) * l4) + ((g 76) ((39 : Int32) + l5).toNatClampNeg)), .ref 91], Wd f fl g gl hh v tx)) rfl ?_
      refine WP.of (fun _ _ => Ex.iald hP_215 rfl (Wa_91 _ _ _ _ _ _ _) h10.1) ?_
      have h11 := h10.2
      refine WP.run hP_215 1 (c' := (153, [some (.ref 74), none, none, some (.int l3), some (.int ((g 91) (((6 : Int32) * l4) + ((g 76) ((39 : Int32) + l5).toNatClampNeg)).toNatClampNeg)), some (.int l5), some (.int l6)], [], Wd f fl g gl hh v tx)) rfl ?_
      refine WP.run hP_215 2 (c' := (85, [some (.ref 74), none, none, some (.int l3), some (.int ((g 91) (((6 : Int32) * l4) + ((g 76) ((39 : Int32) + l5).toNatClampNeg)).toNatClampNeg)), some (.int l5), some (.int (l6 + (1 : Int32)))], [], Wd f fl g gl hh v tx)) rfl ?_
      exact h11
    · have h12 := h7.2 c8
      refine WP.run hP_215 2 (c' := (106, [some (.ref 74), none, none, some (.int l3), some (.int l4), some (.int (l5 + (1 : Int32))), some (.int l6)], [], Wd f fl g gl hh v tx)) rfl ?_
      exact h12
  · have h13 := h4.2 c5
    refine WP.run hP_215 3 (c' := (120, [some (.ref 74), none, none, some (.int l3), some (.int l4), some (.int l5), some (.int l6)], [.int l4, .ref 92, .int 1000000], Wd f fl g gl hh v tx)) rfl ?_
    refine WP.of (fun _ _ => Ex.iald hP_215 rfl (Wa_92 _ _ _ _ _ _ _) h13.1) ?_
    have h14 := h13.2
    refine WP.br hP_215 (q := 1000000 = ((g 92) l4.toNatClampNeg)) (t := 130) (f := 124) (L := [some (.ref 74), none, none, some (.int l3), some (.int l4), some (.int l5), some (.int l6)]) (st := []) (w := Wd f fl g gl hh v tx) rfl (fun c15 => ?_) (fun c15 => ?_)
    · have h16 := h14.1 c15
      refine WP.run hP_215 10 (c' := (148, [some (.ref 74), none, none, some (.int l3), some (.int l4), some (.int l5), some (.int l6)], [.int ((39 : Int32) + l5), .ref 76, .int ((6 : Int32) * l4), .ref 91], Wd f fl g gl hh v tx)) rfl ?_
      refine WP.of (fun _ _ => Ex.iald hP_215 rfl (Wa_76 _ _ _ _ _ _ _) h16.1) ?_
      have h17 := h16.2
      refine WP.run hP_215 1 (c' := (150, [some (.ref 74), none, none, some (.int l3), some (.int l4), some (.int l5), some (.int l6)], [.int (((6 : Int32) * l4) + ((g 76) ((39 : Int32) + l5).toNatClampNeg)), .ref 91], Wd f fl g gl hh v tx)) rfl ?_
      refine WP.of (fun _ _ => Ex.iald hP_215 rfl (Wa_91 _ _ _ _ _ _ _) h17.1) ?_
      have h18 := h17.2
      refine WP.run hP_215 1 (c' := (153, [some (.ref 74), none, none, some (.int l3), some (.int ((g 91) (((6 : Int32) * l4) + ((g 76) ((39 : Int32) + l5).toNatClampNeg)).toNatClampNeg)), some (.int l5), some (.int l6)], [], Wd f fl g gl hh v tx)) rfl ?_
      refine WP.run hP_215 2 (c' := (85, [some (.ref 74), none, none, some (.int l3), some (.int ((g 91) (((6 : Int32) * l4) + ((g 76) ((39 : Int32) + l5).toNatClampNeg)).toNatClampNeg)), some (.int l5), some (.int (l6 + (1 : Int32)))], [], Wd f fl g gl hh v tx)) rfl ?_
      exact h18
    · have h19 := h14.2 c15
      refine WP.run hP_215 2 (c' := (106, [some (.ref 74), none, none, some (.int l3), some (.int l4), some (.int (l5 + (1 : Int32))), some (.int l6)], [], Wd f fl g gl hh v tx)) rfl ?_
      exact h19

set_option maxRecDepth 20000 in
theorem b_j_fill46_0 (X : mm_X) (d : Nat) (f : Nat → Int32) (fl : Nat → Int64) (g : Nat → Nat → Int32) (gl : Nat → Nat → Int64) (hh : Nat → Nat → Option Nat) (v : Nat → Value) (tx : mm_W) (p0 : Int32)  (P : Option Value → mm_W → Prop)
    (h : WP X (d) 258 (5, [some (.ref 46), some (.int p0), some (.int 0), some (.int 1000)], [], Wd f fl g gl hh v tx) P) :
    WP X (d) 258 (0, [some (.ref 46), some (.int p0), none, none], [], Wd f fl g gl hh v tx) P := by
  refine WP.run hP_258 4 (c' := (4, [some (.ref 46), some (.int p0), some (.int 0), none], [.int 1000], Wd f fl g gl hh v tx)) rfl ?_
  refine WP.run hP_258 1 (c' := (5, [some (.ref 46), some (.int p0), some (.int 0), some (.int 1000)], [], Wd f fl g gl hh v tx)) rfl ?_
  exact h

set_option maxRecDepth 20000 in
theorem b_j_fill46_5 (X : mm_X) (d : Nat) (f : Nat → Int32) (fl : Nat → Int64) (g : Nat → Nat → Int32) (gl : Nat → Nat → Int64) (hh : Nat → Nat → Option Nat) (v : Nat → Value) (tx : mm_W) (l1 : Int32) (l2 : Int32) (l3 : Int32)  (P : Option Value → mm_W → Prop)
    (h : ((l3 ≤ l2) → P none (Wd f fl g gl hh v tx)) ∧
    ((¬ (l3 ≤ l2)) → ((¬ (l2 < 0 ∨ 1000 ≤ l2.toNatClampNeg)) ∧ WP X (d) 258 (5, [some (.ref 46), some (.int l1), some (.int (l2 + (1 : Int32))), some (.int l3)], [], Wd f fl (va_up g 46 (upd (g 46) (l2.toNatClampNeg) l1)) gl hh v tx) P))) :
    WP X (d) 258 (5, [some (.ref 46), some (.int l1), some (.int l2), some (.int l3)], [], Wd f fl g gl hh v tx) P := by
  refine WP.run hP_258 2 (c' := (7, [some (.ref 46), some (.int l1), some (.int l2), some (.int l3)], [.int l3, .int l2], Wd f fl g gl hh v tx)) rfl ?_
  refine WP.br hP_258 (q := l3 ≤ l2) (t := 20) (f := 10) (L := [some (.ref 46), some (.int l1), some (.int l2), some (.int l3)]) (st := []) (w := Wd f fl g gl hh v tx) rfl (fun c1 => ?_) (fun c1 => ?_)
  · have h2 := h.1 c1
    exact WP.ret hP_258 (r := none) (w' := Wd f fl g gl hh v tx) rfl h2
  · have h3 := h.2 c1
    refine WP.run hP_258 3 (c' := (13, [some (.ref 46), some (.int l1), some (.int l2), some (.int l3)], [.int l1, .int l2, .ref 46], Wd f fl g gl hh v tx)) rfl ?_
    refine WP.of (fun _ _ => Ex.iast hP_258 (w2 := Wd f fl (va_up g 46 (upd (g 46) (l2.toNatClampNeg) l1)) gl hh v tx) rfl (Wa_46 _ _ _ _ _ _ _) h3.1 (Ws_46 _ _ _ _ _ _ _ _)) ?_
    have h4 := h3.2
    refine WP.run hP_258 2 (c' := (5, [some (.ref 46), some (.int l1), some (.int (l2 + (1 : Int32))), some (.int l3)], [], Wd f fl (va_up g 46 (upd (g 46) (l2.toNatClampNeg) l1)) gl hh v tx)) rfl ?_
    exact h4

set_option maxRecDepth 20000 in
theorem b_j_fill49_0 (X : mm_X) (d : Nat) (f : Nat → Int32) (fl : Nat → Int64) (g : Nat → Nat → Int32) (gl : Nat → Nat → Int64) (hh : Nat → Nat → Option Nat) (v : Nat → Value) (tx : mm_W) (p0 : Int32)  (P : Option Value → mm_W → Prop)
    (h : WP X (d) 258 (5, [some (.ref 49), some (.int p0), some (.int 0), some (.int 250)], [], Wd f fl g gl hh v tx) P) :
    WP X (d) 258 (0, [some (.ref 49), some (.int p0), none, none], [], Wd f fl g gl hh v tx) P := by
  refine WP.run hP_258 4 (c' := (4, [some (.ref 49), some (.int p0), some (.int 0), none], [.int 250], Wd f fl g gl hh v tx)) rfl ?_
  refine WP.run hP_258 1 (c' := (5, [some (.ref 49), some (.int p0), some (.int 0), some (.int 250)], [], Wd f fl g gl hh v tx)) rfl ?_
  exact h

set_option maxRecDepth 20000 in
theorem b_j_fill49_5 (X : mm_X) (d : Nat) (f : Nat → Int32) (fl : Nat → Int64) (g : Nat → Nat → Int32) (gl : Nat → Nat → Int64) (hh : Nat → Nat → Option Nat) (v : Nat → Value) (tx : mm_W) (l1 : Int32) (l2 : Int32) (l3 : Int32)  (P : Option Value → mm_W → Prop)
    (h : ((l3 ≤ l2) → P none (Wd f fl g gl hh v tx)) ∧
    ((¬ (l3 ≤ l2)) → ((¬ (l2 < 0 ∨ 250 ≤ l2.toNatClampNeg)) ∧ WP X (d) 258 (5, [some (.ref 49), some (.int l1), some (.int (l2 + (1 : Int32))), some (.int l3)], [], Wd f fl (va_up g 49 (upd (g 49) (l2.toNatClampNeg) l1)) gl hh v tx) P))) :
    WP X (d) 258 (5, [some (.ref 49), some (.int l1), some (.int l2), some (.int l3)], [], Wd f fl g gl hh v tx) P := by
  refine WP.run hP_258 2 (c' := (7, [some (.ref 49), some (.int l1), some (.int l2), some (.int l3)], [.int l3, .int l2], Wd f fl g gl hh v tx)) rfl ?_
  refine WP.br hP_258 (q := l3 ≤ l2) (t := 20) (f := 10) (L := [some (.ref 49), some (.int l1), some (.int l2), some (.int l3)]) (st := []) (w := Wd f fl g gl hh v tx) rfl (fun c1 => ?_) (fun c1 => ?_)
  · have h2 := h.1 c1
    exact WP.ret hP_258 (r := none) (w' := Wd f fl g gl hh v tx) rfl h2
  · have h3 := h.2 c1
    refine WP.run hP_258 3 (c' := (13, [some (.ref 49), some (.int l1), some (.int l2), some (.int l3)], [.int l1, .int l2, .ref 49], Wd f fl g gl hh v tx)) rfl ?_
    refine WP.of (fun _ _ => Ex.iast hP_258 (w2 := Wd f fl (va_up g 49 (upd (g 49) (l2.toNatClampNeg) l1)) gl hh v tx) rfl (Wa_49 _ _ _ _ _ _ _) h3.1 (Ws_49 _ _ _ _ _ _ _ _)) ?_
    have h4 := h3.2
    refine WP.run hP_258 2 (c' := (5, [some (.ref 49), some (.int l1), some (.int (l2 + (1 : Int32))), some (.int l3)], [], Wd f fl (va_up g 49 (upd (g 49) (l2.toNatClampNeg) l1)) gl hh v tx)) rfl ?_
    exact h4
