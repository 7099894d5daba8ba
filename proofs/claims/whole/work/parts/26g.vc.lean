set_option maxRecDepth 20000 in
theorem b_x_refused_0 (X : mm_X) (d : Nat) (f : Nat → Int32) (fl : Nat → Int64) (g : Nat → Nat → Int32) (gl : Nat → Nat → Int64) (hh : Nat → Nat → Option Nat) (v : Nat → Value) (tx : mm_W) (p0 : Int32)  (P : Option Value → mm_W → Prop)
    (h : ((0 ≤ (-p0) ∧ (-p0) < (7 : Int32)) → ((¬ ((-p0) < 0 ∨ 7 ≤ (-p0).toNatClampNeg)) ∧ ((¬ ((-p0) < 0 ∨ 7 ≤ (-p0).toNatClampNeg)) ∧ P (some (.int p0)) (Wd (va_up f 18 p0) fl (va_up g 55 (upd (g 55) ((-p0).toNatClampNeg) (((g 55) (-p0).toNatClampNeg) + (1 : Int32)))) gl hh v tx)))) ∧
    ((¬ (0 ≤ (-p0) ∧ (-p0) < (7 : Int32))) → P (some (.int p0)) (Wd (va_up f 18 p0) fl g gl hh v tx))) :
    WP X (d + 1) 101 (0, [some (.ref 0), some (.int p0), none], [], Wd f fl g gl hh v tx) P := by
  refine WP.run hP_101 10 (c' := (14, [some (.ref 0), some (.int p0), some (.int (-p0))], [.int 7, .int (-p0)], Wd (va_up f 18 p0) fl g gl hh v tx)) rfl ?_
  refine WP.call hP_101 hP_99 (as := [.int (-p0), .int 7]) (pc' := 17) (L' := [some (.ref 0), some (.int p0), some (.int (-p0))]) (st' := []) (w1 := Wd (va_up f 18 p0) fl g gl hh v tx) rfl ⟨Nat.le_of_ble_eq_true rfl, Nat.le_of_ble_eq_true rfl⟩ rfl (b_within_m X (d) (va_up f 18 p0) fl g gl hh v tx (-p0) 7 _ ?_)
  refine ⟨fun c1 => ?_, fun c1 => ?_⟩
  · have h2 := h.1 c1
    refine WP.run hP_101 5 (c' := (26, [some (.ref 0), some (.int p0), some (.int (-p0))], [.int (-p0), .ref 55, .int (-p0), .ref 55], Wd (va_up f 18 p0) fl g gl hh v tx)) rfl ?_
    refine WP.of (fun _ _ => Ex.iald hP_101 rfl (Wa_55 _ _ _ _ _ _ _) h2.1) ?_
    have h3 := h2.2
    refine WP.run hP_101 2 (c' := (29, [some (.ref 0), some (.int p0), some (.int (-p0))], [.int (((g 55) (-p0).toNatClampNeg) + (1 : Int32)), .int (-p0), .ref 55], Wd (va_up f 18 p0) fl g gl hh v tx)) rfl ?_
    refine WP.of (fun _ _ => Ex.iast hP_101 (w2 := Wd (va_up f 18 p0) fl (va_up g 55 (upd (g 55) ((-p0).toNatClampNeg) (((g 55) (-p0).toNatClampNeg) + (1 : Int32)))) gl hh v tx) rfl (Wa_55 _ _ _ _ _ _ _) h3.1 (Ws_55 _ _ _ _ _ _ _ _)) ?_
    have h4 := h3.2
    refine WP.run hP_101 1 (c' := (31, [none, some (.int p0), none], [.int p0], Wd (va_up f 18 p0) fl (va_up g 55 (upd (g 55) ((-p0).toNatClampNeg) (((g 55) (-p0).toNatClampNeg) + (1 : Int32)))) gl hh v tx)) rfl ?_
    exact WP.retI hP_101 rfl rfl h4
  · have h5 := h.2 c1
    refine WP.run hP_101 2 (c' := (31, [none, some (.int p0), none], [.int p0], Wd (va_up f 18 p0) fl g gl hh v tx)) rfl ?_
    exact WP.retI hP_101 rfl rfl h5

set_option maxRecDepth 20000 in
theorem b_x_accepted_0 (X : mm_X) (d : Nat) (f : Nat → Int32) (fl : Nat → Int64) (g : Nat → Nat → Int32) (gl : Nat → Nat → Int64) (hh : Nat → Nat → Option Nat) (v : Nat → Value) (tx : mm_W) (p0 : Int32)  (P : Option Value → mm_W → Prop)
    (h : P (some (.int p0)) (Wd (va_up f 18 0) fl g gl hh v tx)) :
    WP X (d) 100 (0, [some (.ref 0), some (.int p0)], [], Wd f fl g gl hh v tx) P := by
  refine WP.run hP_100 4 (c' := (6, [some (.ref 0), some (.int p0)], [.int p0], Wd (va_up f 18 0) fl g gl hh v tx)) rfl ?_
  exact WP.retI hP_100 rfl rfl h

set_option maxRecDepth 20000 in
theorem b_x_settled_0 (X : mm_X) (d : Nat) (f : Nat → Int32) (fl : Nat → Int64) (g : Nat → Nat → Int32) (gl : Nat → Nat → Int64) (hh : Nat → Nat → Option Nat) (v : Nat → Value) (tx : mm_W) (p0 : Int32)  (P : Option Value → mm_W → Prop)
    (h : ((0 ≤ p0) → P (some (.int p0)) (Wd (va_up f 18 0) fl g gl hh v tx)) ∧
    ((¬ (0 ≤ p0)) → (((0 ≤ (-p0) ∧ (-p0) < (7 : Int32)) → ((¬ ((-p0) < 0 ∨ 7 ≤ (-p0).toNatClampNeg)) ∧ ((¬ ((-p0) < 0 ∨ 7 ≤ (-p0).toNatClampNeg)) ∧ P (some (.int p0)) (Wd (va_up f 18 p0) fl (va_up g 55 (upd (g 55) ((-p0).toNatClampNeg) (((g 55) (-p0).toNatClampNeg) + (1 : Int32)))) gl hh v tx)))) ∧
      ((¬ (0 ≤ (-p0) ∧ (-p0) < (7 : Int32))) → P (some (.int p0)) (Wd (va_up f 18 p0) fl g gl hh v tx))))) :
    WP X (d + 2) 102 (0, [some (.ref 0), some (.int p0)], [], Wd f fl g gl hh v tx) P := by
  refine WP.run hP_102 1 (c' := (1, [some (.ref 0), some (.int p0)], [.int p0], Wd f fl g gl hh v tx)) rfl ?_
  refine WP.br hP_102 (q := 0 ≤ p0) (t := 12) (f := 4) (L := [some (.ref 0), some (.int p0)]) (st := []) (w := Wd f fl g gl hh v tx) rfl (fun c1 => ?_) (fun c1 => ?_)
  · have h2 := h.1 c1
    refine WP.run hP_102 2 (c' := (14, [some (.ref 0), some (.int p0)], [.int p0, .ref 0], Wd f fl g gl hh v tx)) rfl ?_
    refine WP.call hP_102 hP_100 (as := [.ref 0, .int p0]) (pc' := 17) (L' := [some (.ref 0), some (.int p0)]) (st' := []) (w1 := Wd f fl g gl hh v tx) rfl ⟨Nat.le_of_ble_eq_true rfl, Nat.le_of_ble_eq_true rfl⟩ rfl (b_x_accepted_0 X (d + 1) f fl g gl hh v tx p0 _ ?_)
    exact WP.retI hP_102 rfl rfl h2
  · have h3 := h.2 c1
    refine WP.run hP_102 2 (c' := (6, [some (.ref 0), some (.int p0)], [.int p0, .ref 0], Wd f fl g gl hh v tx)) rfl ?_
    refine WP.call hP_102 hP_101 (as := [.ref 0, .int p0]) (pc' := 9) (L' := [some (.ref 0), some (.int p0)]) (st' := []) (w1 := Wd f fl g gl hh v tx) rfl ⟨Nat.le_of_ble_eq_true rfl, Nat.le_of_ble_eq_true rfl⟩ rfl (b_x_refused_0 X (d) f fl g gl hh v tx p0 _ ?_)
    refine ⟨fun c4 => ?_, fun c4 => ?_⟩
    · have h5 := h3.1 c4
      refine ⟨h5.1, ?_⟩
      have h6 := h5.2
      refine ⟨h6.1, ?_⟩
      have h7 := h6.2
      refine WP.run hP_102 1 (c' := (17, [some (.ref 0), some (.int p0)], [.int p0], Wd (va_up f 18 p0) fl (va_up g 55 (upd (g 55) ((-p0).toNatClampNeg) (((g 55) (-p0).toNatClampNeg) + (1 : Int32)))) gl hh v tx)) rfl ?_
      exact WP.retI hP_102 rfl rfl h7
    · have h8 := h3.2 c4
      refine WP.run hP_102 1 (c' := (17, [some (.ref 0), some (.int p0)], [.int p0], Wd (va_up f 18 p0) fl g gl hh v tx)) rfl ?_
      exact WP.retI hP_102 rfl rfl h8

set_option maxRecDepth 20000 in
theorem b_x_sign_0 (X : mm_X) (d : Nat) (f : Nat → Int32) (fl : Nat → Int64) (g : Nat → Nat → Int32) (gl : Nat → Nat → Int64) (hh : Nat → Nat → Option Nat) (v : Nat → Value) (tx : mm_W) (p0 : Int32) (p1 : Int32)  (P : Option Value → mm_W → Prop)
    (h : ((p0 < 1) → P (some (.int (-1))) (Wd (va_up f 18 (-1 : Int32)) fl (va_up g 55 (upd (g 55) (1) (((g 55) 1) + (1 : Int32)))) gl hh v tx)) ∧
    ((¬ (p0 < 1)) → (((4444 < p0) → P (some (.int (-1))) (Wd (va_up f 18 (-1 : Int32)) fl (va_up g 55 (upd (g 55) (1) (((g 55) 1) + (1 : Int32)))) gl hh v tx)) ∧
      ((¬ (4444 < p0)) → (((¬ (p0 - (p0 / (10 : Int32)) * (10 : Int32)) = 0) → WP X (d + 2) 58 (30, [some (.ref 0), none, some (.int p1), some (.int p0), some (.int 1)], [], Wd f fl g gl hh v tx) P) ∧
        (((p0 - (p0 / (10 : Int32)) * (10 : Int32)) = 0) → P (some (.int (-1))) (Wd (va_up f 18 (-1 : Int32)) fl (va_up g 55 (upd (g 55) (1) (((g 55) 1) + (1 : Int32)))) gl hh v tx))))))) :
    WP X (d + 2) 58 (0, [some (.ref 0), some (.int p0), some (.int p1), none, none], [], Wd f fl g gl hh v tx) P := by
  refine WP.run hP_58 2 (c' := (2, [some (.ref 0), some (.int p0), some (.int p1), none, none], [.int 1, .int p0], Wd f fl g gl hh v tx)) rfl ?_
  refine WP.br hP_58 (q := p0 < 1) (t := 19) (f := 5) (L := [some (.ref 0), some (.int p0), some (.int p1), none, none]) (st := []) (w := Wd f fl g gl hh v tx) rfl (fun c1 => ?_) (fun c1 => ?_)
  · have h2 := h.1 c1
    refine WP.run hP_58 2 (c' := (21, [some (.ref 0), none, none, none, none], [.int (-1), .ref 0], Wd f fl g gl hh v tx)) rfl ?_
    refine WP.call hP_58 hP_101 (as := [.ref 0, .int (-1)]) (pc' := 24) (L' := [some (.ref 0), none, none, none, none]) (st' := []) (w1 := Wd f fl g gl hh v tx) rfl ⟨Nat.le_of_ble_eq_true rfl, Nat.le_of_ble_eq_true rfl⟩ rfl (b_x_refused_0 X (d) f fl g gl hh v tx (-1) _ ?_)
    refine ⟨fun c3 => ?_, fun c => absurd c (by decide)⟩
    refine ⟨by decide, ?_⟩
    refine ⟨by decide, ?_⟩
    exact WP.retI hP_58 rfl rfl h2
  · have h4 := h.2 c1
    refine WP.run hP_58 2 (c' := (9, [some (.ref 0), some (.int p0), some (.int p1), none, none], [.int 4444, .int p0], Wd f fl g gl hh v tx)) rfl ?_
    refine WP.br hP_58 (q := 4444 < p0) (t := 19) (f := 12) (L := [some (.ref 0), some (.int p0), some (.int p1), none, none]) (st := []) (w := Wd f fl g gl hh v tx) rfl (fun c5 => ?_) (fun c5 => ?_)
    · have h6 := h4.1 c5
      refine WP.run hP_58 2 (c' := (21, [some (.ref 0), none, none, none, none], [.int (-1), .ref 0], Wd f fl g gl hh v tx)) rfl ?_
      refine WP.call hP_58 hP_101 (as := [.ref 0, .int (-1)]) (pc' := 24) (L' := [some (.ref 0), none, none, none, none]) (st' := []) (w1 := Wd f fl g gl hh v tx) rfl ⟨Nat.le_of_ble_eq_true rfl, Nat.le_of_ble_eq_true rfl⟩ rfl (b_x_refused_0 X (d) f fl g gl hh v tx (-1) _ ?_)
      refine ⟨fun c7 => ?_, fun c => absurd c (by decide)⟩
      refine ⟨by decide, ?_⟩
      refine ⟨by decide, ?_⟩
      exact WP.retI hP_58 rfl rfl h6
    · have h8 := h4.2 c5
      refine WP.run hP_58 3 (c' := (16, [some (.ref 0), some (.int p0), some (.int p1), none, none], [.int (p0 - (p0 / (10 : Int32)) * (10 : Int32))], Wd f fl g gl hh v tx)) rfl ?_
      refine WP.br hP_58 (q := ¬ (p0 - (p0 / (10 : Int32)) * (10 : Int32)) = 0) (t := 25) (f := 19) (L := [some (.ref 0), some (.int p0), some (.int p1), none, none]) (st := []) (w := Wd f fl g gl hh v tx) rfl (fun c9 => ?_) (fun c9 => ?_)
      · have h10 := h8.1 c9
        refine WP.run hP_58 1 (c' := (26, [some (.ref 0), some (.int p0), some (.int p1), none, none], [.int p0], Wd f fl g gl hh v tx)) rfl ?_
        refine WP.run hP_58 2 (c' := (28, [some (.ref 0), some (.int p0), some (.int p1), some (.int p0), none], [.int 1], Wd f fl g gl hh v tx)) rfl ?_
        refine WP.run hP_58 1 (c' := (30, [some (.ref 0), some (.int p0), some (.int p1), some (.int p0), some (.int 1)], [], Wd f fl g gl hh v tx)) rfl ?_
        refine WP.clr hP_58 (pc := 30) rfl ?_
        exact h10
      · have h11 := h8.2 (Classical.not_not.mp c9)
        refine WP.run hP_58 2 (c' := (21, [some (.ref 0), none, none, none, none], [.int (-1), .ref 0], Wd f fl g gl hh v tx)) rfl ?_
        refine WP.call hP_58 hP_101 (as := [.ref 0, .int (-1)]) (pc' := 24) (L' := [some (.ref 0), none, none, none, none]) (st' := []) (w1 := Wd f fl g gl hh v tx) rfl ⟨Nat.le_of_ble_eq_true rfl, Nat.le_of_ble_eq_true rfl⟩ rfl (b_x_refused_0 X (d) f fl g gl hh v tx (-1) _ ?_)
        refine ⟨fun c12 => ?_, fun c => absurd c (by decide)⟩
        refine ⟨by decide, ?_⟩
        refine ⟨by decide, ?_⟩
        exact WP.retI hP_58 rfl rfl h11

set_option maxRecDepth 20000 in
theorem b_x_sign_30 (X : mm_X) (d : Nat) (f : Nat → Int32) (fl : Nat → Int64) (g : Nat → Nat → Int32) (gl : Nat → Nat → Int64) (hh : Nat → Nat → Option Nat) (v : Nat → Value) (tx : mm_W) (l2 : Int32) (l3 : Int32) (l4 : Int32)  (P : Option Value → mm_W → Prop)
    (h : ((4 ≤ l4) → WP X (d) 47 (0, [some (.ref 1), some (.int l2), some (.int ((((((l3 / (1000 : Int32)) <<< ((24 : Int32) &&& (31 : Int32))) : Int32) ||| ((((l3 / (100 : Int32)) - ((l3 / (100 : Int32)) / (10 : Int32)) * (10 : Int32)) <<< ((16 : Int32) &&& (31 : Int32))) : Int32)) ||| ((((l3 / (10 : Int32)) - ((l3 / (10 : Int32)) / (10 : Int32)) * (10 : Int32)) <<< ((8 : Int32) &&& (31 : Int32))) : Int32)) ||| (l3 - (l3 / (10 : Int32)) * (10 : Int32)))), none, none, none, none], [], Wd f fl g gl hh v tx) (fun rv w2 => WP X (d + 1) 58 (102, [some (.ref 0), none, some (.int l2), some (.int l3), some (.int ((((((l3 / (1000 : Int32)) <<< ((24 : Int32) &&& (31 : Int32))) : Int32) ||| ((((l3 / (100 : Int32)) - ((l3 / (100 : Int32)) / (10 : Int32)) * (10 : Int32)) <<< ((16 : Int32) &&& (31 : Int32))) : Int32)) ||| ((((l3 / (10 : Int32)) - ((l3 / (10 : Int32)) / (10 : Int32)) * (10 : Int32)) <<< ((8 : Int32) &&& (31 : Int32))) : Int32)) ||| (l3 - (l3 / (10 : Int32)) * (10 : Int32))))], rv.toList ++ [.ref 0], w2) P)) ∧
    ((¬ (4 ≤ l4)) → (((1000 ≤ l3) → WP X (d) 47 (0, [some (.ref 1), some (.int l2), some (.int ((((((l3 / (1000 : Int32)) <<< ((24 : Int32) &&& (31 : Int32))) : Int32) ||| ((((l3 / (100 : Int32)) - ((l3 / (100 : Int32)) / (10 : Int32)) * (10 : Int32)) <<< ((16 : Int32) &&& (31 : Int32))) : Int32)) ||| ((((l3 / (10 : Int32)) - ((l3 / (10 : Int32)) / (10 : Int32)) * (10 : Int32)) <<< ((8 : Int32) &&& (31 : Int32))) : Int32)) ||| (l3 - (l3 / (10 : Int32)) * (10 : Int32)))), none, none, none, none], [], Wd f fl g gl hh v tx) (fun rv w2 => WP X (d + 1) 58 (102, [some (.ref 0), none, some (.int l2), some (.int l3), some (.int ((((((l3 / (1000 : Int32)) <<< ((24 : Int32) &&& (31 : Int32))) : Int32) ||| ((((l3 / (100 : Int32)) - ((l3 / (100 : Int32)) / (10 : Int32)) * (10 : Int32)) <<< ((16 : Int32) &&& (31 : Int32))) : Int32)) ||| ((((l3 / (10 : Int32)) - ((l3 / (10 : Int32)) / (10 : Int32)) * (10 : Int32)) <<< ((8 : Int32) &&& (31 : Int32))) : Int32)) ||| (l3 - (l3 / (10 : Int32)) * (10 : Int32))))], rv.toList ++ [.ref 0], w2) P)) ∧
      ((¬ (1000 ≤ l3)) → WP X (d + 1) 58 (30, [some (.ref 0), none, some (.int l2), some (.int (l3 * (10 : Int32))), some (.int (l4 + (1 : Int32)))], [], Wd f fl g gl hh v tx) P)))) :
    WP X (d + 1) 58 (30, [some (.ref 0), none, some (.int l2), some (.int l3), some (.int l4)], [], Wd f fl g gl hh v tx) P := by
  refine WP.run hP_58 2 (c' := (33, [some (.ref 0), none, some (.int l2), some (.int l3), some (.int l4)], [.int 4, .int l4], Wd f fl g gl hh v tx)) rfl ?_
  refine WP.br hP_58 (q := 4 ≤ l4) (t := 54) (f := 36) (L := [some (.ref 0), none, some (.int l2), some (.int l3), some (.int l4)]) (st := []) (w := Wd f fl g gl hh v tx) rfl (fun c1 => ?_) (fun c1 => ?_)
  · have h2 := h.1 c1
    refine WP.run hP_58 25 (c' := (89, [some (.ref 0), none, some (.int l2), some (.int l3), none], [.int ((((((l3 / (1000 : Int32)) <<< ((24 : Int32) &&& (31 : Int32))) : Int32) ||| ((((l3 / (100 : Int32)) - ((l3 / (100 : Int32)) / (10 : Int32)) * (10 : Int32)) <<< ((16 : Int32) &&& (31 : Int32))) : Int32)) ||| ((((l3 / (10 : Int32)) - ((l3 / (10 : Int32)) / (10 : Int32)) * (10 : Int32)) <<< ((8 : Int32) &&& (31 : Int32))) : Int32)) ||| (l3 - (l3 / (10 : Int32)) * (10 : Int32)))], Wd f fl g gl hh v tx)) rfl ?_
    refine WP.run hP_58 6 (c' := (99, [some (.ref 0), none, some (.int l2), some (.int l3), some (.int ((((((l3 / (1000 : Int32)) <<< ((24 : Int32) &&& (31 : Int32))) : Int32) ||| ((((l3 / (100 : Int32)) - ((l3 / (100 : Int32)) / (10 : Int32)) * (10 : Int32)) <<< ((16 : Int32) &&& (31 : Int32))) : Int32)) ||| ((((l3 / (10 : Int32)) - ((l3 / (10 : Int32)) / (10 : Int32)) * (10 : Int32)) <<< ((8 : Int32) &&& (31 : Int32))) : Int32)) ||| (l3 - (l3 / (10 : Int32)) * (10 : Int32))))], [.int ((((((l3 / (1000 : Int32)) <<< ((24 : Int32) &&& (31 : Int32))) : Int32) ||| ((((l3 / (100 : Int32)) - ((l3 / (100 : Int32)) / (10 : Int32)) * (10 : Int32)) <<< ((16 : Int32) &&& (31 : Int32))) : Int32)) ||| ((((l3 / (10 : Int32)) - ((l3 / (10 : Int32)) / (10 : Int32)) * (10 : Int32)) <<< ((8 : Int32) &&& (31 : Int32))) : Int32)) ||| (l3 - (l3 / (10 : Int32)) * (10 : Int32))), .int l2, .ref 1, .ref 0], Wd f fl g gl hh v tx)) rfl ?_
    refine WP.call hP_58 hP_47 (as := [.ref 1, .int l2, .int ((((((l3 / (1000 : Int32)) <<< ((24 : Int32) &&& (31 : Int32))) : Int32) ||| ((((l3 / (100 : Int32)) - ((l3 / (100 : Int32)) / (10 : Int32)) * (10 : Int32)) <<< ((16 : Int32) &&& (31 : Int32))) : Int32)) ||| ((((l3 / (10 : Int32)) - ((l3 / (10 : Int32)) / (10 : Int32)) * (10 : Int32)) <<< ((8 : Int32) &&& (31 : Int32))) : Int32)) ||| (l3 - (l3 / (10 : Int32)) * (10 : Int32)))]) (pc' := 102) (L' := [some (.ref 0), none, some (.int l2), some (.int l3), some (.int ((((((l3 / (1000 : Int32)) <<< ((24 : Int32) &&& (31 : Int32))) : Int32) ||| ((((l3 / (100 : Int32)) - ((l3 / (100 : Int32)) / (10 : Int32)) * (10 : Int32)) <<< ((16 : Int32) &&& (31 : Int32))) : Int32)) ||| ((((l3 / (10 : Int32)) - ((l3 / (10 : Int32)) / (10 : Int32)) * (10 : Int32)) <<< ((8 : Int32) &&& (31 : Int32))) : Int32)) ||| (l3 - (l3 / (10 : Int32)) * (10 : Int32))))]) (st' := [.ref 0]) (w1 := Wd f fl g gl hh v tx) rfl ⟨Nat.le_of_ble_eq_true rfl, Nat.le_of_ble_eq_true rfl⟩ rfl ?_
    exact h2
  · have h3 := h.2 c1
    refine WP.run hP_58 2 (c' := (40, [some (.ref 0), none, some (.int l2), some (.int l3), some (.int l4)], [.int 1000, .int l3], Wd f fl g gl hh v tx)) rfl ?_
    refine WP.br hP_58 (q := 1000 ≤ l3) (t := 54) (f := 43) (L := [some (.ref 0), none, some (.int l2), some (.int l3), some (.int l4)]) (st := []) (w := Wd f fl g gl hh v tx) rfl (fun c4 => ?_) (fun c4 => ?_)
    · have h5 := h3.1 c4
      refine WP.run hP_58 25 (c' := (89, [some (.ref 0), none, some (.int l2), some (.int l3), none], [.int ((((((l3 / (1000 : Int32)) <<< ((24 : Int32) &&& (31 : Int32))) : Int32) ||| ((((l3 / (100 : Int32)) - ((l3 / (100 : Int32)) / (10 : Int32)) * (10 : Int32)) <<< ((16 : Int32) &&& (31 : Int32))) : Int32)) ||| ((((l3 / (10 : Int32)) - ((l3 / (10 : Int32)) / (10 : Int32)) * (10 : Int32)) <<< ((8 : Int32) &&& (31 : Int32))) : Int32)) ||| (l3 - (l3 / (10 : Int32)) * (10 : Int32)))], Wd f fl g gl hh v tx)) rfl ?_
      refine WP.run hP_58 6 (c' := (99, [some (.ref 0), none, some (.int l2), some (.int l3), some (.int ((((((l3 / (1000 : Int32)) <<< ((24 : Int32) &&& (31 : Int32))) : Int32) ||| ((((l3 / (100 : Int32)) - ((l3 / (100 : Int32)) / (10 : Int32)) * (10 : Int32)) <<< ((16 : Int32) &&& (31 : Int32))) : Int32)) ||| ((((l3 / (10 : Int32)) - ((l3 / (10 : Int32)) / (10 : Int32)) * (10 : Int32)) <<< ((8 : Int32) &&& (31 : Int32))) : Int32)) ||| (l3 - (l3 / (10 : Int32)) * (10 : Int32))))], [.int ((((((l3 / (1000 : Int32)) <<< ((24 : Int32) &&& (31 : Int32))) : Int32) ||| ((((l3 / (100 : Int32)) - ((l3 / (100 : Int32)) / (10 : Int32)) * (10 : Int32)) <<< ((16 : Int32) &&& (31 : Int32))) : Int32)) ||| ((((l3 / (10 : Int32)) - ((l3 / (10 : Int32)) / (10 : Int32)) * (10 : Int32)) <<< ((8 : Int32) &&& (31 : Int32))) : Int32)) ||| (l3 - (l3 / (10 : Int32)) * (10 : Int32))), .int l2, .ref 1, .ref 0], Wd f fl g gl hh v tx)) rfl ?_
      refine WP.call hP_58 hP_47 (as := [.ref 1, .int l2, .int ((((((l3 / (1000 : Int32)) <<< ((24 : Int32) &&& (31 : Int32))) : Int32) ||| ((((l3 / (100 : Int32)) - ((l3 / (100 : Int32)) / (10 : Int32)) * (10 : Int32)) <<< ((16 : Int32) &&& (31 : Int32))) : Int32)) ||| ((((l3 / (10 : Int32)) - ((l3 / (10 : Int32)) / (10 : Int32)) * (10 : Int32)) <<< ((8 : Int32) &&& (31 : Int32))) : Int32)) ||| (l3 - (l3 / (10 : Int32)) * (10 : Int32)))]) (pc' := 102) (L' := [some (.ref 0), none, some (.int l2), some (.int l3), some (.int ((((((l3 / (1000 : Int32)) <<< ((24 : Int32) &&& (31 : Int32))) : Int32) ||| ((((l3 / (100 : Int32)) - ((l3 / (100 : Int32)) / (10 : Int32)) * (10 : Int32)) <<< ((16 : Int32) &&& (31 : Int32))) : Int32)) ||| ((((l3 / (10 : Int32)) - ((l3 / (10 : Int32)) / (10 : Int32)) * (10 : Int32)) <<< ((8 : Int32) &&& (31 : Int32))) : Int32)) ||| (l3 - (l3 / (10 : Int32)) * (10 : Int32))))]) (st' := [.ref 0]) (w1 := Wd f fl g gl hh v tx) rfl ⟨Nat.le_of_ble_eq_true rfl, Nat.le_of_ble_eq_true rfl⟩ rfl ?_
      exact h5
    · have h6 := h3.2 c4
      refine WP.run hP_58 4 (c' := (48, [some (.ref 0), none, some (.int l2), some (.int (l3 * (10 : Int32))), some (.int l4)], [], Wd f fl g gl hh v tx)) rfl ?_
      refine WP.run hP_58 2 (c' := (30, [some (.ref 0), none, some (.int l2), some (.int (l3 * (10 : Int32))), some (.int (l4 + (1 : Int32)))], [], Wd f fl g gl hh v tx)) rfl ?_
      exact h6

set_option maxRecDepth 20000 in
theorem b_x_sign_102 (X : mm_X) (d : Nat) (f : Nat → Int32) (fl : Nat → Int64) (g : Nat → Nat → Int32) (gl : Nat → Nat → Int64) (hh : Nat → Nat → Option Nat) (v : Nat → Value) (tx : mm_W) (l2 : Int32) (l3 : Int32) (l4 : Int32) (s0 : Int32)  (P : Option Value → mm_W → Prop)
    (h : ((0 ≤ s0) → P (some (.int s0)) (Wd (va_up f 18 0) fl g gl hh v tx)) ∧
    ((¬ (0 ≤ s0)) → (((0 ≤ (-s0) ∧ (-s0) < (7 : Int32)) → ((¬ ((-s0) < 0 ∨ 7 ≤ (-s0).toNatClampNeg)) ∧ ((¬ ((-s0) < 0 ∨ 7 ≤ (-s0).toNatClampNeg)) ∧ P (some (.int s0)) (Wd (va_up f 18 s0) fl (va_up g 55 (upd (g 55) ((-s0).toNatClampNeg) (((g 55) (-s0).toNatClampNeg) + (1 : Int32)))) gl hh v tx)))) ∧
      ((¬ (0 ≤ (-s0) ∧ (-s0) < (7 : Int32))) → P (some (.int s0)) (Wd (va_up f 18 s0) fl g gl hh v tx))))) :
    WP X (d + 3) 58 (102, [some (.ref 0), none, some (.int l2), some (.int l3), some (.int l4)], [.int s0, .ref 0], Wd f fl g gl hh v tx) P := by
  refine WP.call hP_58 hP_102 (as := [.ref 0, .int s0]) (pc' := 105) (L' := [some (.ref 0), none, some (.int l2), some (.int l3), some (.int l4)]) (st' := []) (w1 := Wd f fl g gl hh v tx) rfl ⟨Nat.le_of_ble_eq_true rfl, Nat.le_of_ble_eq_true rfl⟩ rfl (b_x_settled_0 X (d) f fl g gl hh v tx s0 _ ?_)
  refine ⟨fun c1 => ?_, fun c1 => ?_⟩
  · have h2 := h.1 c1
    exact WP.retI hP_58 rfl rfl h2
  · have h3 := h.2 c1
    refine ⟨fun c4 => ?_, fun c4 => ?_⟩
    · have h5 := h3.1 c4
      refine ⟨h5.1, ?_⟩
      have h6 := h5.2
      refine ⟨h6.1, ?_⟩
      have h7 := h6.2
      exact WP.retI hP_58 rfl rfl h7
    · have h8 := h3.2 c4
      exact WP.retI hP_58 rfl rfl h8

set_option maxRecDepth 20000 in
theorem b_x_at_0 (X : mm_X) (d : Nat) (f : Nat → Int32) (fl : Nat → Int64) (g : Nat → Nat → Int32) (gl : Nat → Nat → Int64) (hh : Nat → Nat → Option Nat) (v : Nat → Value) (tx : mm_W) (p0 : Int32) (p1 : Int32)  (P : Option Value → mm_W → Prop)
    (h : ((p0 < 0) → P (some (.int (-1))) (Wd f fl g gl hh v tx)) ∧
    ((¬ (p0 < 0)) → ((((f 64) ≤ p0) → P (some (.int (-1))) (Wd f fl g gl hh v tx)) ∧
      ((¬ ((f 64) ≤ p0)) → (((p1 < 0) → P (some (.int (-1))) (Wd f fl g gl hh v tx)) ∧
        ((¬ (p1 < 0)) → (((p1 ≤ 5) → ((¬ (p0 < 0 ∨ 8 ≤ p0.toNatClampNeg)) ∧ (((¬ p1 = 0) → (((¬ p1 = 1) → (((0 ≤ ((((g 3) p0.toNatClampNeg) - (1 : Int32)) - (p1 - (2 : Int32)))) → ((¬ (p0 < 0 ∨ 8 ≤ p0.toNatClampNeg)) ∧ P (some (.int (((((g 2) p0.toNatClampNeg) >>> (((2 : Int32) * ((((g 3) p0.toNatClampNeg) - (1 : Int32)) - (p1 - (2 : Int32)))) &&& (31 : Int32))) : Int32) &&& (3 : Int32)))) (Wd f fl g gl hh v tx))) ∧
                ((¬ (0 ≤ ((((g 3) p0.toNatClampNeg) - (1 : Int32)) - (p1 - (2 : Int32))))) → P (some (.int (-1))) (Wd f fl g gl hh v tx)))) ∧
              ((p1 = 1) → ((¬ (p0 < 0 ∨ 8 ≤ p0.toNatClampNeg)) ∧ P (some (.int ((g 4) p0.toNatClampNeg))) (Wd f fl g gl hh v tx))))) ∧
            ((p1 = 0) → P (some (.int ((g 3) p0.toNatClampNeg))) (Wd f fl g gl hh v tx))))) ∧
          ((¬ (p1 ≤ 5)) → P (some (.int (-1))) (Wd f fl g gl hh v tx))))))))) :
    WP X (d) 59 (0, [some (.ref 0), some (.int p0), some (.int p1), none, none], [], Wd f fl g gl hh v tx) P := by
  refine WP.run hP_59 1 (c' := (1, [some (.ref 0), some (.int p0), some (.int p1), none, none], [.int p0], Wd f fl g gl hh v tx)) rfl ?_
  refine WP.br hP_59 (q := p0 < 0) (t := 24) (f := 4) (L := [some (.ref 0), some (.int p0), some (.int p1), none, none]) (st := []) (w := Wd f fl g gl hh v tx) rfl (fun c1 => ?_) (fun c1 => ?_)
  · have h2 := h.1 c1
    refine WP.run hP_59 1 (c' := (25, [none, none, none, none, none], [.int (-1)], Wd f fl g gl hh v tx)) rfl ?_
    exact WP.retI hP_59 rfl rfl h2
  · have h3 := h.2 c1
    refine WP.run hP_59 4 (c' := (12, [some (.ref 0), some (.int p0), some (.int p1), none, none], [.int (f 64), .int p0], Wd f fl g gl hh v tx)) rfl ?_
    refine WP.br hP_59 (q := (f 64) ≤ p0) (t := 24) (f := 15) (L := [some (.ref 0), some (.int p0), some (.int p1), none, none]) (st := []) (w := Wd f fl g gl hh v tx) rfl (fun c4 => ?_) (fun c4 => ?_)
    · have h5 := h3.1 c4
      refine WP.run hP_59 1 (c' := (25, [none, none, none, none, none], [.int (-1)], Wd f fl g gl hh v tx)) rfl ?_
      exact WP.retI hP_59 rfl rfl h5
    · have h6 := h3.2 c4
      refine WP.run hP_59 1 (c' := (16, [some (.ref 0), some (.int p0), some (.int p1), none, none], [.int p1], Wd f fl g gl hh v tx)) rfl ?_
      refine WP.br hP_59 (q := p1 < 0) (t := 24) (f := 19) (L := [some (.ref 0), some (.int p0), some (.int p1), none, none]) (st := []) (w := Wd f fl g gl hh v tx) rfl (fun c7 => ?_) (fun c7 => ?_)
      · have h8 := h6.1 c7
        refine WP.run hP_59 1 (c' := (25, [none, none, none, none, none], [.int (-1)], Wd f fl g gl hh v tx)) rfl ?_
        exact WP.retI hP_59 rfl rfl h8
      · have h9 := h6.2 c7
        refine WP.run hP_59 2 (c' := (21, [some (.ref 0), some (.int p0), some (.int p1), none, none], [.int 5, .int p1], Wd f fl g gl hh v tx)) rfl ?_
        refine WP.br hP_59 (q := p1 ≤ 5) (t := 26) (f := 24) (L := [some (.ref 0), some (.int p0), some (.int p1), none, none]) (st := []) (w := Wd f fl g gl hh v tx) rfl (fun c10 => ?_) (fun c10 => ?_)
        · have h11 := h9.1 c10
          refine WP.run hP_59 4 (c' := (34, [some (.ref 0), some (.int p0), some (.int p1), none, none], [.int p0, .ref 3], Wd f fl g gl hh v tx)) rfl ?_
          refine WP.of (fun _ _ => Ex.iald hP_59 rfl (Wa_3 _ _ _ _ _ _ _) h11.1) ?_
          have h12 := h11.2
          refine WP.run hP_59 2 (c' := (37, [some (.ref 0), some (.int p0), some (.int p1), some (.int ((g 3) p0.toNatClampNeg)), none], [.int p1], Wd f fl g gl hh v tx)) rfl ?_
          refine WP.br hP_59 (q := ¬ p1 = 0) (t := 42) (f := 40) (L := [some (.ref 0), some (.int p0), some (.int p1), some (.int ((g 3) p0.toNatClampNeg)), none]) (st := []) (w := Wd f fl g gl hh v tx) rfl (fun c13 => ?_) (fun c13 => ?_)
          · have h14 := h12.1 c13
            refine WP.run hP_59 2 (c' := (44, [some (.ref 0), some (.int p0), some (.int p1), some (.int ((g 3) p0.toNatClampNeg)), none], [.int 1, .int p1], Wd f fl g gl hh v tx)) rfl ?_
            refine WP.br hP_59 (q := ¬ p1 = 1) (t := 57) (f := 47) (L := [some (.ref 0), some (.int p0), some (.int p1), some (.int ((g 3) p0.toNatClampNeg)), none]) (st := []) (w := Wd f fl g gl hh v tx) rfl (fun c15 => ?_) (fun c15 => ?_)
            · have h16 := h14.1 c15
              refine WP.run hP_59 7 (c' := (64, [some (.ref 0), some (.int p0), some (.int p1), some (.int ((g 3) p0.toNatClampNeg)), none], [.int ((((g 3) p0.toNatClampNeg) - (1 : Int32)) - (p1 - (2 : Int32)))], Wd f fl g gl hh v tx)) rfl ?_
              refine WP.run hP_59 2 (c' := (68, [some (.ref 0), some (.int p0), some (.int p1), some (.int ((g 3) p0.toNatClampNeg)), some (.int ((((g 3) p0.toNatClampNeg) - (1 : Int32)) - (p1 - (2 : Int32))))], [.int ((((g 3) p0.toNatClampNeg) - (1 : Int32)) - (p1 - (2 : Int32)))], Wd f fl g gl hh v tx)) rfl ?_
              refine WP.br hP_59 (q := 0 ≤ ((((g 3) p0.toNatClampNeg) - (1 : Int32)) - (p1 - (2 : Int32)))) (t := 75) (f := 71) (L := [some (.ref 0), some (.int p0), some (.int p1), some (.int ((g 3) p0.toNatClampNeg)), some (.int ((((g 3) p0.toNatClampNeg) - (1 : Int32)) - (p1 - (2 : Int32))))]) (st := []) (w := Wd f fl g gl hh v tx) rfl (fun c17 => ?_) (fun c17 => ?_)
              · have h18 := h16.1 c17
                refine WP.run hP_59 4 (c' := (83, [some (.ref 0), some (.int p0), none, none, some (.int ((((g 3) p0.toNatClampNeg) - (1 : Int32)) - (p1 - (2 : Int32))))], [.int p0, .ref 2], Wd f fl g gl hh v tx)) rfl ?_
                refine WP.of (fun _ _ => Ex.iald hP_59 rfl (Wa_2 _ _ _ _ _ _ _) h18.1) ?_
                have h19 := h18.2
                refine WP.run hP_59 6 (c' := (91, [some (.ref 0), some (.int p0), none, none, some (.int ((((g 3) p0.toNatClampNeg) - (1 : Int32)) - (p1 - (2 : Int32))))], [.int (((((g 2) p0.toNatClampNeg) >>> (((2 : Int32) * ((((g 3) p0.toNatClampNeg) - (1 : Int32)) - (p1 - (2 : Int32)))) &&& (31 : Int32))) : Int32) &&& (3 : Int32))], Wd f fl g gl hh v tx)) rfl ?_
                exact WP.retI hP_59 rfl rfl h19
              · have h20 := h16.2 c17
                refine WP.run hP_59 2 (c' := (91, [some (.ref 0), some (.int p0), some (.int p1), some (.int ((g 3) p0.toNatClampNeg)), some (.int ((((g 3) p0.toNatClampNeg) - (1 : Int32)) - (p1 - (2 : Int32))))], [.int (-1)], Wd f fl g gl hh v tx)) rfl ?_
                exact WP.retI hP_59 rfl rfl h20
            · have h21 := h14.2 (Classical.not_not.mp c15)
              refine WP.run hP_59 4 (c' := (55, [some (.ref 0), some (.int p0), some (.int p1), some (.int ((g 3) p0.toNatClampNeg)), none], [.int p0, .ref 4], Wd f fl g gl hh v tx)) rfl ?_
              refine WP.of (fun _ _ => Ex.iald hP_59 rfl (Wa_4 _ _ _ _ _ _ _) h21.1) ?_
              have h22 := h21.2
              exact WP.retI hP_59 rfl rfl h22
          · have h23 := h12.2 (Classical.not_not.mp c13)
            refine WP.run hP_59 1 (c' := (41, [some (.ref 0), some (.int p0), some (.int p1), some (.int ((g 3) p0.toNatClampNeg)), none], [.int ((g 3) p0.toNatClampNeg)], Wd f fl g gl hh v tx)) rfl ?_
            exact WP.retI hP_59 rfl rfl h23
        · have h24 := h9.2 c10
          refine WP.run hP_59 1 (c' := (25, [none, none, none, none, none], [.int (-1)], Wd f fl g gl hh v tx)) rfl ?_
          exact WP.retI hP_59 rfl rfl h24

set_option maxRecDepth 20000 in
theorem b_x_ship_0 (X : mm_X) (d : Nat) (f : Nat → Int32) (fl : Nat → Int64) (g : Nat → Nat → Int32) (gl : Nat → Nat → Int64) (hh : Nat → Nat → Option Nat) (v : Nat → Value) (tx : mm_W) (p0 : Int32) (p1 : Int32) (p2 : Int32)  (P : Option Value → mm_W → Prop)
    (h : ((0 ≤ p0 ∧ p0 < (25 : Int32)) → (((0 ≤ p1 ∧ p1 < (4 : Int32)) → (((0 ≤ p2 ∧ p2 < (10 : Int32)) → ((((f 68) < 3) → ((¬ ((f 68) < 0 ∨ 3 ≤ (f 68).toNatClampNeg)) ∧ P (some (.int (((f 68) + (1 : Int32)) - (1 : Int32)))) (Wd (va_up (va_up (va_up f 68 ((f 68) + (1 : Int32))) 78 0) 18 0) fl (va_up g 5 (upd (g 5) ((f 68).toNatClampNeg) ((((p0 * (4 : Int32)) + p1) * (10 : Int32)) + p2))) gl hh v tx))) ∧
          ((¬ ((f 68) < 3)) → P (some (.int (-5))) (Wd (va_up f 18 (-5 : Int32)) fl (va_up g 55 (upd (g 55) (5) (((g 55) 5) + (1 : Int32)))) gl hh v tx)))) ∧
        ((¬ (0 ≤ p2 ∧ p2 < (10 : Int32))) → P (some (.int (-1))) (Wd (va_up f 18 (-1 : Int32)) fl (va_up g 55 (upd (g 55) (1) (((g 55) 1) + (1 : Int32)))) gl hh v tx)))) ∧
      ((¬ (0 ≤ p1 ∧ p1 < (4 : Int32))) → P (some (.int (-1))) (Wd (va_up f 18 (-1 : Int32)) fl (va_up g 55 (upd (g 55) (1) (((g 55) 1) + (1 : Int32)))) gl hh v tx)))) ∧
    ((¬ (0 ≤ p0 ∧ p0 < (25 : Int32))) → P (some (.int (-1))) (Wd (va_up f 18 (-1 : Int32)) fl (va_up g 55 (upd (g 55) (1) (((g 55) 1) + (1 : Int32)))) gl hh v tx))) :
    WP X (d + 2) 60 (0, [some (.ref 0), some (.int p0), some (.int p1), some (.int p2)], [], Wd f fl g gl hh v tx) P := by
  refine WP.run hP_60 2 (c' := (3, [some (.ref 0), some (.int p0), some (.int p1), some (.int p2)], [.int 25, .int p0], Wd f fl g gl hh v tx)) rfl ?_
  refine WP.call hP_60 hP_99 (as := [.int p0, .int 25]) (pc' := 6) (L' := [some (.ref 0), some (.int p0), some (.int p1), some (.int p2)]) (st' := []) (w1 := Wd f fl g gl hh v tx) rfl ⟨Nat.le_of_ble_eq_true rfl, Nat.le_of_ble_eq_true rfl⟩ rfl (b_within_m X (d + 1) f fl g gl hh v tx p0 25 _ ?_)
  refine ⟨fun c1 => ?_, fun c1 => ?_⟩
  · have h2 := h.1 c1
    refine WP.run hP_60 3 (c' := (11, [some (.ref 0), some (.int p0), some (.int p1), some (.int p2)], [.int 4, .int p1], Wd f fl g gl hh v tx)) rfl ?_
    refine WP.call hP_60 hP_99 (as := [.int p1, .int 4]) (pc' := 14) (L' := [some (.ref 0), some (.int p0), some (.int p1), some (.int p2)]) (st' := []) (w1 := Wd f fl g gl hh v tx) rfl ⟨Nat.le_of_ble_eq_true rfl, Nat.le_of_ble_eq_true rfl⟩ rfl (b_within_m X (d + 1) f fl g gl hh v tx p1 4 _ ?_)
    refine ⟨fun c3 => ?_, fun c3 => ?_⟩
    · have h4 := h2.1 c3
      refine WP.run hP_60 3 (c' := (20, [some (.ref 0), some (.int p0), some (.int p1), some (.int p2)], [.int 10, .int p2], Wd f fl g gl hh v tx)) rfl ?_
      refine WP.call hP_60 hP_99 (as := [.int p2, .int 10]) (pc' := 23) (L' := [some (.ref 0), some (.int p0), some (.int p1), some (.int p2)]) (st' := []) (w1 := Wd f fl g gl hh v tx) rfl ⟨Nat.le_of_ble_eq_true rfl, Nat.le_of_ble_eq_true rfl⟩ rfl (b_within_m X (d + 1) f fl g gl hh v tx p2 10 _ ?_)
      refine ⟨fun c5 => ?_, fun c5 => ?_⟩
      · have h6 := h4.1 c5
        refine WP.run hP_60 5 (c' := (40, [some (.ref 0), some (.int p0), some (.int p1), some (.int p2)], [.int 3, .int (f 68)], Wd f fl g gl hh v tx)) rfl ?_
        refine WP.br hP_60 (q := (f 68) < 3) (t := 50) (f := 43) (L := [some (.ref 0), some (.int p0), some (.int p1), some (.int p2)]) (st := []) (w := Wd f fl g gl hh v tx) rfl (fun c7 => ?_) (fun c7 => ?_)
        · have h8 := h6.1 c7
          refine WP.run hP_60 15 (c' := (74, [some (.ref 0), some (.int p0), some (.int p1), some (.int p2)], [.int ((((p0 * (4 : Int32)) + p1) * (10 : Int32)) + p2), .int (f 68), .ref 5], Wd f fl g gl hh v tx)) rfl ?_
          refine WP.of (fun _ _ => Ex.iast hP_60 (w2 := Wd f fl (va_up g 5 (upd (g 5) ((f 68).toNatClampNeg) ((((p0 * (4 : Int32)) + p1) * (10 : Int32)) + p2))) gl hh v tx) rfl (Wa_5 _ _ _ _ _ _ _) h8.1 (Ws_5 _ _ _ _ _ _ _ _)) ?_
          have h9 := h8.2
          refine WP.run hP_60 17 (c' := (106, [some (.ref 0), some (.int p0), some (.int p1), some (.int p2)], [.int (((f 68) + (1 : Int32)) - (1 : Int32)), .ref 0], Wd (va_up (va_up f 68 ((f 68) + (1 : Int32))) 78 0) fl (va_up g 5 (upd (g 5) ((f 68).toNatClampNeg) ((((p0 * (4 : Int32)) + p1) * (10 : Int32)) + p2))) gl hh v tx)) rfl ?_
          refine WP.call hP_60 hP_100 (as := [.ref 0, .int (((f 68) + (1 : Int32)) - (1 : Int32))]) (pc' := 109) (L' := [some (.ref 0), some (.int p0), some (.int p1), some (.int p2)]) (st' := []) (w1 := Wd (va_up (va_up f 68 ((f 68) + (1 : Int32))) 78 0) fl (va_up g 5 (upd (g 5) ((f 68).toNatClampNeg) ((((p0 * (4 : Int32)) + p1) * (10 : Int32)) + p2))) gl hh v tx) rfl ⟨Nat.le_of_ble_eq_true rfl, Nat.le_of_ble_eq_true rfl⟩ rfl (b_x_accepted_0 X (d + 1) (va_up (va_up f 68 ((f 68) + (1 : Int32))) 78 0) fl (va_up g 5 (upd (g 5) ((f 68).toNatClampNeg) ((((p0 * (4 : Int32)) + p1) * (10 : Int32)) + p2))) gl hh v tx (((f 68) + (1 : Int32)) - (1 : Int32)) _ ?_)
          exact WP.retI hP_60 rfl rfl h9
        · have h10 := h6.2 c7
          refine WP.run hP_60 2 (c' := (46, [some (.ref 0), some (.int p0), some (.int p1), some (.int p2)], [.int (-5), .ref 0], Wd f fl g gl hh v tx)) rfl ?_
          refine WP.call hP_60 hP_101 (as := [.ref 0, .int (-5)]) (pc' := 49) (L' := [some (.ref 0), some (.int p0), some (.int p1), some (.int p2)]) (st' := []) (w1 := Wd f fl g gl hh v tx) rfl ⟨Nat.le_of_ble_eq_true rfl, Nat.le_of_ble_eq_true rfl⟩ rfl (b_x_refused_0 X (d) f fl g gl hh v tx (-5) _ ?_)
          refine ⟨fun c11 => ?_, fun c => absurd c (by decide)⟩
          refine ⟨by decide, ?_⟩
          refine ⟨by decide, ?_⟩
          exact WP.retI hP_60 rfl rfl h10
      · have h12 := h4.2 c5
        refine WP.run hP_60 3 (c' := (28, [some (.ref 0), none, none, none], [.int (-1), .ref 0], Wd f fl g gl hh v tx)) rfl ?_
        refine WP.call hP_60 hP_101 (as := [.ref 0, .int (-1)]) (pc' := 31) (L' := [some (.ref 0), none, none, none]) (st' := []) (w1 := Wd f fl g gl hh v tx) rfl ⟨Nat.le_of_ble_eq_true rfl, Nat.le_of_ble_eq_true rfl⟩ rfl (b_x_refused_0 X (d) f fl g gl hh v tx (-1) _ ?_)
        refine ⟨fun c13 => ?_, fun c => absurd c (by decide)⟩
        refine ⟨by decide, ?_⟩
        refine ⟨by decide, ?_⟩
        exact WP.retI hP_60 rfl rfl h12
    · have h14 := h2.2 c3
      refine WP.run hP_60 3 (c' := (28, [some (.ref 0), none, none, none], [.int (-1), .ref 0], Wd f fl g gl hh v tx)) rfl ?_
      refine WP.call hP_60 hP_101 (as := [.ref 0, .int (-1)]) (pc' := 31) (L' := [some (.ref 0), none, none, none]) (st' := []) (w1 := Wd f fl g gl hh v tx) rfl ⟨Nat.le_of_ble_eq_true rfl, Nat.le_of_ble_eq_true rfl⟩ rfl (b_x_refused_0 X (d) f fl g gl hh v tx (-1) _ ?_)
      refine ⟨fun c15 => ?_, fun c => absurd c (by decide)⟩
      refine ⟨by decide, ?_⟩
      refine ⟨by decide, ?_⟩
      exact WP.retI hP_60 rfl rfl h14
  · have h16 := h.2 c1
    refine WP.run hP_60 3 (c' := (28, [some (.ref 0), none, none, none], [.int (-1), .ref 0], Wd f fl g gl hh v tx)) rfl ?_
    refine WP.call hP_60 hP_101 (as := [.ref 0, .int (-1)]) (pc' := 31) (L' := [some (.ref 0), none, none, none]) (st' := []) (w1 := Wd f fl g gl hh v tx) rfl ⟨Nat.le_of_ble_eq_true rfl, Nat.le_of_ble_eq_true rfl⟩ rfl (b_x_refused_0 X (d) f fl g gl hh v tx (-1) _ ?_)
    refine ⟨fun c17 => ?_, fun c => absurd c (by decide)⟩
    refine ⟨by decide, ?_⟩
    refine ⟨by decide, ?_⟩
    exact WP.retI hP_60 rfl rfl h16

set_option maxRecDepth 20000 in
theorem b_x_detail_0 (X : mm_X) (d : Nat) (f : Nat → Int32) (fl : Nat → Int64) (g : Nat → Nat → Int32) (gl : Nat → Nat → Int64) (hh : Nat → Nat → Option Nat) (v : Nat → Value) (tx : mm_W) (p0 : Int32) (p1 : Int32)  (P : Option Value → mm_W → Prop)
    (h : ((p1 = 0) → P (some (.int (p0 / (40 : Int32)))) (Wd f fl g gl hh v tx)) ∧
    ((¬ p1 = 0) → (((p1 = 1) → P (some (.int ((p0 / (10 : Int32)) - ((p0 / (10 : Int32)) / (4 : Int32)) * (4 : Int32)))) (Wd f fl g gl hh v tx)) ∧
      ((¬ p1 = 1) → (((p1 = 2) → P (some (.int (p0 - (p0 / (10 : Int32)) * (10 : Int32)))) (Wd f fl g gl hh v tx)) ∧
        ((¬ p1 = 2) → P (some (.int (-1))) (Wd f fl g gl hh v tx))))))) :
    WP X (d + 1) 113 (0, [some (.int p0), some (.int p1)], [], Wd f fl g gl hh v tx) P := by
  refine WP.run hP_113 1 (c' := (1, [some (.int p0), some (.int p1)], [.int p1], Wd f fl g gl hh v tx)) rfl ?_
  refine WP.run hP_113 1 (c' := (mm_sw p1 0 [28, 33, 38] 43, [some (.int p0), some (.int p1)], [], Wd f fl g gl hh v tx)) rfl ?_
  refine WP.sw (lo' := 1) rfl (fun c1 => ?_) (fun c1 => ?_)
  · have h2 := h.1 c1
    refine WP.run hP_113 1 (c' := (29, [some (.int p0), none], [.int p0], Wd f fl g gl hh v tx)) rfl ?_
    refine WP.call hP_113 hP_110 (as := [.int p0]) (pc' := 32) (L' := [some (.int p0), none]) (st' := []) (w1 := Wd f fl g gl hh v tx) rfl ⟨Nat.le_of_ble_eq_true rfl, Nat.le_of_ble_eq_true rfl⟩ rfl (b_x_cellOf_0 X (d) f fl g gl hh v tx p0 _ ?_)
    exact WP.retI hP_113 rfl rfl h2
  · have h3 := h.2 c1
    refine WP.sw (lo' := 2) rfl (fun c4 => ?_) (fun c4 => ?_)
    · have h5 := h3.1 c4
      refine WP.run hP_113 1 (c' := (34, [some (.int p0), none], [.int p0], Wd f fl g gl hh v tx)) rfl ?_
      refine WP.call hP_113 hP_111 (as := [.int p0]) (pc' := 37) (L' := [some (.int p0), none]) (st' := []) (w1 := Wd f fl g gl hh v tx) rfl ⟨Nat.le_of_ble_eq_true rfl, Nat.le_of_ble_eq_true rfl⟩ rfl (b_x_facesOf_0 X (d) f fl g gl hh v tx p0 _ ?_)
      exact WP.retI hP_113 rfl rfl h5
    · have h6 := h3.2 c4
      refine WP.sw (lo' := 3) rfl (fun c7 => ?_) (fun c7 => ?_)
      · have h8 := h6.1 c7
        refine WP.run hP_113 1 (c' := (39, [some (.int p0), none], [.int p0], Wd f fl g gl hh v tx)) rfl ?_
        refine WP.call hP_113 hP_112 (as := [.int p0]) (pc' := 42) (L' := [some (.int p0), none]) (st' := []) (w1 := Wd f fl g gl hh v tx) rfl ⟨Nat.le_of_ble_eq_true rfl, Nat.le_of_ble_eq_true rfl⟩ rfl (b_x_powderOf_0 X (d) f fl g gl hh v tx p0 _ ?_)
        exact WP.retI hP_113 rfl rfl h8
      · have h9 := h6.2 c7
        show WP X _ 113 (43, [some (.int p0), some (.int p1)], [], Wd f fl g gl hh v tx) P
        refine WP.run hP_113 1 (c' := (44, [none, none], [.int (-1)], Wd f fl g gl hh v tx)) rfl ?_
        exact WP.retI hP_113 rfl rfl h9

set_option maxRecDepth 20000 in
theorem b_x_of_0 (X : mm_X) (d : Nat) (f : Nat → Int32) (fl : Nat → Int64) (g : Nat → Nat → Int32) (gl : Nat → Nat → Int64) (hh : Nat → Nat → Option Nat) (v : Nat → Value) (tx : mm_W) (p0 : Int32) (p1 : Int32)  (P : Option Value → mm_W → Prop)
    (h : ((0 ≤ p0 ∧ p0 < (f 68)) → ((¬ (p0 < 0 ∨ 3 ≤ p0.toNatClampNeg)) ∧ (((p1 = 0) → P (some (.int (((g 5) p0.toNatClampNeg) / (40 : Int32)))) (Wd f fl g gl hh v tx)) ∧
      ((¬ p1 = 0) → (((p1 = 1) → P (some (.int ((((g 5) p0.toNatClampNeg) / (10 : Int32)) - ((((g 5) p0.toNatClampNeg) / (10 : Int32)) / (4 : Int32)) * (4 : Int32)))) (Wd f fl g gl hh v tx)) ∧
        ((¬ p1 = 1) → (((p1 = 2) → P (some (.int (((g 5) p0.toNatClampNeg) - (((g 5) p0.toNatClampNeg) / (10 : Int32)) * (10 : Int32)))) (Wd f fl g gl hh v tx)) ∧
          ((¬ p1 = 2) → P (some (.int (-1))) (Wd f fl g gl hh v tx))))))))) ∧
    ((¬ (0 ≤ p0 ∧ p0 < (f 68))) → P (some (.int (-1))) (Wd f fl g gl hh v tx))) :
    WP X (d + 2) 61 (0, [some (.ref 0), some (.int p0), some (.int p1)], [], Wd f fl g gl hh v tx) P := by
  refine WP.run hP_61 4 (c' := (8, [some (.ref 0), some (.int p0), some (.int p1)], [.int (f 68), .int p0], Wd f fl g gl hh v tx)) rfl ?_
  refine WP.call hP_61 hP_99 (as := [.int p0, .int (f 68)]) (pc' := 11) (L' := [some (.ref 0), some (.int p0), some (.int p1)]) (st' := []) (w1 := Wd f fl g gl hh v tx) rfl ⟨Nat.le_of_ble_eq_true rfl, Nat.le_of_ble_eq_true rfl⟩ rfl (b_within_m X (d + 1) f fl g gl hh v tx p0 (f 68) _ ?_)
  refine ⟨fun c1 => ?_, fun c1 => ?_⟩
  · have h2 := h.1 c1
    refine WP.run hP_61 5 (c' := (22, [some (.ref 0), some (.int p0), some (.int p1)], [.int p0, .ref 5], Wd f fl g gl hh v tx)) rfl ?_
    refine WP.of (fun _ _ => Ex.iald hP_61 rfl (Wa_5 _ _ _ _ _ _ _) h2.1) ?_
    have h3 := h2.2
    refine WP.run hP_61 1 (c' := (24, [some (.ref 0), some (.int p0), some (.int p1)], [.int p1, .int ((g 5) p0.toNatClampNeg)], Wd f fl g gl hh v tx)) rfl ?_
    refine WP.call hP_61 hP_113 (as := [.int ((g 5) p0.toNatClampNeg), .int p1]) (pc' := 27) (L' := [some (.ref 0), some (.int p0), some (.int p1)]) (st' := []) (w1 := Wd f fl g gl hh v tx) rfl ⟨Nat.le_of_ble_eq_true rfl, Nat.le_of_ble_eq_true rfl⟩ rfl (b_x_detail_0 X (d) f fl g gl hh v tx ((g 5) p0.toNatClampNeg) p1 _ ?_)
    refine ⟨fun c4 => ?_, fun c4 => ?_⟩
    · have h5 := h3.1 c4
      refine WP.run hP_61 1 (c' := (31, [some (.ref 0), some (.int p0), some (.int p1)], [.int (((g 5) p0.toNatClampNeg) / (40 : Int32))], Wd f fl g gl hh v tx)) rfl ?_
      exact WP.retI hP_61 rfl rfl h5
    · have h6 := h3.2 c4
      refine ⟨fun c7 => ?_, fun c7 => ?_⟩
      · have h8 := h6.1 c7
        refine WP.run hP_61 1 (c' := (31, [some (.ref 0), some (.int p0), some (.int p1)], [.int ((((g 5) p0.toNatClampNeg) / (10 : Int32)) - ((((g 5) p0.toNatClampNeg) / (10 : Int32)) / (4 : Int32)) * (4 : Int32))], Wd f fl g gl hh v tx)) rfl ?_
        exact WP.retI hP_61 rfl rfl h8
      · have h9 := h6.2 c7
        refine ⟨fun c10 => ?_, fun c10 => ?_⟩
        · have h11 := h9.1 c10
          refine WP.run hP_61 1 (c' := (31, [some (.ref 0), some (.int p0), some (.int p1)], [.int (((g 5) p0.toNatClampNeg) - (((g 5) p0.toNatClampNeg) / (10 : Int32)) * (10 : Int32))], Wd f fl g gl hh v tx)) rfl ?_
          exact WP.retI hP_61 rfl rfl h11
        · have h12 := h9.2 c10
          refine WP.run hP_61 1 (c' := (31, [some (.ref 0), some (.int p0), some (.int p1)], [.int (-1)], Wd f fl g gl hh v tx)) rfl ?_
          exact WP.retI hP_61 rfl rfl h12
  · have h13 := h.2 c1
    refine WP.run hP_61 2 (c' := (31, [none, none, none], [.int (-1)], Wd f fl g gl hh v tx)) rfl ?_
    exact WP.retI hP_61 rfl rfl h13

set_option maxRecDepth 20000 in
theorem b_x_asks_0 (X : mm_X) (d : Nat) (f : Nat → Int32) (fl : Nat → Int64) (g : Nat → Nat → Int32) (gl : Nat → Nat → Int64) (hh : Nat → Nat → Option Nat) (v : Nat → Value) (tx : mm_W) (p0 : Int32) (p1 : Int32) (p2 : Int32)  (P : Option Value → mm_W → Prop)
    (h : ((0 ≤ p0 ∧ p0 < (f 68)) → (((0 ≤ (f 76) ∧ (f 76) < (f 74)) → ((¬ ((f 76) < 0 ∨ 6 ≤ (f 76).toNatClampNeg)) ∧ WP X (d + 1) 2 (0, [some (.ref 38), some (.ref 1), some (.int p0), some ((mm_rf ((hh 7) (f 76).toNatClampNeg)))], [], Wd f fl g gl hh v tx) (fun rv w2 => WP X (d + 2) 62 (35, [some (.ref 0), some (.int p0), some (.int p1), some (.int p2)], rv.toList ++ [], w2) P))) ∧
      ((¬ (0 ≤ (f 76) ∧ (f 76) < (f 74))) → ((¬ (p0 < 0 ∨ 3 ≤ p0.toNatClampNeg)) ∧ (((¬ p2 = 0) → (((¬ p2 = 1) → (((¬ p2 = 2) → P (some (.int (-1))) (Wd (va_up f 2440 ((g 5) p0.toNatClampNeg)) fl (va_up (va_up (va_up g 41 (upd (g 41) 0 p0)) 41 (upd (upd (g 41) 0 p0) 6 ((g 8) 0))) 41 (upd (upd (upd (g 41) 0 p0) 6 ((g 8) 0)) 7 ((g 8) 2))) gl hh (va_up v 2439 (.null)) tx)) ∧
            ((p2 = 2) → (((0 ≤ p1 ∧ p1 < (6 : Int32)) → WP X (d + 1) 5 (0, [some (.ref 38), some (.int p1)], [], Wd (va_up f 2440 ((g 5) p0.toNatClampNeg)) fl (va_up (va_up (va_up g 41 (upd (g 41) 0 p0)) 41 (upd (upd (g 41) 0 p0) 6 ((g 8) 0))) 41 (upd (upd (upd (g 41) 0 p0) 6 ((g 8) 0)) 7 ((g 8) 2))) gl hh (va_up v 2439 (.null)) tx) (fun rv w2 => WP X (d + 2) 62 (105, [some (.ref 0), none, some (.int p1), some (.int p2)], rv.toList ++ [], w2) P)) ∧
              ((¬ (0 ≤ p1 ∧ p1 < (6 : Int32))) → P (some (.int (-1))) (Wd (va_up f 2440 ((g 5) p0.toNatClampNeg)) fl (va_up (va_up (va_up g 41 (upd (g 41) 0 p0)) 41 (upd (upd (g 41) 0 p0) 6 ((g 8) 0))) 41 (upd (upd (upd (g 41) 0 p0) 6 ((g 8) 0)) 7 ((g 8) 2))) gl hh (va_up v 2439 (.null)) tx)))))) ∧
          ((p2 = 1) → WP X (d + 1) 4 (0, [some (.ref 38), none, none], [], Wd (va_up f 2440 ((g 5) p0.toNatClampNeg)) fl (va_up (va_up (va_up g 41 (upd (g 41) 0 p0)) 41 (upd (upd (g 41) 0 p0) 6 ((g 8) 0))) 41 (upd (upd (upd (g 41) 0 p0) 6 ((g 8) 0)) 7 ((g 8) 2))) gl hh (va_up v 2439 (.null)) tx) (fun rv w2 => WP X (d + 2) 62 (82, [some (.ref 0), none, some (.int p1), some (.int p2)], rv.toList ++ [], w2) P)))) ∧
        ((p2 = 0) → (((0 ≤ p1 ∧ p1 < (f 64)) → WP X (d + 1) 3 (0, [some (.ref 38), some (.ref 1), some (.int p1), none, none], [], Wd (va_up f 2440 ((g 5) p0.toNatClampNeg)) fl (va_up (va_up (va_up g 41 (upd (g 41) 0 p0)) 41 (upd (upd (g 41) 0 p0) 6 ((g 8) 0))) 41 (upd (upd (upd (g 41) 0 p0) 6 ((g 8) 0)) 7 ((g 8) 2))) gl hh (va_up v 2439 (.null)) tx) (fun rv w2 => WP X (d + 2) 62 (65, [some (.ref 0), some (.int p0), some (.int p1), some (.int p2)], rv.toList ++ [], w2) P)) ∧
          ((¬ (0 ≤ p1 ∧ p1 < (f 64))) → P (some (.int (-1))) (Wd (va_up f 2440 ((g 5) p0.toNatClampNeg)) fl (va_up (va_up (va_up g 41 (upd (g 41) 0 p0)) 41 (upd (upd (g 41) 0 p0) 6 ((g 8) 0))) 41 (upd (upd (upd (g 41) 0 p0) 6 ((g 8) 0)) 7 ((g 8) 2))) gl hh (va_up v 2439 (.null)) tx))))))))) ∧
    ((¬ (0 ≤ p0 ∧ p0 < (f 68))) → P (some (.int (-1))) (Wd f fl g gl hh v tx))) :
    WP X (d + 2) 62 (0, [some (.ref 0), some (.int p0), some (.int p1), some (.int p2)], [], Wd f fl g gl hh v tx) P := by
  refine WP.run hP_62 4 (c' := (8, [some (.ref 0), some (.int p0), some (.int p1), some (.int p2)], [.int (f 68), .int p0], Wd f fl g gl hh v tx)) rfl ?_
  refine WP.call hP_62 hP_99 (as := [.int p0, .int (f 68)]) (pc' := 11) (L' := [some (.ref 0), some (.int p0), some (.int p1), some (.int p2)]) (st' := []) (w1 := Wd f fl g gl hh v tx) rfl ⟨Nat.le_of_ble_eq_true rfl, Nat.le_of_ble_eq_true rfl⟩ rfl (b_within_m X (d + 1) f fl g gl hh v tx p0 (f 68) _ ?_)
  refine ⟨fun c1 => ?_, fun c1 => ?_⟩
  · have h2 := h.1 c1
    refine WP.run hP_62 8 (c' := (29, [some (.ref 0), some (.int p0), some (.int p1), some (.int p2)], [.ref 1, .int p0, .ref 1, .ref 38], Wd f fl g gl hh v tx)) rfl ?_
    refine WP.call hP_62 hP_46 (as := [.ref 1]) (pc' := 32) (L' := [some (.ref 0), some (.int p0), some (.int p1), some (.int p2)]) (st' := [.int p0, .ref 1, .ref 38]) (w1 := Wd f fl g gl hh v tx) rfl ⟨Nat.le_of_ble_eq_true rfl, Nat.le_of_ble_eq_true rfl⟩ rfl (b_yst_lawInForce_1_0 X (d) f fl g gl hh v tx  _ ?_)
    refine ⟨fun c3 => ?_, fun c3 => ?_⟩
    · have h4 := h2.1 c3
      refine ⟨h4.1, ?_⟩
      have h5 := h4.2
      refine WP.call hP_62 hP_2 (as := [.ref 38, .ref 1, .int p0, (mm_rf ((hh 7) (f 76).toNatClampNeg))]) (pc' := 35) (L' := [some (.ref 0), some (.int p0), some (.int p1), some (.int p2)]) (st' := []) (w1 := Wd f fl g gl hh v tx) rfl ⟨Nat.le_of_ble_eq_true rfl, Nat.le_of_ble_eq_true rfl⟩ rfl ?_
      exact h5
    · have h6 := h2.2 c3
      refine WP.call hP_62 hP_2 (as := [.ref 38, .ref 1, .int p0, .null]) (pc' := 35) (L' := [some (.ref 0), some (.int p0), some (.int p1), some (.int p2)]) (st' := []) (w1 := Wd f fl g gl hh v tx) rfl ⟨Nat.le_of_ble_eq_true rfl, Nat.le_of_ble_eq_true rfl⟩ rfl (b_yca_board_1n_0 X (d + 1) f fl g gl hh v tx p0 _ ?_)
      refine ⟨h6.1, ?_⟩
      have h7 := h6.2
      refine WP.run hP_62 1 (c' := (36, [some (.ref 0), some (.int p0), some (.int p1), some (.int p2)], [.int p2], Wd (va_up f 2440 ((g 5) p0.toNatClampNeg)) fl (va_up (va_up (va_up g 41 (upd (g 41) 0 p0)) 41 (upd (upd (g 41) 0 p0) 6 ((g 8) 0))) 41 (upd (upd (upd (g 41) 0 p0) 6 ((g 8) 0)) 7 ((g 8) 2))) gl hh (va_up v 2439 (.null)) tx)) rfl ?_
      refine WP.br hP_62 (q := ¬ p2 = 0) (t := 70) (f := 39) (L := [some (.ref 0), some (.int p0), some (.int p1), some (.int p2)]) (st := []) (w := Wd (va_up f 2440 ((g 5) p0.toNatClampNeg)) fl (va_up (va_up (va_up g 41 (upd (g 41) 0 p0)) 41 (upd (upd (g 41) 0 p0) 6 ((g 8) 0))) 41 (upd (upd (upd (g 41) 0 p0) 6 ((g 8) 0)) 7 ((g 8) 2))) gl hh (va_up v 2439 (.null)) tx) rfl (fun c8 => ?_) (fun c8 => ?_)
      · have h9 := h7.1 c8
        refine WP.run hP_62 2 (c' := (72, [some (.ref 0), none, some (.int p1), some (.int p2)], [.int 1, .int p2], Wd (va_up f 2440 ((g 5) p0.toNatClampNeg)) fl (va_up (va_up (va_up g 41 (upd (g 41) 0 p0)) 41 (upd (upd (g 41) 0 p0) 6 ((g 8) 0))) 41 (upd (upd (upd (g 41) 0 p0) 6 ((g 8) 0)) 7 ((g 8) 2))) gl hh (va_up v 2439 (.null)) tx)) rfl ?_
        refine WP.br hP_62 (q := ¬ p2 = 1) (t := 83) (f := 75) (L := [some (.ref 0), none, some (.int p1), some (.int p2)]) (st := []) (w := Wd (va_up f 2440 ((g 5) p0.toNatClampNeg)) fl (va_up (va_up (va_up g 41 (upd (g 41) 0 p0)) 41 (upd (upd (g 41) 0 p0) 6 ((g 8) 0))) 41 (upd (upd (upd (g 41) 0 p0) 6 ((g 8) 0)) 7 ((g 8) 2))) gl hh (va_up v 2439 (.null)) tx) rfl (fun c10 => ?_) (fun c10 => ?_)
        · have h11 := h9.1 c10
          refine WP.run hP_62 2 (c' := (85, [some (.ref 0), none, some (.int p1), some (.int p2)], [.int 2, .int p2], Wd (va_up f 2440 ((g 5) p0.toNatClampNeg)) fl (va_up (va_up (va_up g 41 (upd (g 41) 0 p0)) 41 (upd (upd (g 41) 0 p0) 6 ((g 8) 0))) 41 (upd (upd (upd (g 41) 0 p0) 6 ((g 8) 0)) 7 ((g 8) 2))) gl hh (va_up v 2439 (.null)) tx)) rfl ?_
          refine WP.br hP_62 (q := ¬ p2 = 2) (t := 114) (f := 88) (L := [some (.ref 0), none, some (.int p1), some (.int p2)]) (st := []) (w := Wd (va_up f 2440 ((g 5) p0.toNatClampNeg)) fl (va_up (va_up (va_up g 41 (upd (g 41) 0 p0)) 41 (upd (upd (g 41) 0 p0) 6 ((g 8) 0))) 41 (upd (upd (upd (g 41) 0 p0) 6 ((g 8) 0)) 7 ((g 8) 2))) gl hh (va_up v 2439 (.null)) tx) rfl (fun c12 => ?_) (fun c12 => ?_)
          · have h13 := h11.1 c12
            refine WP.run hP_62 1 (c' := (115, [none, none, none, none], [.int (-1)], Wd (va_up f 2440 ((g 5) p0.toNatClampNeg)) fl (va_up (va_up (va_up g 41 (upd (g 41) 0 p0)) 41 (upd (upd (g 41) 0 p0) 6 ((g 8) 0))) 41 (upd (upd (upd (g 41) 0 p0) 6 ((g 8) 0)) 7 ((g 8) 2))) gl hh (va_up v 2439 (.null)) tx)) rfl ?_
            exact WP.retI hP_62 rfl rfl h13
          · have h14 := h11.2 (Classical.not_not.mp c12)
            refine WP.run hP_62 2 (c' := (91, [some (.ref 0), none, some (.int p1), some (.int p2)], [.int 6, .int p1], Wd (va_up f 2440 ((g 5) p0.toNatClampNeg)) fl (va_up (va_up (va_up g 41 (upd (g 41) 0 p0)) 41 (upd (upd (g 41) 0 p0) 6 ((g 8) 0))) 41 (upd (upd (upd (g 41) 0 p0) 6 ((g 8) 0)) 7 ((g 8) 2))) gl hh (va_up v 2439 (.null)) tx)) rfl ?_
            refine WP.call hP_62 hP_99 (as := [.int p1, .int 6]) (pc' := 94) (L' := [some (.ref 0), none, some (.int p1), some (.int p2)]) (st' := []) (w1 := Wd (va_up f 2440 ((g 5) p0.toNatClampNeg)) fl (va_up (va_up (va_up g 41 (upd (g 41) 0 p0)) 41 (upd (upd (g 41) 0 p0) 6 ((g 8) 0))) 41 (upd (upd (upd (g 41) 0 p0) 6 ((g 8) 0)) 7 ((g 8) 2))) gl hh (va_up v 2439 (.null)) tx) rfl ⟨Nat.le_of_ble_eq_true rfl, Nat.le_of_ble_eq_true rfl⟩ rfl (b_within_m X (d + 1) (va_up f 2440 ((g 5) p0.toNatClampNeg)) fl (va_up (va_up (va_up g 41 (upd (g 41) 0 p0)) 41 (upd (upd (g 41) 0 p0) 6 ((g 8) 0))) 41 (upd (upd (upd (g 41) 0 p0) 6 ((g 8) 0)) 7 ((g 8) 2))) gl hh (va_up v 2439 (.null)) tx p1 6 _ ?_)
            refine ⟨fun c15 => ?_, fun c15 => ?_⟩
            · have h16 := h14.1 c15
              refine WP.run hP_62 4 (c' := (102, [some (.ref 0), none, some (.int p1), some (.int p2)], [.int p1, .ref 38], Wd (va_up f 2440 ((g 5) p0.toNatClampNeg)) fl (va_up (va_up (va_up g 41 (upd (g 41) 0 p0)) 41 (upd (upd (g 41) 0 p0) 6 ((g 8) 0))) 41 (upd (upd (upd (g 41) 0 p0) 6 ((g 8) 0)) 7 ((g 8) 2))) gl hh (va_up v 2439 (.null)) tx)) rfl ?_
              refine WP.call hP_62 hP_5 (as := [.ref 38, .int p1]) (pc' := 105) (L' := [some (.ref 0), none, some (.int p1), some (.int p2)]) (st' := []) (w1 := Wd (va_up f 2440 ((g 5) p0.toNatClampNeg)) fl (va_up (va_up (va_up g 41 (upd (g 41) 0 p0)) 41 (upd (upd (g 41) 0 p0) 6 ((g 8) 0))) 41 (upd (upd (upd (g 41) 0 p0) 6 ((g 8) 0)) 7 ((g 8) 2))) gl hh (va_up v 2439 (.null)) tx) rfl ⟨Nat.le_of_ble_eq_true rfl, Nat.le_of_ble_eq_true rfl⟩ rfl ?_
              exact h16
            · have h17 := h14.2 c15
              refine WP.run hP_62 2 (c' := (115, [none, none, none, none], [.int (-1)], Wd (va_up f 2440 ((g 5) p0.toNatClampNeg)) fl (va_up (va_up (va_up g 41 (upd (g 41) 0 p0)) 41 (upd (upd (g 41) 0 p0) 6 ((g 8) 0))) 41 (upd (upd (upd (g 41) 0 p0) 6 ((g 8) 0)) 7 ((g 8) 2))) gl hh (va_up v 2439 (.null)) tx)) rfl ?_
              exact WP.retI hP_62 rfl rfl h17
        · have h18 := h9.2 (Classical.not_not.mp c10)
          refine WP.run hP_62 2 (c' := (79, [some (.ref 0), none, some (.int p1), some (.int p2)], [.ref 38], Wd (va_up f 2440 ((g 5) p0.toNatClampNeg)) fl (va_up (va_up (va_up g 41 (upd (g 41) 0 p0)) 41 (upd (upd (g 41) 0 p0) 6 ((g 8) 0))) 41 (upd (upd (upd (g 41) 0 p0) 6 ((g 8) 0)) 7 ((g 8) 2))) gl hh (va_up v 2439 (.null)) tx)) rfl ?_
          refine WP.call hP_62 hP_4 (as := [.ref 38]) (pc' := 82) (L' := [some (.ref 0), none, some (.int p1), some (.int p2)]) (st' := []) (w1 := Wd (va_up f 2440 ((g 5) p0.toNatClampNeg)) fl (va_up (va_up (va_up g 41 (upd (g 41) 0 p0)) 41 (upd (upd (g 41) 0 p0) 6 ((g 8) 0))) 41 (upd (upd (upd (g 41) 0 p0) 6 ((g 8) 0)) 7 ((g 8) 2))) gl hh (va_up v 2439 (.null)) tx) rfl ⟨Nat.le_of_ble_eq_true rfl, Nat.le_of_ble_eq_true rfl⟩ rfl ?_
          exact h18
      · have h19 := h7.2 (Classical.not_not.mp c8)
        refine WP.run hP_62 4 (c' := (47, [some (.ref 0), some (.int p0), some (.int p1), some (.int p2)], [.int (f 64), .int p1], Wd (va_up f 2440 ((g 5) p0.toNatClampNeg)) fl (va_up (va_up (va_up g 41 (upd (g 41) 0 p0)) 41 (upd (upd (g 41) 0 p0) 6 ((g 8) 0))) 41 (upd (upd (upd (g 41) 0 p0) 6 ((g 8) 0)) 7 ((g 8) 2))) gl hh (va_up v 2439 (.null)) tx)) rfl ?_
        refine WP.call hP_62 hP_99 (as := [.int p1, .int (f 64)]) (pc' := 50) (L' := [some (.ref 0), some (.int p0), some (.int p1), some (.int p2)]) (st' := []) (w1 := Wd (va_up f 2440 ((g 5) p0.toNatClampNeg)) fl (va_up (va_up (va_up g 41 (upd (g 41) 0 p0)) 41 (upd (upd (g 41) 0 p0) 6 ((g 8) 0))) 41 (upd (upd (upd (g 41) 0 p0) 6 ((g 8) 0)) 7 ((g 8) 2))) gl hh (va_up v 2439 (.null)) tx) rfl ⟨Nat.le_of_ble_eq_true rfl, Nat.le_of_ble_eq_true rfl⟩ rfl (b_within_m X (d + 1) (va_up f 2440 ((g 5) p0.toNatClampNeg)) fl (va_up (va_up (va_up g 41 (upd (g 41) 0 p0)) 41 (upd (upd (g 41) 0 p0) 6 ((g 8) 0))) 41 (upd (upd (upd (g 41) 0 p0) 6 ((g 8) 0)) 7 ((g 8) 2))) gl hh (va_up v 2439 (.null)) tx p1 (f 64) _ ?_)
        refine ⟨fun c20 => ?_, fun c20 => ?_⟩
        · have h21 := h19.1 c20
          refine WP.run hP_62 6 (c' := (62, [some (.ref 0), some (.int p0), some (.int p1), some (.int p2)], [.int p1, .ref 1, .ref 38], Wd (va_up f 2440 ((g 5) p0.toNatClampNeg)) fl (va_up (va_up (va_up g 41 (upd (g 41) 0 p0)) 41 (upd (upd (g 41) 0 p0) 6 ((g 8) 0))) 41 (upd (upd (upd (g 41) 0 p0) 6 ((g 8) 0)) 7 ((g 8) 2))) gl hh (va_up v 2439 (.null)) tx)) rfl ?_
          refine WP.call hP_62 hP_3 (as := [.ref 38, .ref 1, .int p1]) (pc' := 65) (L' := [some (.ref 0), some (.int p0), some (.int p1), some (.int p2)]) (st' := []) (w1 := Wd (va_up f 2440 ((g 5) p0.toNatClampNeg)) fl (va_up (va_up (va_up g 41 (upd (g 41) 0 p0)) 41 (upd (upd (g 41) 0 p0) 6 ((g 8) 0))) 41 (upd (upd (upd (g 41) 0 p0) 6 ((g 8) 0)) 7 ((g 8) 2))) gl hh (va_up v 2439 (.null)) tx) rfl ⟨Nat.le_of_ble_eq_true rfl, Nat.le_of_ble_eq_true rfl⟩ rfl ?_
          exact h21
        · have h22 := h19.2 c20
          refine WP.run hP_62 2 (c' := (69, [none, none, none, none], [.int (-1)], Wd (va_up f 2440 ((g 5) p0.toNatClampNeg)) fl (va_up (va_up (va_up g 41 (upd (g 41) 0 p0)) 41 (upd (upd (g 41) 0 p0) 6 ((g 8) 0))) 41 (upd (upd (upd (g 41) 0 p0) 6 ((g 8) 0)) 7 ((g 8) 2))) gl hh (va_up v 2439 (.null)) tx)) rfl ?_
          exact WP.retI hP_62 rfl rfl h22
  · have h23 := h.2 c1
    refine WP.run hP_62 2 (c' := (15, [some (.ref 0), some (.int p0), some (.int p1), some (.int p2)], [.int (-1)], Wd f fl g gl hh v tx)) rfl ?_
    exact WP.retI hP_62 rfl rfl h23

set_option maxRecDepth 20000 in
theorem b_x_asks_35 (X : mm_X) (d : Nat) (f : Nat → Int32) (fl : Nat → Int64) (g : Nat → Nat → Int32) (gl : Nat → Nat → Int64) (hh : Nat → Nat → Option Nat) (v : Nat → Value) (tx : mm_W) (l1 : Int32) (l2 : Int32) (l3 : Int32)  (P : Option Value → mm_W → Prop)
    (h : ((¬ l3 = 0) → (((¬ l3 = 1) → (((¬ l3 = 2) → P (some (.int (-1))) (Wd f fl g gl hh v tx)) ∧
        ((l3 = 2) → (((0 ≤ l2 ∧ l2 < (6 : Int32)) → WP X (d) 5 (0, [some (.ref 38), some (.int l2)], [], Wd f fl g gl hh v tx) (fun rv w2 => WP X (d + 1) 62 (105, [some (.ref 0), none, some (.int l2), some (.int l3)], rv.toList ++ [], w2) P)) ∧
          ((¬ (0 ≤ l2 ∧ l2 < (6 : Int32))) → P (some (.int (-1))) (Wd f fl g gl hh v tx)))))) ∧
      ((l3 = 1) → WP X (d) 4 (0, [some (.ref 38), none, none], [], Wd f fl g gl hh v tx) (fun rv w2 => WP X (d + 1) 62 (82, [some (.ref 0), none, some (.int l2), some (.int l3)], rv.toList ++ [], w2) P)))) ∧
    ((l3 = 0) → (((0 ≤ l2 ∧ l2 < (f 64)) → WP X (d) 3 (0, [some (.ref 38), some (.ref 1), some (.int l2), none, none], [], Wd f fl g gl hh v tx) (fun rv w2 => WP X (d + 1) 62 (65, [some (.ref 0), some (.int l1), some (.int l2), some (.int l3)], rv.toList ++ [], w2) P)) ∧
      ((¬ (0 ≤ l2 ∧ l2 < (f 64))) → P (some (.int (-1))) (Wd f fl g gl hh v tx))))) :
    WP X (d + 1) 62 (35, [some (.ref 0), some (.int l1), some (.int l2), some (.int l3)], [], Wd f fl g gl hh v tx) P := by
  refine WP.run hP_62 1 (c' := (36, [some (.ref 0), some (.int l1), some (.int l2), some (.int l3)], [.int l3], Wd f fl g gl hh v tx)) rfl ?_
  refine WP.br hP_62 (q := ¬ l3 = 0) (t := 70) (f := 39) (L := [some (.ref 0), some (.int l1), some (.int l2), some (.int l3)]) (st := []) (w := Wd f fl g gl hh v tx) rfl (fun c1 => ?_) (fun c1 => ?_)
  · have h2 := h.1 c1
    refine WP.run hP_62 2 (c' := (72, [some (.ref 0), none, some (.int l2), some (.int l3)], [.int 1, .int l3], Wd f fl g gl hh v tx)) rfl ?_
    refine WP.br hP_62 (q := ¬ l3 = 1) (t := 83) (f := 75) (L := [some (.ref 0), none, some (.int l2), some (.int l3)]) (st := []) (w := Wd f fl g gl hh v tx) rfl (fun c3 => ?_) (fun c3 => ?_)
    · have h4 := h2.1 c3
      refine WP.run hP_62 2 (c' := (85, [some (.ref 0), none, some (.int l2), some (.int l3)], [.int 2, .int l3], Wd f fl g gl hh v tx)) rfl ?_
      refine WP.br hP_62 (q := ¬ l3 = 2) (t := 114) (f := 88) (L := [some (.ref 0), none, some (.int l2), some (.int l3)]) (st := []) (w := Wd f fl g gl hh v tx) rfl (fun c5 => ?_) (fun c5 => ?_)
      · have h6 := h4.1 c5
        refine WP.run hP_62 1 (c' := (115, [none, none, none, none], [.int (-1)], Wd f fl g gl hh v tx)) rfl ?_
        exact WP.retI hP_62 rfl rfl h6
      · have h7 := h4.2 (Classical.not_not.mp c5)
        refine WP.run hP_62 2 (c' := (91, [some (.ref 0), none, some (.int l2), some (.int l3)], [.int 6, .int l2], Wd f fl g gl hh v tx)) rfl ?_
        refine WP.call hP_62 hP_99 (as := [.int l2, .int 6]) (pc' := 94) (L' := [some (.ref 0), none, some (.int l2), some (.int l3)]) (st' := []) (w1 := Wd f fl g gl hh v tx) rfl ⟨Nat.le_of_ble_eq_true rfl, Nat.le_of_ble_eq_true rfl⟩ rfl (b_within_m X (d) f fl g gl hh v tx l2 6 _ ?_)
        refine ⟨fun c8 => ?_, fun c8 => ?_⟩
        · have h9 := h7.1 c8
          refine WP.run hP_62 4 (c' := (102, [some (.ref 0), none, some (.int l2), some (.int l3)], [.int l2, .ref 38], Wd f fl g gl hh v tx)) rfl ?_
          refine WP.call hP_62 hP_5 (as := [.ref 38, .int l2]) (pc' := 105) (L' := [some (.ref 0), none, some (.int l2), some (.int l3)]) (st' := []) (w1 := Wd f fl g gl hh v tx) rfl ⟨Nat.le_of_ble_eq_true rfl, Nat.le_of_ble_eq_true rfl⟩ rfl ?_
          exact h9
        · have h10 := h7.2 c8
          refine WP.run hP_62 2 (c' := (115, [none, none, none, none], [.int (-1)], Wd f fl g gl hh v tx)) rfl ?_
          exact WP.retI hP_62 rfl rfl h10
    · have h11 := h2.2 (Classical.not_not.mp c3)
      refine WP.run hP_62 2 (c' := (79, [some (.ref 0), none, some (.int l2), some (.int l3)], [.ref 38], Wd f fl g gl hh v tx)) rfl ?_
      refine WP.call hP_62 hP_4 (as := [.ref 38]) (pc' := 82) (L' := [some (.ref 0), none, some (.int l2), some (.int l3)]) (st' := []) (w1 := Wd f fl g gl hh v tx) rfl ⟨Nat.le_of_ble_eq_true rfl, Nat.le_of_ble_eq_true rfl⟩ rfl ?_
      exact h11
  · have h12 := h.2 (Classical.not_not.mp c1)
    refine WP.run hP_62 4 (c' := (47, [some (.ref 0), some (.int l1), some (.int l2), some (.int l3)], [.int (f 64), .int l2], Wd f fl g gl hh v tx)) rfl ?_
    refine WP.call hP_62 hP_99 (as := [.int l2, .int (f 64)]) (pc' := 50) (L' := [some (.ref 0), some (.int l1), some (.int l2), some (.int l3)]) (st' := []) (w1 := Wd f fl g gl hh v tx) rfl ⟨Nat.le_of_ble_eq_true rfl, Nat.le_of_ble_eq_true rfl⟩ rfl (b_within_m X (d) f fl g gl hh v tx l2 (f 64) _ ?_)
    refine ⟨fun c13 => ?_, fun c13 => ?_⟩
    · have h14 := h12.1 c13
      refine WP.run hP_62 6 (c' := (62, [some (.ref 0), some (.int l1), some (.int l2), some (.int l3)], [.int l2, .ref 1, .ref 38], Wd f fl g gl hh v tx)) rfl ?_
      refine WP.call hP_62 hP_3 (as := [.ref 38, .ref 1, .int l2]) (pc' := 65) (L' := [some (.ref 0), some (.int l1), some (.int l2), some (.int l3)]) (st' := []) (w1 := Wd f fl g gl hh v tx) rfl ⟨Nat.le_of_ble_eq_true rfl, Nat.le_of_ble_eq_true rfl⟩ rfl ?_
      exact h14
    · have h15 := h12.2 c13
      refine WP.run hP_62 2 (c' := (69, [none, none, none, none], [.int (-1)], Wd f fl g gl hh v tx)) rfl ?_
      exact WP.retI hP_62 rfl rfl h15

set_option maxRecDepth 20000 in
theorem b_x_asks_105 (X : mm_X) (d : Nat) (f : Nat → Int32) (fl : Nat → Int64) (g : Nat → Nat → Int32) (gl : Nat → Nat → Int64) (hh : Nat → Nat → Option Nat) (v : Nat → Value) (tx : mm_W) (l2 : Int32) (l3 : Int32) (s0 : Int32)  (P : Option Value → mm_W → Prop)
    (h : ((s0 = 0) → P (some (.int 0)) (Wd f fl g gl hh v tx)) ∧
    ((¬ s0 = 0) → P (some (.int 1)) (Wd f fl g gl hh v tx))) :
    WP X (d) 62 (105, [some (.ref 0), none, some (.int l2), some (.int l3)], [.int s0], Wd f fl g gl hh v tx) P := by
  refine WP.br hP_62 (q := s0 = 0) (t := 112) (f := 108) (L := [some (.ref 0), none, some (.int l2), some (.int l3)]) (st := []) (w := Wd f fl g gl hh v tx) rfl (fun c1 => ?_) (fun c1 => ?_)
  · have h2 := h.1 c1
    refine WP.run hP_62 1 (c' := (113, [none, none, none, none], [.int 0], Wd f fl g gl hh v tx)) rfl ?_
    exact WP.retI hP_62 rfl rfl h2
  · have h3 := h.2 c1
    refine WP.run hP_62 2 (c' := (113, [some (.ref 0), none, some (.int l2), some (.int l3)], [.int 1], Wd f fl g gl hh v tx)) rfl ?_
    exact WP.retI hP_62 rfl rfl h3

set_option maxRecDepth 20000 in
theorem b_x_asks_82 (X : mm_X) (d : Nat) (f : Nat → Int32) (fl : Nat → Int64) (g : Nat → Nat → Int32) (gl : Nat → Nat → Int64) (hh : Nat → Nat → Option Nat) (v : Nat → Value) (tx : mm_W) (l2 : Int32) (l3 : Int32) (s0 : Int32)  (P : Option Value → mm_W → Prop)
    (h : P (some (.int s0)) (Wd f fl g gl hh v tx)) :
    WP X (d) 62 (82, [some (.ref 0), none, some (.int l2), some (.int l3)], [.int s0], Wd f fl g gl hh v tx) P := by
  exact WP.retI hP_62 rfl rfl h

set_option maxRecDepth 20000 in
theorem b_x_asks_65 (X : mm_X) (d : Nat) (f : Nat → Int32) (fl : Nat → Int64) (g : Nat → Nat → Int32) (gl : Nat → Nat → Int64) (hh : Nat → Nat → Option Nat) (v : Nat → Value) (tx : mm_W) (l1 : Int32) (l2 : Int32) (l3 : Int32) (s0 : Int32)  (P : Option Value → mm_W → Prop)
    (h : P (some (.int s0)) (Wd f fl g gl hh v tx)) :
    WP X (d) 62 (65, [some (.ref 0), some (.int l1), some (.int l2), some (.int l3)], [.int s0], Wd f fl g gl hh v tx) P := by
  refine WP.run hP_62 1 (c' := (69, [some (.ref 0), some (.int l1), some (.int l2), some (.int l3)], [.int s0], Wd f fl g gl hh v tx)) rfl ?_
  exact WP.retI hP_62 rfl rfl h

set_option maxRecDepth 20000 in
theorem b_x_line_0 (X : mm_X) (d : Nat) (f : Nat → Int32) (fl : Nat → Int64) (g : Nat → Nat → Int32) (gl : Nat → Nat → Int64) (hh : Nat → Nat → Option Nat) (v : Nat → Value) (tx : mm_W) (p0 : Int32)  (P : Option Value → mm_W → Prop)
    (h : ((0 ≤ p0 ∧ p0 < (f 70)) → P (some (.int ((((f 71) >>> (((2 : Int32) * (((f 70) - (1 : Int32)) - p0)) &&& (31 : Int32))) : Int32) &&& (3 : Int32)))) (Wd f fl g gl hh v tx)) ∧
    ((¬ (0 ≤ p0 ∧ p0 < (f 70))) → P (some (.int (-1))) (Wd f fl g gl hh v tx))) :
    WP X (d + 1) 63 (0, [some (.ref 0), some (.int p0)], [], Wd f fl g gl hh v tx) P := by
  refine WP.run hP_63 4 (c' := (8, [some (.ref 0), some (.int p0)], [.int (f 70), .int p0], Wd f fl g gl hh v tx)) rfl ?_
  refine WP.call hP_63 hP_99 (as := [.int p0, .int (f 70)]) (pc' := 11) (L' := [some (.ref 0), some (.int p0)]) (st' := []) (w1 := Wd f fl g gl hh v tx) rfl ⟨Nat.le_of_ble_eq_true rfl, Nat.le_of_ble_eq_true rfl⟩ rfl (b_within_m X (d) f fl g gl hh v tx p0 (f 70) _ ?_)
  refine ⟨fun c1 => ?_, fun c1 => ?_⟩
  · have h2 := h.1 c1
    refine WP.run hP_63 17 (c' := (41, [some (.ref 0), some (.int p0)], [.int ((((f 71) >>> (((2 : Int32) * (((f 70) - (1 : Int32)) - p0)) &&& (31 : Int32))) : Int32) &&& (3 : Int32))], Wd f fl g gl hh v tx)) rfl ?_
    exact WP.retI hP_63 rfl rfl h2
  · have h3 := h.2 c1
    refine WP.run hP_63 2 (c' := (41, [none, none], [.int (-1)], Wd f fl g gl hh v tx)) rfl ?_
    exact WP.retI hP_63 rfl rfl h3

set_option maxRecDepth 20000 in
theorem b_x_terms_0 (X : mm_X) (d : Nat) (f : Nat → Int32) (fl : Nat → Int64) (g : Nat → Nat → Int32) (gl : Nat → Nat → Int64) (hh : Nat → Nat → Option Nat) (v : Nat → Value) (tx : mm_W) (p0 : Int32) (p1 : Int32)  (P : Option Value → mm_W → Prop)
    (h : ((0 ≤ p0 ∧ p0 < (3 : Int32)) → (((¬ p0 = 0) → (((¬ p0 = 1) → WP X (d + 2) 64 (36, [some (.ref 0), some (.int p0), some (.int p1), none, none], [.int 9], Wd f fl g gl hh v tx) P) ∧
        ((p0 = 1) → WP X (d + 2) 64 (36, [some (.ref 0), some (.int p0), some (.int p1), none, none], [.int 10], Wd f fl g gl hh v tx) P))) ∧
      ((p0 = 0) → WP X (d + 2) 64 (36, [some (.ref 0), some (.int p0), some (.int p1), none, none], [.int 999], Wd f fl g gl hh v tx) P))) ∧
    ((¬ (0 ≤ p0 ∧ p0 < (3 : Int32))) → P (some (.int (-1))) (Wd (va_up f 18 (-1 : Int32)) fl (va_up g 55 (upd (g 55) (1) (((g 55) 1) + (1 : Int32)))) gl hh v tx))) :
    WP X (d + 2) 64 (0, [some (.ref 0), some (.int p0), some (.int p1), none, none], [], Wd f fl g gl hh v tx) P := by
  refine WP.run hP_64 2 (c' := (2, [some (.ref 0), some (.int p0), some (.int p1), none, none], [.int 3, .int p0], Wd f fl g gl hh v tx)) rfl ?_
  refine WP.call hP_64 hP_99 (as := [.int p0, .int 3]) (pc' := 5) (L' := [some (.ref 0), some (.int p0), some (.int p1), none, none]) (st' := []) (w1 := Wd f fl g gl hh v tx) rfl ⟨Nat.le_of_ble_eq_true rfl, Nat.le_of_ble_eq_true rfl⟩ rfl (b_within_m X (d + 1) f fl g gl hh v tx p0 3 _ ?_)
  refine ⟨fun c1 => ?_, fun c1 => ?_⟩
  · have h2 := h.1 c1
    refine WP.run hP_64 2 (c' := (15, [some (.ref 0), some (.int p0), some (.int p1), none, none], [.int p0], Wd f fl g gl hh v tx)) rfl ?_
    refine WP.br hP_64 (q := ¬ p0 = 0) (t := 24) (f := 18) (L := [some (.ref 0), some (.int p0), some (.int p1), none, none]) (st := []) (w := Wd f fl g gl hh v tx) rfl (fun c3 => ?_) (fun c3 => ?_)
    · have h4 := h2.1 c3
      refine WP.run hP_64 2 (c' := (26, [some (.ref 0), some (.int p0), some (.int p1), none, none], [.int 1, .int p0], Wd f fl g gl hh v tx)) rfl ?_
      refine WP.br hP_64 (q := ¬ p0 = 1) (t := 34) (f := 29) (L := [some (.ref 0), some (.int p0), some (.int p1), none, none]) (st := []) (w := Wd f fl g gl hh v tx) rfl (fun c5 => ?_) (fun c5 => ?_)
      · have h6 := h4.1 c5
        refine WP.run hP_64 1 (c' := (36, [some (.ref 0), some (.int p0), some (.int p1), none, none], [.int 9], Wd f fl g gl hh v tx)) rfl ?_
        exact h6
      · have h7 := h4.2 (Classical.not_not.mp c5)
        refine WP.run hP_64 2 (c' := (36, [some (.ref 0), some (.int p0), some (.int p1), none, none], [.int 10], Wd f fl g gl hh v tx)) rfl ?_
        exact h7
    · have h8 := h2.2 (Classical.not_not.mp c3)
      refine WP.run hP_64 2 (c' := (36, [some (.ref 0), some (.int p0), some (.int p1), none, none], [.int 999], Wd f fl g gl hh v tx)) rfl ?_
      exact h8
  · have h9 := h.2 c1
    refine WP.run hP_64 3 (c' := (10, [some (.ref 0), some (.int p0), some (.int p1), none, none], [.int (-1), .ref 0], Wd f fl g gl hh v tx)) rfl ?_
    refine WP.call hP_64 hP_101 (as := [.ref 0, .int (-1)]) (pc' := 13) (L' := [some (.ref 0), some (.int p0), some (.int p1), none, none]) (st' := []) (w1 := Wd f fl g gl hh v tx) rfl ⟨Nat.le_of_ble_eq_true rfl, Nat.le_of_ble_eq_true rfl⟩ rfl (b_x_refused_0 X (d) f fl g gl hh v tx (-1) _ ?_)
    refine ⟨fun c10 => ?_, fun c => absurd c (by decide)⟩
    refine ⟨by decide, ?_⟩
    refine ⟨by decide, ?_⟩
    exact WP.retI hP_64 rfl rfl h9

set_option maxRecDepth 20000 in
theorem b_x_terms_36 (X : mm_X) (d : Nat) (f : Nat → Int32) (fl : Nat → Int64) (g : Nat → Nat → Int32) (gl : Nat → Nat → Int64) (hh : Nat → Nat → Option Nat) (v : Nat → Value) (tx : mm_W) (l1 : Int32) (l2 : Int32) (s0 : Int32)  (P : Option Value → mm_W → Prop)
    (h : ((l2 < 0) → P (some (.int (-1))) (Wd (va_up f 18 (-1 : Int32)) fl (va_up g 55 (upd (g 55) (1) (((g 55) 1) + (1 : Int32)))) gl hh v tx)) ∧
    ((¬ (l2 < 0)) → (((l2 ≤ s0) → ((¬ (l1 < 0 ∨ 3 ≤ l1.toNatClampNeg)) ∧ ((¬ (l1 < 0 ∨ 3 ≤ l1.toNatClampNeg)) ∧ P (some (.int ((g 8) l1.toNatClampNeg))) (Wd (va_up (va_up f 78 0) 18 0) fl (va_up g 8 (upd (g 8) (l1.toNatClampNeg) l2)) gl hh v tx)))) ∧
      ((¬ (l2 ≤ s0)) → P (some (.int (-1))) (Wd (va_up f 18 (-1 : Int32)) fl (va_up g 55 (upd (g 55) (1) (((g 55) 1) + (1 : Int32)))) gl hh v tx))))) :
    WP X (d + 2) 64 (36, [some (.ref 0), some (.int l1), some (.int l2), none, none], [.int s0], Wd f fl g gl hh v tx) P := by
  refine WP.run hP_64 2 (c' := (38, [some (.ref 0), some (.int l1), some (.int l2), some (.int s0), none], [.int l2], Wd f fl g gl hh v tx)) rfl ?_
  refine WP.br hP_64 (q := l2 < 0) (t := 46) (f := 41) (L := [some (.ref 0), some (.int l1), some (.int l2), some (.int s0), none]) (st := []) (w := Wd f fl g gl hh v tx) rfl (fun c1 => ?_) (fun c1 => ?_)
  · have h2 := h.1 c1
    refine WP.run hP_64 2 (c' := (48, [some (.ref 0), none, none, none, none], [.int (-1), .ref 0], Wd f fl g gl hh v tx)) rfl ?_
    refine WP.call hP_64 hP_101 (as := [.ref 0, .int (-1)]) (pc' := 51) (L' := [some (.ref 0), none, none, none, none]) (st' := []) (w1 := Wd f fl g gl hh v tx) rfl ⟨Nat.le_of_ble_eq_true rfl, Nat.le_of_ble_eq_true rfl⟩ rfl (b_x_refused_0 X (d) f fl g gl hh v tx (-1) _ ?_)
    refine ⟨fun c3 => ?_, fun c => absurd c (by decide)⟩
    refine ⟨by decide, ?_⟩
    refine ⟨by decide, ?_⟩
    exact WP.retI hP_64 rfl rfl h2
  · have h4 := h.2 c1
    refine WP.run hP_64 2 (c' := (43, [some (.ref 0), some (.int l1), some (.int l2), some (.int s0), none], [.int s0, .int l2], Wd f fl g gl hh v tx)) rfl ?_
    refine WP.br hP_64 (q := l2 ≤ s0) (t := 52) (f := 46) (L := [some (.ref 0), some (.int l1), some (.int l2), some (.int s0), none]) (st := []) (w := Wd f fl g gl hh v tx) rfl (fun c5 => ?_) (fun c5 => ?_)
    · have h6 := h4.1 c5
      refine WP.run hP_64 4 (c' := (60, [some (.ref 0), some (.int l1), some (.int l2), none, none], [.int l1, .ref 8], Wd f fl g gl hh v tx)) rfl ?_
      refine WP.of (fun _ _ => Ex.iald hP_64 rfl (Wa_8 _ _ _ _ _ _ _) h6.1) ?_
      have h7 := h6.2
      refine WP.run hP_64 6 (c' := (72, [some (.ref 0), some (.int l1), some (.int l2), none, some (.int ((g 8) l1.toNatClampNeg))], [.int l2, .int l1, .ref 8], Wd f fl g gl hh v tx)) rfl ?_
      refine WP.of (fun _ _ => Ex.iast hP_64 (w2 := Wd f fl (va_up g 8 (upd (g 8) (l1.toNatClampNeg) l2)) gl hh v tx) rfl (Wa_8 _ _ _ _ _ _ _) h7.1 (Ws_8 _ _ _ _ _ _ _ _)) ?_
      have h8 := h7.2
      refine WP.run hP_64 6 (c' := (84, [some (.ref 0), some (.int l1), some (.int l2), none, some (.int ((g 8) l1.toNatClampNeg))], [.int ((g 8) l1.toNatClampNeg), .ref 0], Wd (va_up f 78 0) fl (va_up g 8 (upd (g 8) (l1.toNatClampNeg) l2)) gl hh v tx)) rfl ?_
      refine WP.call hP_64 hP_100 (as := [.ref 0, .int ((g 8) l1.toNatClampNeg)]) (pc' := 87) (L' := [some (.ref 0), some (.int l1), some (.int l2), none, some (.int ((g 8) l1.toNatClampNeg))]) (st' := []) (w1 := Wd (va_up f 78 0) fl (va_up g 8 (upd (g 8) (l1.toNatClampNeg) l2)) gl hh v tx) rfl ⟨Nat.le_of_ble_eq_true rfl, Nat.le_of_ble_eq_true rfl⟩ rfl (b_x_accepted_0 X (d + 1) (va_up f 78 0) fl (va_up g 8 (upd (g 8) (l1.toNatClampNeg) l2)) gl hh v tx ((g 8) l1.toNatClampNeg) _ ?_)
      exact WP.retI hP_64 rfl rfl h8
    · have h9 := h4.2 c5
      refine WP.run hP_64 2 (c' := (48, [some (.ref 0), none, none, none, none], [.int (-1), .ref 0], Wd f fl g gl hh v tx)) rfl ?_
      refine WP.call hP_64 hP_101 (as := [.ref 0, .int (-1)]) (pc' := 51) (L' := [some (.ref 0), none, none, none, none]) (st' := []) (w1 := Wd f fl g gl hh v tx) rfl ⟨Nat.le_of_ble_eq_true rfl, Nat.le_of_ble_eq_true rfl⟩ rfl (b_x_refused_0 X (d) f fl g gl hh v tx (-1) _ ?_)
      refine ⟨fun c10 => ?_, fun c => absurd c (by decide)⟩
      refine ⟨by decide, ?_⟩
      refine ⟨by decide, ?_⟩
      exact WP.retI hP_64 rfl rfl h9

set_option maxRecDepth 20000 in
theorem b_x_append_0 (X : mm_X) (d : Nat) (f : Nat → Int32) (fl : Nat → Int64) (g : Nat → Nat → Int32) (gl : Nat → Nat → Int64) (hh : Nat → Nat → Option Nat) (v : Nat → Value) (tx : mm_W) (p0 : Int32)  (P : Option Value → mm_W → Prop)
    (h : WP X (d) 103 (3, [some (.ref 0), some (.int p0), some (.int 24)], [], Wd f fl g gl hh v tx) P) :
    WP X (d) 103 (0, [some (.ref 0), some (.int p0), none], [], Wd f fl g gl hh v tx) P := by
  refine WP.run hP_103 2 (c' := (3, [some (.ref 0), some (.int p0), some (.int 24)], [], Wd f fl g gl hh v tx)) rfl ?_
  exact h

set_option maxRecDepth 20000 in
theorem b_x_append_3 (X : mm_X) (d : Nat) (f : Nat → Int32) (fl : Nat → Int64) (g : Nat → Nat → Int32) (gl : Nat → Nat → Int64) (hh : Nat → Nat → Option Nat) (v : Nat → Value) (tx : mm_W) (l1 : Int32) (l2 : Int32)  (P : Option Value → mm_W → Prop)
    (h : ((l2 < 0) → P none (Wd f fl g gl hh v tx)) ∧
    ((¬ (l2 < 0)) → (((400 ≤ (f 6)) → P none (Wd f fl g gl hh v tx)) ∧
      ((¬ (400 ≤ (f 6))) → ((¬ ((f 6) < 0 ∨ 400 ≤ (f 6).toNatClampNeg)) ∧ WP X (d) 103 (3, [some (.ref 0), some (.int l1), some (.int (l2 + (-8 : Int32)))], [], Wd (va_up f 6 ((f 6) + (1 : Int32))) fl (va_up g 30 (upd (g 30) ((f 6).toNatClampNeg) (((l1 >>> (l2 &&& (31 : Int32))) : Int32) &&& (255 : Int32)))) gl hh v tx) P))))) :
    WP X (d) 103 (3, [some (.ref 0), some (.int l1), some (.int l2)], [], Wd f fl g gl hh v tx) P := by
  refine WP.run hP_103 1 (c' := (4, [some (.ref 0), some (.int l1), some (.int l2)], [.int l2], Wd f fl g gl hh v tx)) rfl ?_
  refine WP.br hP_103 (q := l2 < 0) (t := 49) (f := 7) (L := [some (.ref 0), some (.int l1), some (.int l2)]) (st := []) (w := Wd f fl g gl hh v tx) rfl (fun c1 => ?_) (fun c1 => ?_)
  · have h2 := h.1 c1
    exact WP.ret hP_103 (r := none) (w' := Wd f fl g gl hh v tx) rfl h2
  · have h3 := h.2 c1
    refine WP.run hP_103 3 (c' := (14, [some (.ref 0), some (.int l1), some (.int l2)], [.int 400, .int (f 6)], Wd f fl g gl hh v tx)) rfl ?_
    refine WP.br hP_103 (q := 400 ≤ (f 6)) (t := 49) (f := 17) (L := [some (.ref 0), some (.int l1), some (.int l2)]) (st := []) (w := Wd f fl g gl hh v tx) rfl (fun c4 => ?_) (fun c4 => ?_)
    · have h5 := h3.1 c4
      exact WP.ret hP_103 (r := none) (w' := Wd f fl g gl hh v tx) rfl h5
    · have h6 := h3.2 c4
      refine WP.run hP_103 9 (c' := (32, [some (.ref 0), some (.int l1), some (.int l2)], [.int (((l1 >>> (l2 &&& (31 : Int32))) : Int32) &&& (255 : Int32)), .int (f 6), .ref 30], Wd f fl g gl hh v tx)) rfl ?_
      refine WP.of (fun _ _ => Ex.iast hP_103 (w2 := Wd f fl (va_up g 30 (upd (g 30) ((f 6).toNatClampNeg) (((l1 >>> (l2 &&& (31 : Int32))) : Int32) &&& (255 : Int32)))) gl hh v tx) rfl (Wa_30 _ _ _ _ _ _ _) h6.1 (Ws_30 _ _ _ _ _ _ _ _)) ?_
      have h7 := h6.2
      refine WP.run hP_103 8 (c' := (3, [some (.ref 0), some (.int l1), some (.int (l2 + (-8 : Int32)))], [], Wd (va_up f 6 ((f 6) + (1 : Int32))) fl (va_up g 30 (upd (g 30) ((f 6).toNatClampNeg) (((l1 >>> (l2 &&& (31 : Int32))) : Int32) &&& (255 : Int32)))) gl hh v tx)) rfl ?_
      exact h7

set_option maxRecDepth 20000 in
theorem b_x_feed_0 (X : mm_X) (d : Nat) (f : Nat → Int32) (fl : Nat → Int64) (g : Nat → Nat → Int32) (gl : Nat → Nat → Int64) (hh : Nat → Nat → Option Nat) (v : Nat → Value) (tx : mm_W) (p0 : Int32) (p1 : Int32) (p2 : Int32) (p3 : Int32) (p4 : Int32)  (P : Option Value → mm_W → Prop)
    (h : ((((f 6) + (20 : Int32)) ≤ 400) → WP X (d) 103 (0, [some (.ref 0), some (.int p0), none], [], Wd f fl g gl hh v tx) (fun rv w2 => WP X (d + 1) 65 (20, [some (.ref 0), some (.int p0), some (.int p1), some (.int p2), some (.int p3), some (.int p4)], rv.toList ++ [], w2) P)) ∧
    ((¬ (((f 6) + (20 : Int32)) ≤ 400)) → P (some (.int (-1))) (Wd f fl g gl hh v tx))) :
    WP X (d + 1) 65 (0, [some (.ref 0), some (.int p0), some (.int p1), some (.int p2), some (.int p3), some (.int p4)], [], Wd f fl g gl hh v tx) P := by
  refine WP.run hP_65 5 (c' := (10, [some (.ref 0), some (.int p0), some (.int p1), some (.int p2), some (.int p3), some (.int p4)], [.int 400, .int ((f 6) + (20 : Int32))], Wd f fl g gl hh v tx)) rfl ?_
  refine WP.br hP_65 (q := ((f 6) + (20 : Int32)) ≤ 400) (t := 15) (f := 13) (L := [some (.ref 0), some (.int p0), some (.int p1), some (.int p2), some (.int p3), some (.int p4)]) (st := []) (w := Wd f fl g gl hh v tx) rfl (fun c1 => ?_) (fun c1 => ?_)
  · have h2 := h.1 c1
    refine WP.run hP_65 2 (c' := (17, [some (.ref 0), some (.int p0), some (.int p1), some (.int p2), some (.int p3), some (.int p4)], [.int p0, .ref 0], Wd f fl g gl hh v tx)) rfl ?_
    refine WP.call hP_65 hP_103 (as := [.ref 0, .int p0]) (pc' := 20) (L' := [some (.ref 0), some (.int p0), some (.int p1), some (.int p2), some (.int p3), some (.int p4)]) (st' := []) (w1 := Wd f fl g gl hh v tx) rfl ⟨Nat.le_of_ble_eq_true rfl, Nat.le_of_ble_eq_true rfl⟩ rfl ?_
    exact h2
  · have h3 := h.2 c1
    refine WP.run hP_65 1 (c' := (14, [some (.ref 0), some (.int p0), some (.int p1), some (.int p2), some (.int p3), some (.int p4)], [.int (-1)], Wd f fl g gl hh v tx)) rfl ?_
    exact WP.retI hP_65 rfl rfl h3

set_option maxRecDepth 20000 in
theorem b_x_feed_20 (X : mm_X) (d : Nat) (f : Nat → Int32) (fl : Nat → Int64) (g : Nat → Nat → Int32) (gl : Nat → Nat → Int64) (hh : Nat → Nat → Option Nat) (v : Nat → Value) (tx : mm_W) (l1 : Int32) (l2 : Int32) (l3 : Int32) (l4 : Int32) (l5 : Int32)  (P : Option Value → mm_W → Prop)
    (h : WP X (d) 103 (0, [some (.ref 0), some (.int l2), none], [], Wd f fl g gl hh v tx) (fun rv w2 => WP X (d + 1) 65 (25, [some (.ref 0), some (.int l1), some (.int l2), some (.int l3), some (.int l4), some (.int l5)], rv.toList ++ [], w2) P)) :
    WP X (d + 1) 65 (20, [some (.ref 0), some (.int l1), some (.int l2), some (.int l3), some (.int l4), some (.int l5)], [], Wd f fl g gl hh v tx) P := by
  refine WP.run hP_65 2 (c' := (22, [some (.ref 0), some (.int l1), some (.int l2), some (.int l3), some (.int l4), some (.int l5)], [.int l2, .ref 0], Wd f fl g gl hh v tx)) rfl ?_
  refine WP.call hP_65 hP_103 (as := [.ref 0, .int l2]) (pc' := 25) (L' := [some (.ref 0), some (.int l1), some (.int l2), some (.int l3), some (.int l4), some (.int l5)]) (st' := []) (w1 := Wd f fl g gl hh v tx) rfl ⟨Nat.le_of_ble_eq_true rfl, Nat.le_of_ble_eq_true rfl⟩ rfl ?_
  exact h

set_option maxRecDepth 20000 in
theorem b_x_feed_25 (X : mm_X) (d : Nat) (f : Nat → Int32) (fl : Nat → Int64) (g : Nat → Nat → Int32) (gl : Nat → Nat → Int64) (hh : Nat → Nat → Option Nat) (v : Nat → Value) (tx : mm_W) (l1 : Int32) (l2 : Int32) (l3 : Int32) (l4 : Int32) (l5 : Int32)  (P : Option Value → mm_W → Prop)
    (h : WP X (d) 103 (0, [some (.ref 0), some (.int l3), none], [], Wd f fl g gl hh v tx) (fun rv w2 => WP X (d + 1) 65 (30, [some (.ref 0), some (.int l1), some (.int l2), some (.int l3), some (.int l4), some (.int l5)], rv.toList ++ [], w2) P)) :
    WP X (d + 1) 65 (25, [some (.ref 0), some (.int l1), some (.int l2), some (.int l3), some (.int l4), some (.int l5)], [], Wd f fl g gl hh v tx) P := by
  refine WP.run hP_65 2 (c' := (27, [some (.ref 0), some (.int l1), some (.int l2), some (.int l3), some (.int l4), some (.int l5)], [.int l3, .ref 0], Wd f fl g gl hh v tx)) rfl ?_
  refine WP.call hP_65 hP_103 (as := [.ref 0, .int l3]) (pc' := 30) (L' := [some (.ref 0), some (.int l1), some (.int l2), some (.int l3), some (.int l4), some (.int l5)]) (st' := []) (w1 := Wd f fl g gl hh v tx) rfl ⟨Nat.le_of_ble_eq_true rfl, Nat.le_of_ble_eq_true rfl⟩ rfl ?_
  exact h

set_option maxRecDepth 20000 in
theorem b_x_feed_30 (X : mm_X) (d : Nat) (f : Nat → Int32) (fl : Nat → Int64) (g : Nat → Nat → Int32) (gl : Nat → Nat → Int64) (hh : Nat → Nat → Option Nat) (v : Nat → Value) (tx : mm_W) (l1 : Int32) (l2 : Int32) (l3 : Int32) (l4 : Int32) (l5 : Int32)  (P : Option Value → mm_W → Prop)
    (h : WP X (d) 103 (0, [some (.ref 0), some (.int l4), none], [], Wd f fl g gl hh v tx) (fun rv w2 => WP X (d + 1) 65 (36, [some (.ref 0), some (.int l1), some (.int l2), some (.int l3), some (.int l4), some (.int l5)], rv.toList ++ [], w2) P)) :
    WP X (d + 1) 65 (30, [some (.ref 0), some (.int l1), some (.int l2), some (.int l3), some (.int l4), some (.int l5)], [], Wd f fl g gl hh v tx) P := by
  refine WP.run hP_65 2 (c' := (33, [some (.ref 0), some (.int l1), some (.int l2), some (.int l3), some (.int l4), some (.int l5)], [.int l4, .ref 0], Wd f fl g gl hh v tx)) rfl ?_
  refine WP.call hP_65 hP_103 (as := [.ref 0, .int l4]) (pc' := 36) (L' := [some (.ref 0), some (.int l1), some (.int l2), some (.int l3), some (.int l4), some (.int l5)]) (st' := []) (w1 := Wd f fl g gl hh v tx) rfl ⟨Nat.le_of_ble_eq_true rfl, Nat.le_of_ble_eq_true rfl⟩ rfl ?_
  exact h

set_option maxRecDepth 20000 in
theorem b_x_feed_36 (X : mm_X) (d : Nat) (f : Nat → Int32) (fl : Nat → Int64) (g : Nat → Nat → Int32) (gl : Nat → Nat → Int64) (hh : Nat → Nat → Option Nat) (v : Nat → Value) (tx : mm_W) (l1 : Int32) (l2 : Int32) (l3 : Int32) (l4 : Int32) (l5 : Int32)  (P : Option Value → mm_W → Prop)
    (h : WP X (d) 103 (0, [some (.ref 0), some (.int l5), none], [], Wd f fl g gl hh v tx) (fun rv w2 => WP X (d + 1) 65 (42, [some (.ref 0), some (.int l1), some (.int l2), some (.int l3), some (.int l4), some (.int l5)], rv.toList ++ [], w2) P)) :
    WP X (d + 1) 65 (36, [some (.ref 0), some (.int l1), some (.int l2), some (.int l3), some (.int l4), some (.int l5)], [], Wd f fl g gl hh v tx) P := by
  refine WP.run hP_65 2 (c' := (39, [some (.ref 0), some (.int l1), some (.int l2), some (.int l3), some (.int l4), some (.int l5)], [.int l5, .ref 0], Wd f fl g gl hh v tx)) rfl ?_
  refine WP.call hP_65 hP_103 (as := [.ref 0, .int l5]) (pc' := 42) (L' := [some (.ref 0), some (.int l1), some (.int l2), some (.int l3), some (.int l4), some (.int l5)]) (st' := []) (w1 := Wd f fl g gl hh v tx) rfl ⟨Nat.le_of_ble_eq_true rfl, Nat.le_of_ble_eq_true rfl⟩ rfl ?_
  exact h

set_option maxRecDepth 20000 in
theorem b_x_feed_42 (X : mm_X) (d : Nat) (f : Nat → Int32) (fl : Nat → Int64) (g : Nat → Nat → Int32) (gl : Nat → Nat → Int64) (hh : Nat → Nat → Option Nat) (v : Nat → Value) (tx : mm_W) (l1 : Int32) (l2 : Int32) (l3 : Int32) (l4 : Int32) (l5 : Int32)  (P : Option Value → mm_W → Prop)
    (h : P (some (.int (f 6))) (Wd f fl g gl hh v tx)) :
    WP X (d) 65 (42, [some (.ref 0), some (.int l1), some (.int l2), some (.int l3), some (.int l4), some (.int l5)], [], Wd f fl g gl hh v tx) P := by
  refine WP.run hP_65 2 (c' := (46, [some (.ref 0), some (.int l1), some (.int l2), some (.int l3), some (.int l4), some (.int l5)], [.int (f 6)], Wd f fl g gl hh v tx)) rfl ?_
  exact WP.retI hP_65 rfl rfl h

set_option maxRecDepth 20000 in
theorem b_x_end_0 (X : mm_X) (d : Nat) (f : Nat → Int32) (fl : Nat → Int64) (g : Nat → Nat → Int32) (gl : Nat → Nat → Int64) (hh : Nat → Nat → Option Nat) (v : Nat → Value) (tx : mm_W) (p0 : Int32)  (P : Option Value → mm_W → Prop)
    (h : ((p0 < 0) → P (some (.int (-1))) (Wd f fl g gl hh v tx)) ∧
    ((¬ (p0 < 0)) → (((p0 ≤ (f 6)) → P (some (.int p0)) (Wd (va_up f 6 p0) fl g gl hh v tx)) ∧
      ((¬ (p0 ≤ (f 6))) → P (some (.int (-1))) (Wd f fl g gl hh v tx))))) :
    WP X (d) 66 (0, [some (.ref 0), some (.int p0)], [], Wd f fl g gl hh v tx) P := by
  refine WP.run hP_66 1 (c' := (1, [some (.ref 0), some (.int p0)], [.int p0], Wd f fl g gl hh v tx)) rfl ?_
  refine WP.br hP_66 (q := p0 < 0) (t := 12) (f := 4) (L := [some (.ref 0), some (.int p0)]) (st := []) (w := Wd f fl g gl hh v tx) rfl (fun c1 => ?_) (fun c1 => ?_)
  · have h2 := h.1 c1
    refine WP.run hP_66 1 (c' := (13, [none, none], [.int (-1)], Wd f fl g gl hh v tx)) rfl ?_
    exact WP.retI hP_66 rfl rfl h2
  · have h3 := h.2 c1
    refine WP.run hP_66 3 (c' := (9, [some (.ref 0), some (.int p0)], [.int (f 6), .int p0], Wd f fl g gl hh v tx)) rfl ?_
    refine WP.br hP_66 (q := p0 ≤ (f 6)) (t := 14) (f := 12) (L := [some (.ref 0), some (.int p0)]) (st := []) (w := Wd f fl g gl hh v tx) rfl (fun c4 => ?_) (fun c4 => ?_)
    · have h5 := h3.1 c4
      refine WP.run hP_66 4 (c' := (20, [some (.ref 0), some (.int p0)], [.int p0], Wd (va_up f 6 p0) fl g gl hh v tx)) rfl ?_
      exact WP.retI hP_66 rfl rfl h5
    · have h6 := h3.2 c4
      refine WP.run hP_66 1 (c' := (13, [none, none], [.int (-1)], Wd f fl g gl hh v tx)) rfl ?_
      exact WP.retI hP_66 rfl rfl h6

set_option maxRecDepth 20000 in
theorem b_x_row_0 (X : mm_X) (d : Nat) (f : Nat → Int32) (fl : Nat → Int64) (g : Nat → Nat → Int32) (gl : Nat → Nat → Int64) (hh : Nat → Nat → Option Nat) (v : Nat → Value) (tx : mm_W)   (P : Option Value → mm_W → Prop)
    (h : ((¬ (f 6) = 0) → WP X (d + 2) 67 (23, [some (.ref 0), some (.int 0), some (.int 0), none, none], [], Wd (va_up f 15 0) fl g gl hh v tx) P) ∧
    (((f 6) = 0) → P (some (.int (-6))) (Wd (va_up f 18 (-6 : Int32)) fl (va_up g 55 (upd (g 55) (6) (((g 55) 6) + (1 : Int32)))) gl hh v tx))) :
    WP X (d + 2) 67 (0, [some (.ref 0), none, none, none, none], [], Wd f fl g gl hh v tx) P := by
  refine WP.run hP_67 2 (c' := (4, [some (.ref 0), none, none, none, none], [.int (f 6)], Wd f fl g gl hh v tx)) rfl ?_
  refine WP.br hP_67 (q := ¬ (f 6) = 0) (t := 14) (f := 7) (L := [some (.ref 0), none, none, none, none]) (st := []) (w := Wd f fl g gl hh v tx) rfl (fun c1 => ?_) (fun c1 => ?_)
  · have h2 := h.1 c1
    refine WP.run hP_67 1 (c' := (15, [some (.ref 0), none, none, none, none], [.int 0], Wd f fl g gl hh v tx)) rfl ?_
    refine WP.run hP_67 5 (c' := (22, [some (.ref 0), some (.int 0), none, none, none], [.int 0], Wd (va_up f 15 0) fl g gl hh v tx)) rfl ?_
    refine WP.run hP_67 1 (c' := (23, [some (.ref 0), some (.int 0), some (.int 0), none, none], [], Wd (va_up f 15 0) fl g gl hh v tx)) rfl ?_
    exact h2
  · have h3 := h.2 (Classical.not_not.mp c1)
    refine WP.run hP_67 2 (c' := (10, [some (.ref 0), none, none, none, none], [.int (-6), .ref 0], Wd f fl g gl hh v tx)) rfl ?_
    refine WP.call hP_67 hP_101 (as := [.ref 0, .int (-6)]) (pc' := 13) (L' := [some (.ref 0), none, none, none, none]) (st' := []) (w1 := Wd f fl g gl hh v tx) rfl ⟨Nat.le_of_ble_eq_true rfl, Nat.le_of_ble_eq_true rfl⟩ rfl (b_x_refused_0 X (d) f fl g gl hh v tx (-6) _ ?_)
    refine ⟨fun c4 => ?_, fun c => absurd c (by decide)⟩
    refine ⟨by decide, ?_⟩
    refine ⟨by decide, ?_⟩
    exact WP.retI hP_67 rfl rfl h3

set_option maxRecDepth 20000 in
theorem b_x_row_23 (X : mm_X) (d : Nat) (f : Nat → Int32) (fl : Nat → Int64) (g : Nat → Nat → Int32) (gl : Nat → Nat → Int64) (hh : Nat → Nat → Option Nat) (v : Nat → Value) (tx : mm_W) (l1 : Int32) (l2 : Int32)  (P : Option Value → mm_W → Prop)
    (h : (((f 6) ≤ l2) → P (some (.int l1)) (Wd (va_up (va_up f 6 0) 18 0) fl g gl hh v tx)) ∧
    ((¬ ((f 6) ≤ l2)) → ((((f 6) < (l2 + (5 : Int32))) → WP X (d + 1) 67 (23, [some (.ref 0), some (.int l1), some (.int (l2 + (5 : Int32))), none, none], [], Wd (va_up f 15 ((f 15) + (1 : Int32))) fl g gl hh v tx) P) ∧
      ((¬ ((f 6) < (l2 + (5 : Int32)))) → ((¬ ((l2 + (1 : Int32)) < 0 ∨ 400 ≤ (l2 + (1 : Int32)).toNatClampNeg)) ∧ ((¬ ((l2 + (2 : Int32)) < 0 ∨ 400 ≤ (l2 + (2 : Int32)).toNatClampNeg)) ∧ ((¬ ((l2 + (3 : Int32)) < 0 ∨ 400 ≤ (l2 + (3 : Int32)).toNatClampNeg)) ∧ ((¬ ((l2 + (4 : Int32)) < 0 ∨ 400 ≤ (l2 + (4 : Int32)).toNatClampNeg)) ∧ ((¬ (l2 < 0 ∨ 400 ≤ l2.toNatClampNeg)) ∧ WP X (d) 47 (0, [some (.ref 1), some (.int ((g 30) l2.toNatClampNeg)), some (.int (((((((g 30) (l2 + (1 : Int32)).toNatClampNeg) <<< ((24 : Int32) &&& (31 : Int32))) : Int32) ||| ((((g 30) (l2 + (2 : Int32)).toNatClampNeg) <<< ((16 : Int32) &&& (31 : Int32))) : Int32)) ||| ((((g 30) (l2 + (3 : Int32)).toNatClampNeg) <<< ((8 : Int32) &&& (31 : Int32))) : Int32)) ||| ((g 30) (l2 + (4 : Int32)).toNatClampNeg))), none, none, none, none], [], Wd f fl g gl hh v tx) (fun rv w2 => WP X (d + 1) 67 (105, [some (.ref 0), some (.int l1), some (.int l2), some (.int (-6)), some (.int (((((((g 30) (l2 + (1 : Int32)).toNatClampNeg) <<< ((24 : Int32) &&& (31 : Int32))) : Int32) ||| ((((g 30) (l2 + (2 : Int32)).toNatClampNeg) <<< ((16 : Int32) &&& (31 : Int32))) : Int32)) ||| ((((g 30) (l2 + (3 : Int32)).toNatClampNeg) <<< ((8 : Int32) &&& (31 : Int32))) : Int32)) ||| ((g 30) (l2 + (4 : Int32)).toNatClampNeg)))], rv.toList ++ [], w2) P)))))))))) :
    WP X (d + 1) 67 (23, [some (.ref 0), some (.int l1), some (.int l2), none, none], [], Wd f fl g gl hh v tx) P := by
  refine WP.run hP_67 3 (c' := (28, [some (.ref 0), some (.int l1), some (.int l2), none, none], [.int (f 6), .int l2], Wd f fl g gl hh v tx)) rfl ?_
  refine WP.br hP_67 (q := (f 6) ≤ l2) (t := 132) (f := 31) (L := [some (.ref 0), some (.int l1), some (.int l2), none, none]) (st := []) (w := Wd f fl g gl hh v tx) rfl (fun c1 => ?_) (fun c1 => ?_)
  · have h2 := h.1 c1
    refine WP.run hP_67 5 (c' := (139, [some (.ref 0), some (.int l1), none, none, none], [.int l1, .ref 0], Wd (va_up f 6 0) fl g gl hh v tx)) rfl ?_
    refine WP.call hP_67 hP_100 (as := [.ref 0, .int l1]) (pc' := 142) (L' := [some (.ref 0), some (.int l1), none, none, none]) (st' := []) (w1 := Wd (va_up f 6 0) fl g gl hh v tx) rfl ⟨Nat.le_of_ble_eq_true rfl, Nat.le_of_ble_eq_true rfl⟩ rfl (b_x_accepted_0 X (d) (va_up f 6 0) fl g gl hh v tx l1 _ ?_)
    exact WP.retI hP_67 rfl rfl h2
  · have h3 := h.2 c1
    refine WP.run hP_67 7 (c' := (41, [some (.ref 0), some (.int l1), some (.int l2), some (.int (-6)), none], [.int (f 6), .int (l2 + (5 : Int32))], Wd f fl g gl hh v tx)) rfl ?_
    refine WP.br hP_67 (q := (f 6) < (l2 + (5 : Int32))) (t := 106) (f := 44) (L := [some (.ref 0), some (.int l1), some (.int l2), some (.int (-6)), none]) (st := []) (w := Wd f fl g gl hh v tx) rfl (fun c4 => ?_) (fun c4 => ?_)
    · have h5 := h3.1 c4
      refine WP.run hP_67 9 (c' := (126, [some (.ref 0), some (.int l1), some (.int l2), some (.int (-6)), none], [], Wd (va_up f 15 ((f 15) + (1 : Int32))) fl g gl hh v tx)) rfl ?_
      refine WP.run hP_67 2 (c' := (23, [some (.ref 0), some (.int l1), some (.int (l2 + (5 : Int32))), none, none], [], Wd (va_up f 15 ((f 15) + (1 : Int32))) fl g gl hh v tx)) rfl ?_
      exact h5
    · have h6 := h3.2 c4
      refine WP.run hP_67 5 (c' := (51, [some (.ref 0), some (.int l1), some (.int l2), some (.int (-6)), none], [.int (l2 + (1 : Int32)), .ref 30], Wd f fl g gl hh v tx)) rfl ?_
      refine WP.of (fun _ _ => Ex.iald hP_67 rfl (Wa_30 _ _ _ _ _ _ _) h6.1) ?_
      have h7 := h6.2
      refine WP.run hP_67 7 (c' := (62, [some (.ref 0), some (.int l1), some (.int l2), some (.int (-6)), none], [.int (l2 + (2 : Int32)), .ref 30, .int ((((g 30) (l2 + (1 : Int32)).toNatClampNeg) <<< ((24 : Int32) &&& (31 : Int32))) : Int32)], Wd f fl g gl hh v tx)) rfl ?_
      refine WP.of (fun _ _ => Ex.iald hP_67 rfl (Wa_30 _ _ _ _ _ _ _) h7.1) ?_
      have h8 := h7.2
      refine WP.run hP_67 8 (c' := (74, [some (.ref 0), some (.int l1), some (.int l2), some (.int (-6)), none], [.int (l2 + (3 : Int32)), .ref 30, .int (((((g 30) (l2 + (1 : Int32)).toNatClampNeg) <<< ((24 : Int32) &&& (31 : Int32))) : Int32) ||| ((((g 30) (l2 + (2 : Int32)).toNatClampNeg) <<< ((16 : Int32) &&& (31 : Int32))) : Int32))], Wd f fl g gl hh v tx)) rfl ?_
      refine WP.of (fun _ _ => Ex.iald hP_67 rfl (Wa_30 _ _ _ _ _ _ _) h8.1) ?_
      have h9 := h8.2
      refine WP.run hP_67 8 (c' := (86, [some (.ref 0), some (.int l1), some (.int l2), some (.int (-6)), none], [.int (l2 + (4 : Int32)), .ref 30, .int ((((((g 30) (l2 + (1 : Int32)).toNatClampNeg) <<< ((24 : Int32) &&& (31 : Int32))) : Int32) ||| ((((g 30) (l2 + (2 : Int32)).toNatClampNeg) <<< ((16 : Int32) &&& (31 : Int32))) : Int32)) ||| ((((g 30) (l2 + (3 : Int32)).toNatClampNeg) <<< ((8 : Int32) &&& (31 : Int32))) : Int32))], Wd f fl g gl hh v tx)) rfl ?_
      refine WP.of (fun _ _ => Ex.iald hP_67 rfl (Wa_30 _ _ _ _ _ _ _) h9.1) ?_
      have h10 := h9.2
      refine WP.run hP_67 7 (c' := (99, [some (.ref 0), some (.int l1), some (.int l2), some (.int (-6)), some (.int (((((((g 30) (l2 + (1 : Int32)).toNatClampNeg) <<< ((24 : Int32) &&& (31 : Int32))) : Int32) ||| ((((g 30) (l2 + (2 : Int32)).toNatClampNeg) <<< ((16 : Int32) &&& (31 : Int32))) : Int32)) ||| ((((g 30) (l2 + (3 : Int32)).toNatClampNeg) <<< ((8 : Int32) &&& (31 : Int32))) : Int32)) ||| ((g 30) (l2 + (4 : Int32)).toNatClampNeg)))], [.int l2, .ref 30, .ref 1], Wd f fl g gl hh v tx)) rfl ?_
      refine WP.of (fun _ _ => Ex.iald hP_67 rfl (Wa_30 _ _ _ _ _ _ _) h10.1) ?_
      have h11 := h10.2
      refine WP.run hP_67 1 (c' := (102, [some (.ref 0), some (.int l1), some (.int l2), some (.int (-6)), some (.int (((((((g 30) (l2 + (1 : Int32)).toNatClampNeg) <<< ((24 : Int32) &&& (31 : Int32))) : Int32) ||| ((((g 30) (l2 + (2 : Int32)).toNatClampNeg) <<< ((16 : Int32) &&& (31 : Int32))) : Int32)) ||| ((((g 30) (l2 + (3 : Int32)).toNatClampNeg) <<< ((8 : Int32) &&& (31 : Int32))) : Int32)) ||| ((g 30) (l2 + (4 : Int32)).toNatClampNeg)))], [.int (((((((g 30) (l2 + (1 : Int32)).toNatClampNeg) <<< ((24 : Int32) &&& (31 : Int32))) : Int32) ||| ((((g 30) (l2 + (2 : Int32)).toNatClampNeg) <<< ((16 : Int32) &&& (31 : Int32))) : Int32)) ||| ((((g 30) (l2 + (3 : Int32)).toNatClampNeg) <<< ((8 : Int32) &&& (31 : Int32))) : Int32)) ||| ((g 30) (l2 + (4 : Int32)).toNatClampNeg)), .int ((g 30) l2.toNatClampNeg), .ref 1], Wd f fl g gl hh v tx)) rfl ?_
      refine WP.call hP_67 hP_47 (as := [.ref 1, .int ((g 30) l2.toNatClampNeg), .int (((((((g 30) (l2 + (1 : Int32)).toNatClampNeg) <<< ((24 : Int32) &&& (31 : Int32))) : Int32) ||| ((((g 30) (l2 + (2 : Int32)).toNatClampNeg) <<< ((16 : Int32) &&& (31 : Int32))) : Int32)) ||| ((((g 30) (l2 + (3 : Int32)).toNatClampNeg) <<< ((8 : Int32) &&& (31 : Int32))) : Int32)) ||| ((g 30) (l2 + (4 : Int32)).toNatClampNeg))]) (pc' := 105) (L' := [some (.ref 0), some (.int l1), some (.int l2), some (.int (-6)), some (.int (((((((g 30) (l2 + (1 : Int32)).toNatClampNeg) <<< ((24 : Int32) &&& (31 : Int32))) : Int32) ||| ((((g 30) (l2 + (2 : Int32)).toNatClampNeg) <<< ((16 : Int32) &&& (31 : Int32))) : Int32)) ||| ((((g 30) (l2 + (3 : Int32)).toNatClampNeg) <<< ((8 : Int32) &&& (31 : Int32))) : Int32)) ||| ((g 30) (l2 + (4 : Int32)).toNatClampNeg)))]) (st' := []) (w1 := Wd f fl g gl hh v tx) rfl ⟨Nat.le_of_ble_eq_true rfl, Nat.le_of_ble_eq_true rfl⟩ rfl ?_
      exact h11

set_option maxRecDepth 20000 in
theorem b_x_row_105 (X : mm_X) (d : Nat) (f : Nat → Int32) (fl : Nat → Int64) (g : Nat → Nat → Int32) (gl : Nat → Nat → Int64) (hh : Nat → Nat → Option Nat) (v : Nat → Value) (tx : mm_W) (l1 : Int32) (l2 : Int32) (l3 : Int32) (l4 : Int32) (s0 : Int32)  (P : Option Value → mm_W → Prop)
    (h : ((0 ≤ s0) → WP X (d) 67 (23, [some (.ref 0), some (.int (l1 + (1 : Int32))), some (.int (l2 + (5 : Int32))), none, none], [], Wd f fl g gl hh v tx) P) ∧
    ((¬ (0 ≤ s0)) → WP X (d) 67 (23, [some (.ref 0), some (.int l1), some (.int (l2 + (5 : Int32))), none, none], [], Wd (va_up f 15 ((f 15) + (1 : Int32))) fl g gl hh v tx) P)) :
    WP X (d) 67 (105, [some (.ref 0), some (.int l1), some (.int l2), some (.int l3), some (.int l4)], [.int s0], Wd f fl g gl hh v tx) P := by
  refine WP.run hP_67 1 (c' := (106, [some (.ref 0), some (.int l1), some (.int l2), some (.int s0), some (.int l4)], [], Wd f fl g gl hh v tx)) rfl ?_
  refine WP.run hP_67 1 (c' := (107, [some (.ref 0), some (.int l1), some (.int l2), some (.int s0), none], [.int s0], Wd f fl g gl hh v tx)) rfl ?_
  refine WP.br hP_67 (q := 0 ≤ s0) (t := 123) (f := 110) (L := [some (.ref 0), some (.int l1), some (.int l2), some (.int s0), none]) (st := []) (w := Wd f fl g gl hh v tx) rfl (fun c1 => ?_) (fun c1 => ?_)
  · have h2 := h.1 c1
    refine WP.run hP_67 1 (c' := (126, [some (.ref 0), some (.int (l1 + (1 : Int32))), some (.int l2), none, none], [], Wd f fl g gl hh v tx)) rfl ?_
    refine WP.run hP_67 2 (c' := (23, [some (.ref 0), some (.int (l1 + (1 : Int32))), some (.int (l2 + (5 : Int32))), none, none], [], Wd f fl g gl hh v tx)) rfl ?_
    exact h2
  · have h3 := h.2 c1
    refine WP.run hP_67 9 (c' := (23, [some (.ref 0), some (.int l1), some (.int (l2 + (5 : Int32))), none, none], [], Wd (va_up f 15 ((f 15) + (1 : Int32))) fl g gl hh v tx)) rfl ?_
    exact h3

set_option maxRecDepth 20000 in
theorem b_x_soap_0 (X : mm_X) (d : Nat) (f : Nat → Int32) (fl : Nat → Int64) (g : Nat → Nat → Int32) (gl : Nat → Nat → Int64) (hh : Nat → Nat → Option Nat) (v : Nat → Value) (tx : mm_W)   (P : Option Value → mm_W → Prop)
    (h : P (some (.int (f 15))) (Wd f fl g gl hh v tx)) :
    WP X (d) 68 (0, [some (.ref 0)], [], Wd f fl g gl hh v tx) P := by
  refine WP.run hP_68 2 (c' := (4, [some (.ref 0)], [.int (f 15)], Wd f fl g gl hh v tx)) rfl ?_
  exact WP.retI hP_68 rfl rfl h

set_option maxRecDepth 20000 in
theorem b_x_law_0 (X : mm_X) (d : Nat) (f : Nat → Int32) (fl : Nat → Int64) (g : Nat → Nat → Int32) (gl : Nat → Nat → Int64) (hh : Nat → Nat → Option Nat) (v : Nat → Value) (tx : mm_W)   (P : Option Value → mm_W → Prop)
    (h : (((f 74) < 6) → WP X (d + 1) 33 (0, [some (.ref 31), some (.ref 30), some (.int (f 6)), some (.int 0), none, none, none, none, none, none], [], Wd (va_up f 6 0) fl g gl hh v tx) (fun rv w2 => WP X (d + 2) 69 (42, [some (.ref 0), some (.int (f 6)), none], rv.toList ++ [], w2) P)) ∧
    ((¬ ((f 74) < 6)) → P (some (.int (-5))) (Wd (va_up (va_up f 6 0) 18 (-5 : Int32)) fl (va_up g 55 (upd (g 55) (5) (((g 55) 5) + (1 : Int32)))) gl hh v tx))) :
    WP X (d + 2) 69 (0, [some (.ref 0), none, none], [], Wd f fl g gl hh v tx) P := by
  refine WP.run hP_69 10 (c' := (19, [some (.ref 0), some (.int (f 6)), none], [.int 6, .int (f 74)], Wd (va_up f 6 0) fl g gl hh v tx)) rfl ?_
  refine WP.br hP_69 (q := (f 74) < 6) (t := 29) (f := 22) (L := [some (.ref 0), some (.int (f 6)), none]) (st := []) (w := Wd (va_up f 6 0) fl g gl hh v tx) rfl (fun c1 => ?_) (fun c1 => ?_)
  · have h2 := h.1 c1
    refine WP.run hP_69 6 (c' := (39, [some (.ref 0), some (.int (f 6)), none], [.int 0, .int (f 6), .ref 30, .ref 31], Wd (va_up f 6 0) fl g gl hh v tx)) rfl ?_
    refine WP.call hP_69 hP_33 (as := [.ref 31, .ref 30, .int (f 6), .int 0]) (pc' := 42) (L' := [some (.ref 0), some (.int (f 6)), none]) (st' := []) (w1 := Wd (va_up f 6 0) fl g gl hh v tx) rfl ⟨Nat.le_of_ble_eq_true rfl, Nat.le_of_ble_eq_true rfl⟩ rfl ?_
    exact h2
  · have h3 := h.2 c1
    refine WP.run hP_69 2 (c' := (25, [some (.ref 0), some (.int (f 6)), none], [.int (-5), .ref 0], Wd (va_up f 6 0) fl g gl hh v tx)) rfl ?_
    refine WP.call hP_69 hP_101 (as := [.ref 0, .int (-5)]) (pc' := 28) (L' := [some (.ref 0), some (.int (f 6)), none]) (st' := []) (w1 := Wd (va_up f 6 0) fl g gl hh v tx) rfl ⟨Nat.le_of_ble_eq_true rfl, Nat.le_of_ble_eq_true rfl⟩ rfl (b_x_refused_0 X (d) (va_up f 6 0) fl g gl hh v tx (-5) _ ?_)
    refine ⟨fun c4 => ?_, fun c => absurd c (by decide)⟩
    refine ⟨by decide, ?_⟩
    refine ⟨by decide, ?_⟩
    exact WP.retI hP_69 rfl rfl h3

set_option maxRecDepth 20000 in
theorem b_x_law_42 (X : mm_X) (d : Nat) (f : Nat → Int32) (fl : Nat → Int64) (g : Nat → Nat → Int32) (gl : Nat → Nat → Int64) (hh : Nat → Nat → Option Nat) (v : Nat → Value) (tx : mm_W) (l1 : Int32) (s0 : Int32)  (P : Option Value → mm_W → Prop)
    (h : ((¬ s0 = 0) → WP X (d + 1) 54 (0, [some (.ref 32), none], [], Wd (va_up f 14 (f 1985)) fl g gl hh v tx) (fun rv w2 => WP X (d + 2) 69 (89, [some (.ref 0), none, none], rv.toList ++ [.int (f 74), .ref 7], w2) P)) ∧
    ((s0 = 0) → P (some (.int (-6))) (Wd (va_up (va_up f 14 (f 1985)) 18 (-6 : Int32)) fl (va_up g 55 (upd (g 55) (6) (((g 55) 6) + (1 : Int32)))) gl hh v tx))) :
    WP X (d + 2) 69 (42, [some (.ref 0), some (.int l1), none], [.int s0], Wd f fl g gl hh v tx) P := by
  refine WP.run hP_69 7 (c' := (55, [some (.ref 0), some (.int l1), some (.int s0)], [.int s0], Wd (va_up f 14 (f 1985)) fl g gl hh v tx)) rfl ?_
  refine WP.br hP_69 (q := ¬ s0 = 0) (t := 65) (f := 58) (L := [some (.ref 0), some (.int l1), some (.int s0)]) (st := []) (w := Wd (va_up f 14 (f 1985)) fl g gl hh v tx) rfl (fun c1 => ?_) (fun c1 => ?_)
  · have h2 := h.1 c1
    refine WP.run hP_69 9 (c' := (86, [some (.ref 0), none, none], [.ref 32, .int (f 74), .ref 7], Wd (va_up f 14 (f 1985)) fl g gl hh v tx)) rfl ?_
    refine WP.call hP_69 hP_54 (as := [.ref 32]) (pc' := 89) (L' := [some (.ref 0), none, none]) (st' := [.int (f 74), .ref 7]) (w1 := Wd (va_up f 14 (f 1985)) fl g gl hh v tx) rfl ⟨Nat.le_of_ble_eq_true rfl, Nat.le_of_ble_eq_true rfl⟩ rfl ?_
    exact h2
  · have h3 := h.2 (Classical.not_not.mp c1)
    refine WP.run hP_69 2 (c' := (61, [some (.ref 0), some (.int l1), some (.int s0)], [.int (-6), .ref 0], Wd (va_up f 14 (f 1985)) fl g gl hh v tx)) rfl ?_
    refine WP.call hP_69 hP_101 (as := [.ref 0, .int (-6)]) (pc' := 64) (L' := [some (.ref 0), some (.int l1), some (.int s0)]) (st' := []) (w1 := Wd (va_up f 14 (f 1985)) fl g gl hh v tx) rfl ⟨Nat.le_of_ble_eq_true rfl, Nat.le_of_ble_eq_true rfl⟩ rfl (b_x_refused_0 X (d) (va_up f 14 (f 1985)) fl g gl hh v tx (-6) _ ?_)
    refine ⟨fun c4 => ?_, fun c => absurd c (by decide)⟩
    refine ⟨by decide, ?_⟩
    refine ⟨by decide, ?_⟩
    exact WP.retI hP_69 rfl rfl h3

set_option maxRecDepth 20000 in
theorem b_x_law_89 (X : mm_X) (d : Nat) (f : Nat → Int32) (fl : Nat → Int64) (g : Nat → Nat → Int32) (gl : Nat → Nat → Int64) (hh : Nat → Nat → Option Nat) (v : Nat → Value) (tx : mm_W) (s1 : Int32)  (P : Option Value → mm_W → Prop)
    (h : (¬ (s1 < 0 ∨ 6 ≤ s1.toNatClampNeg)) ∧ P (some (.int (((f 74) + (1 : Int32)) - (1 : Int32)))) (Wd (va_up (va_up f 74 ((f 74) + (1 : Int32))) 18 0) fl g gl (va_up hh 7 (va_up (hh 7) (s1.toNatClampNeg) none)) v tx)) :
    WP X (d + 1) 69 (89, [some (.ref 0), none, none], [.null, .int s1, .ref 7], Wd f fl g gl hh v tx) P := by
  refine WP.of (fun _ _ => Ex.aastN hP_69 (w2 := Wd f fl g gl (va_up hh 7 (va_up (hh 7) (s1.toNatClampNeg) none)) v tx) rfl (Wa_7 _ _ _ _ _ _ _) h.1 (Ws_7 _ _ _ _ _ _ _ _)) ?_
  have h1 := h.2
  refine WP.run hP_69 13 (c' := (113, [some (.ref 0), none, none], [.int (((f 74) + (1 : Int32)) - (1 : Int32)), .ref 0], Wd (va_up f 74 ((f 74) + (1 : Int32))) fl g gl (va_up hh 7 (va_up (hh 7) (s1.toNatClampNeg) none)) v tx)) rfl ?_
  refine WP.call hP_69 hP_100 (as := [.ref 0, .int (((f 74) + (1 : Int32)) - (1 : Int32))]) (pc' := 116) (L' := [some (.ref 0), none, none]) (st' := []) (w1 := Wd (va_up f 74 ((f 74) + (1 : Int32))) fl g gl (va_up hh 7 (va_up (hh 7) (s1.toNatClampNeg) none)) v tx) rfl ⟨Nat.le_of_ble_eq_true rfl, Nat.le_of_ble_eq_true rfl⟩ rfl (b_x_accepted_0 X (d) (va_up f 74 ((f 74) + (1 : Int32))) fl g gl (va_up hh 7 (va_up (hh 7) (s1.toNatClampNeg) none)) v tx (((f 74) + (1 : Int32)) - (1 : Int32)) _ ?_)
  exact WP.retI hP_69 rfl rfl h1

set_option maxRecDepth 20000 in
theorem b_x_law_89a (X : mm_X) (d : Nat) (f : Nat → Int32) (fl : Nat → Int64) (g : Nat → Nat → Int32) (gl : Nat → Nat → Int64) (hh : Nat → Nat → Option Nat) (v : Nat → Value) (tx : mm_W) (s0 : Nat) (s1 : Int32)  (P : Option Value → mm_W → Prop)
    (h : (¬ (s1 < 0 ∨ 6 ≤ s1.toNatClampNeg)) ∧ ((∃ fs, (Wd f fl g gl hh v tx)[s0]? = some (.inr (6, fs))) ∧ P (some (.int (((f 74) + (1 : Int32)) - (1 : Int32)))) (Wd (va_up (va_up f 74 ((f 74) + (1 : Int32))) 18 0) fl g gl (va_up hh 7 (va_up (hh 7) (s1.toNatClampNeg) (some s0))) v tx))) :
    WP X (d + 1) 69 (89, [some (.ref 0), none, none], [.ref s0, .int s1, .ref 7], Wd f fl g gl hh v tx) P := by
  refine WP.of (fun _ _ => Ex.aastR hP_69 (w2 := Wd f fl g gl (va_up hh 7 (va_up (hh 7) (s1.toNatClampNeg) (some s0))) v tx) rfl (Wa_7 _ _ _ _ _ _ _) h.1 h.2.1.choose_spec (Ws_7 _ _ _ _ _ _ _ _)) ?_
  have h1 := h.2
  have h2 := h1.2
  refine WP.run hP_69 13 (c' := (113, [some (.ref 0), none, none], [.int (((f 74) + (1 : Int32)) - (1 : Int32)), .ref 0], Wd (va_up f 74 ((f 74) + (1 : Int32))) fl g gl (va_up hh 7 (va_up (hh 7) (s1.toNatClampNeg) (some s0))) v tx)) rfl ?_
  refine WP.call hP_69 hP_100 (as := [.ref 0, .int (((f 74) + (1 : Int32)) - (1 : Int32))]) (pc' := 116) (L' := [some (.ref 0), none, none]) (st' := []) (w1 := Wd (va_up f 74 ((f 74) + (1 : Int32))) fl g gl (va_up hh 7 (va_up (hh 7) (s1.toNatClampNeg) (some s0))) v tx) rfl ⟨Nat.le_of_ble_eq_true rfl, Nat.le_of_ble_eq_true rfl⟩ rfl (b_x_accepted_0 X (d) (va_up f 74 ((f 74) + (1 : Int32))) fl g gl (va_up hh 7 (va_up (hh 7) (s1.toNatClampNeg) (some s0))) v tx (((f 74) + (1 : Int32)) - (1 : Int32)) _ ?_)
  exact WP.retI hP_69 rfl rfl h2

set_option maxRecDepth 20000 in
theorem b_x_look_0 (X : mm_X) (d : Nat) (f : Nat → Int32) (fl : Nat → Int64) (g : Nat → Nat → Int32) (gl : Nat → Nat → Int64) (hh : Nat → Nat → Option Nat) (v : Nat → Value) (tx : mm_W) (p0 : Int32) (p1 : Int32)  (P : Option Value → mm_W → Prop)
    (h : WP X (d) 12 (0, [some (.ref 38), some (.ref 1), some (.int 0), none, none], [], Wd f fl (va_up (va_up (va_up (va_up g 37 (upd (g 37) 0 ((g 8) 0))) 37 (upd (upd (g 37) 0 ((g 8) 0)) 1 p0)) 37 (upd (upd (upd (g 37) 0 ((g 8) 0)) 1 p0) 2 p1)) 37 (upd (upd (upd (upd (g 37) 0 ((g 8) 0)) 1 p0) 2 p1) 3 (f 70))) gl hh v tx) (fun rv w2 => WP X (d + 1) 104 (59, [some (.ref 0), some (.int p0), some (.int p1), none, none], rv.toList ++ [.int 4, .ref 37], w2) P)) :
    WP X (d + 1) 104 (0, [some (.ref 0), some (.int p0), some (.int p1), none, none], [], Wd f fl g gl hh v tx) P := by
  refine WP.run hP_104 7 (c' := (13, [some (.ref 0), some (.int p0), some (.int p1), none, none], [.int 0, .ref 8, .int 0, .ref 37], Wd f fl g gl hh v tx)) rfl ?_
  refine WP.of (fun _ _ => Ex.iald hP_104 rfl (Wa_8 _ _ _ _ _ _ _) (by decide)) ?_
  show WP X _ 104 (14, [some (.ref 0), some (.int p0), some (.int p1), none, none], [.int ((g 8) 0), .int 0, .ref 37], Wd f fl g gl hh v tx) P
  refine WP.of (fun _ _ => Ex.iast hP_104 (w2 := Wd f fl (va_up g 37 (upd (g 37) 0 ((g 8) 0))) gl hh v tx) rfl (Wa_37 _ _ _ _ _ _ _) (by decide) (Ws_37 _ _ _ _ _ _ _ _)) ?_
  refine WP.run hP_104 4 (c' := (21, [some (.ref 0), some (.int p0), some (.int p1), none, none], [.int p0, .int 1, .ref 37], Wd f fl (va_up g 37 (upd (g 37) 0 ((g 8) 0))) gl hh v tx)) rfl ?_
  refine WP.of (fun _ _ => Ex.iast hP_104 (w2 := Wd f fl (va_up (va_up g 37 (upd (g 37) 0 ((g 8) 0))) 37 (upd (upd (g 37) 0 ((g 8) 0)) 1 p0)) gl hh v tx) rfl (Wa_37 _ _ _ _ _ _ _) (by decide) (Ws_37 _ _ _ _ _ _ _ _)) ?_
  refine WP.run hP_104 4 (c' := (28, [some (.ref 0), some (.int p0), some (.int p1), none, none], [.int p1, .int 2, .ref 37], Wd f fl (va_up (va_up g 37 (upd (g 37) 0 ((g 8) 0))) 37 (upd (upd (g 37) 0 ((g 8) 0)) 1 p0)) gl hh v tx)) rfl ?_
  refine WP.of (fun _ _ => Ex.iast hP_104 (w2 := Wd f fl (va_up (va_up (va_up g 37 (upd (g 37) 0 ((g 8) 0))) 37 (upd (upd (g 37) 0 ((g 8) 0)) 1 p0)) 37 (upd (upd (upd (g 37) 0 ((g 8) 0)) 1 p0) 2 p1)) gl hh v tx) rfl (Wa_37 _ _ _ _ _ _ _) (by decide) (Ws_37 _ _ _ _ _ _ _ _)) ?_
  refine WP.run hP_104 6 (c' := (41, [some (.ref 0), some (.int p0), some (.int p1), none, none], [.int (f 70), .int 3, .ref 37], Wd f fl (va_up (va_up (va_up g 37 (upd (g 37) 0 ((g 8) 0))) 37 (upd (upd (g 37) 0 ((g 8) 0)) 1 p0)) 37 (upd (upd (upd (g 37) 0 ((g 8) 0)) 1 p0) 2 p1)) gl hh v tx)) rfl ?_
  refine WP.of (fun _ _ => Ex.iast hP_104 (w2 := Wd f fl (va_up (va_up (va_up (va_up g 37 (upd (g 37) 0 ((g 8) 0))) 37 (upd (upd (g 37) 0 ((g 8) 0)) 1 p0)) 37 (upd (upd (upd (g 37) 0 ((g 8) 0)) 1 p0) 2 p1)) 37 (upd (upd (upd (upd (g 37) 0 ((g 8) 0)) 1 p0) 2 p1) 3 (f 70))) gl hh v tx) rfl (Wa_37 _ _ _ _ _ _ _) (by decide) (Ws_37 _ _ _ _ _ _ _ _)) ?_
  refine WP.run hP_104 8 (c' := (56, [some (.ref 0), some (.int p0), some (.int p1), none, none], [.int 0, .ref 1, .ref 38, .int 4, .ref 37], Wd f fl (va_up (va_up (va_up (va_up g 37 (upd (g 37) 0 ((g 8) 0))) 37 (upd (upd (g 37) 0 ((g 8) 0)) 1 p0)) 37 (upd (upd (upd (g 37) 0 ((g 8) 0)) 1 p0) 2 p1)) 37 (upd (upd (upd (upd (g 37) 0 ((g 8) 0)) 1 p0) 2 p1) 3 (f 70))) gl hh v tx)) rfl ?_
  refine WP.call hP_104 hP_12 (as := [.ref 38, .ref 1, .int 0]) (pc' := 59) (L' := [some (.ref 0), some (.int p0), some (.int p1), none, none]) (st' := [.int 4, .ref 37]) (w1 := Wd f fl (va_up (va_up (va_up (va_up g 37 (upd (g 37) 0 ((g 8) 0))) 37 (upd (upd (g 37) 0 ((g 8) 0)) 1 p0)) 37 (upd (upd (upd (g 37) 0 ((g 8) 0)) 1 p0) 2 p1)) 37 (upd (upd (upd (upd (g 37) 0 ((g 8) 0)) 1 p0) 2 p1) 3 (f 70))) gl hh v tx) rfl ⟨Nat.le_of_ble_eq_true rfl, Nat.le_of_ble_eq_true rfl⟩ rfl ?_
  exact h

set_option maxRecDepth 20000 in
theorem b_x_look_59 (X : mm_X) (d : Nat) (f : Nat → Int32) (fl : Nat → Int64) (g : Nat → Nat → Int32) (gl : Nat → Nat → Int64) (hh : Nat → Nat → Option Nat) (v : Nat → Value) (tx : mm_W) (l1 : Int32) (l2 : Int32) (s0 : Int32) (s1 : Int32)  (P : Option Value → mm_W → Prop)
    (h : (¬ (s1 < 0 ∨ 11 ≤ s1.toNatClampNeg)) ∧ WP X (d) 104 (62, [some (.ref 0), none, none, some (.int 0), none], [], Wd f fl (va_up g 37 (upd (g 37) (s1.toNatClampNeg) s0)) gl hh v tx) P) :
    WP X (d) 104 (59, [some (.ref 0), some (.int l1), some (.int l2), none, none], [.int s0, .int s1, .ref 37], Wd f fl g gl hh v tx) P := by
  refine WP.of (fun _ _ => Ex.iast hP_104 (w2 := Wd f fl (va_up g 37 (upd (g 37) (s1.toNatClampNeg) s0)) gl hh v tx) rfl (Wa_37 _ _ _ _ _ _ _) h.1 (Ws_37 _ _ _ _ _ _ _ _)) ?_
  have h1 := h.2
  refine WP.run hP_104 2 (c' := (62, [some (.ref 0), some (.int l1), some (.int l2), some (.int 0), none], [], Wd f fl (va_up g 37 (upd (g 37) (s1.toNatClampNeg) s0)) gl hh v tx)) rfl ?_
  refine WP.clr hP_104 (pc := 62) rfl ?_
  exact h1

set_option maxRecDepth 20000 in
theorem b_x_look_62 (X : mm_X) (d : Nat) (f : Nat → Int32) (fl : Nat → Int64) (g : Nat → Nat → Int32) (gl : Nat → Nat → Int64) (hh : Nat → Nat → Option Nat) (v : Nat → Value) (tx : mm_W) (l3 : Int32)  (P : Option Value → mm_W → Prop)
    (h : ((3 ≤ l3) → P none (Wd f fl g gl hh v tx)) ∧
    ((¬ (3 ≤ l3)) → ((((f 68) ≤ l3) → ((¬ (((5 : Int32) + l3) < 0 ∨ 11 ≤ ((5 : Int32) + l3).toNatClampNeg)) ∧ ((¬ (((8 : Int32) + l3) < 0 ∨ 11 ≤ ((8 : Int32) + l3).toNatClampNeg)) ∧ WP X (d + 1) 104 (62, [some (.ref 0), none, none, some (.int (l3 + (1 : Int32))), none], [], Wd f fl (va_up (va_up g 37 (upd (g 37) (((5 : Int32) + l3).toNatClampNeg) (-1))) 37 (upd (upd (g 37) (((5 : Int32) + l3).toNatClampNeg) (-1)) (((8 : Int32) + l3).toNatClampNeg) (-1))) gl hh v tx) P))) ∧
      ((¬ ((f 68) ≤ l3)) → ((¬ (l3 < 0 ∨ 3 ≤ l3.toNatClampNeg)) ∧ ((¬ (((5 : Int32) + l3) < 0 ∨ 11 ≤ ((5 : Int32) + l3).toNatClampNeg)) ∧ ((¬ (l3 < 0 ∨ 3 ≤ l3.toNatClampNeg)) ∧ ((¬ (((8 : Int32) + l3) < 0 ∨ 11 ≤ ((8 : Int32) + l3).toNatClampNeg)) ∧ WP X (d + 1) 104 (62, [some (.ref 0), none, none, some (.int (l3 + (1 : Int32))), none], [], Wd f fl (va_up (va_up g 37 (upd (g 37) (((5 : Int32) + l3).toNatClampNeg) (((g 5) l3.toNatClampNeg) / (40 : Int32)))) 37 (upd (upd (g 37) (((5 : Int32) + l3).toNatClampNeg) (((g 5) l3.toNatClampNeg) / (40 : Int32))) (((8 : Int32) + l3).toNatClampNeg) (((g 5) l3.toNatClampNeg) - (((g 5) l3.toNatClampNeg) / (10 : Int32)) * (10 : Int32)))) gl hh v tx) P)))))))) :
    WP X (d + 1) 104 (62, [some (.ref 0), none, none, some (.int l3), none], [], Wd f fl g gl hh v tx) P := by
  refine WP.run hP_104 2 (c' := (64, [some (.ref 0), none, none, some (.int l3), none], [.int 3, .int l3], Wd f fl g gl hh v tx)) rfl ?_
  refine WP.br hP_104 (q := 3 ≤ l3) (t := 150) (f := 67) (L := [some (.ref 0), none, none, some (.int l3), none]) (st := []) (w := Wd f fl g gl hh v tx) rfl (fun c1 => ?_) (fun c1 => ?_)
  · have h2 := h.1 c1
    exact WP.ret hP_104 (r := none) (w' := Wd f fl g gl hh v tx) rfl h2
  · have h3 := h.2 c1
    refine WP.run hP_104 4 (c' := (75, [some (.ref 0), none, none, some (.int l3), none], [.int (f 68), .int l3], Wd f fl g gl hh v tx)) rfl ?_
    refine WP.br hP_104 (q := (f 68) ≤ l3) (t := 82) (f := 78) (L := [some (.ref 0), none, none, some (.int l3), none]) (st := []) (w := Wd f fl g gl hh v tx) rfl (fun c4 => ?_) (fun c4 => ?_)
    · have h5 := h3.1 c4
      refine WP.run hP_104 1 (c' := (83, [some (.ref 0), none, none, some (.int l3), none], [.int 0], Wd f fl g gl hh v tx)) rfl ?_
      refine WP.run hP_104 8 (c' := (112, [some (.ref 0), none, none, some (.int l3), some (.int 0)], [.int ((5 : Int32) + l3), .ref 37], Wd f fl g gl hh v tx)) rfl ?_
      refine WP.run hP_104 1 (c' := (113, [some (.ref 0), none, none, some (.int l3), some (.int 0)], [.int (-1), .int ((5 : Int32) + l3), .ref 37], Wd f fl g gl hh v tx)) rfl ?_
      refine WP.of (fun _ _ => Ex.iast hP_104 (w2 := Wd f fl (va_up g 37 (upd (g 37) (((5 : Int32) + l3).toNatClampNeg) (-1))) gl hh v tx) rfl (Wa_37 _ _ _ _ _ _ _) h5.1 (Ws_37 _ _ _ _ _ _ _ _)) ?_
      have h6 := h5.2
      refine WP.run hP_104 8 (c' := (143, [some (.ref 0), none, none, some (.int l3), none], [.int (-1), .int ((8 : Int32) + l3), .ref 37], Wd f fl (va_up g 37 (upd (g 37) (((5 : Int32) + l3).toNatClampNeg) (-1))) gl hh v tx)) rfl ?_
      refine WP.of (fun _ _ => Ex.iast hP_104 (w2 := Wd f fl (va_up (va_up g 37 (upd (g 37) (((5 : Int32) + l3).toNatClampNeg) (-1))) 37 (upd (upd (g 37) (((5 : Int32) + l3).toNatClampNeg) (-1)) (((8 : Int32) + l3).toNatClampNeg) (-1))) gl hh v tx) rfl (Wa_37 _ _ _ _ _ _ _) h6.1 (Ws_37 _ _ _ _ _ _ _ _)) ?_
      have h7 := h6.2
      refine WP.run hP_104 2 (c' := (62, [some (.ref 0), none, none, some (.int (l3 + (1 : Int32))), none], [], Wd f fl (va_up (va_up g 37 (upd (g 37) (((5 : Int32) + l3).toNatClampNeg) (-1))) 37 (upd (upd (g 37) (((5 : Int32) + l3).toNatClampNeg) (-1)) (((8 : Int32) + l3).toNatClampNeg) (-1))) gl hh v tx)) rfl ?_
      exact h7
    · have h8 := h3.2 c4
      refine WP.run hP_104 14 (c' := (105, [some (.ref 0), none, none, some (.int l3), some (.int 1)], [.int l3, .ref 5, .int ((5 : Int32) + l3), .ref 37], Wd f fl g gl hh v tx)) rfl ?_
      refine WP.of (fun _ _ => Ex.iald hP_104 rfl (Wa_5 _ _ _ _ _ _ _) h8.1) ?_
      have h9 := h8.2
      refine WP.call hP_104 hP_110 (as := [.int ((g 5) l3.toNatClampNeg)]) (pc' := 109) (L' := [some (.ref 0), none, none, some (.int l3), some (.int 1)]) (st' := [.int ((5 : Int32) + l3), .ref 37]) (w1 := Wd f fl g gl hh v tx) rfl ⟨Nat.le_of_ble_eq_true rfl, Nat.le_of_ble_eq_true rfl⟩ rfl (b_x_cellOf_0 X (d) f fl g gl hh v tx ((g 5) l3.toNatClampNeg) _ ?_)
      refine WP.run hP_104 1 (c' := (113, [some (.ref 0), none, none, some (.int l3), some (.int 1)], [.int (((g 5) l3.toNatClampNeg) / (40 : Int32)), .int ((5 : Int32) + l3), .ref 37], Wd f fl g gl hh v tx)) rfl ?_
      refine WP.of (fun _ _ => Ex.iast hP_104 (w2 := Wd f fl (va_up g 37 (upd (g 37) (((5 : Int32) + l3).toNatClampNeg) (((g 5) l3.toNatClampNeg) / (40 : Int32)))) gl hh v tx) rfl (Wa_37 _ _ _ _ _ _ _) h9.1 (Ws_37 _ _ _ _ _ _ _ _)) ?_
      have h10 := h9.2
      refine WP.run hP_104 11 (c' := (135, [some (.ref 0), none, none, some (.int l3), some (.int 1)], [.int l3, .ref 5, .int ((8 : Int32) + l3), .ref 37], Wd f fl (va_up g 37 (upd (g 37) (((5 : Int32) + l3).toNatClampNeg) (((g 5) l3.toNatClampNeg) / (40 : Int32)))) gl hh v tx)) rfl ?_
      refine WP.of (fun _ _ => Ex.iald hP_104 rfl (Wa_5 _ _ _ _ _ _ _) h10.1) ?_
      have h11 := h10.2
      refine WP.call hP_104 hP_112 (as := [.int ((g 5) l3.toNatClampNeg)]) (pc' := 139) (L' := [some (.ref 0), none, none, some (.int l3), some (.int 1)]) (st' := [.int ((8 : Int32) + l3), .ref 37]) (w1 := Wd f fl (va_up g 37 (upd (g 37) (((5 : Int32) + l3).toNatClampNeg) (((g 5) l3.toNatClampNeg) / (40 : Int32)))) gl hh v tx) rfl ⟨Nat.le_of_ble_eq_true rfl, Nat.le_of_ble_eq_true rfl⟩ rfl (b_x_powderOf_0 X (d) f fl (va_up g 37 (upd (g 37) (((5 : Int32) + l3).toNatClampNeg) (((g 5) l3.toNatClampNeg) / (40 : Int32)))) gl hh v tx ((g 5) l3.toNatClampNeg) _ ?_)
      refine WP.run hP_104 1 (c' := (143, [some (.ref 0), none, none, some (.int l3), some (.int 1)], [.int (((g 5) l3.toNatClampNeg) - (((g 5) l3.toNatClampNeg) / (10 : Int32)) * (10 : Int32)), .int ((8 : Int32) + l3), .ref 37], Wd f fl (va_up g 37 (upd (g 37) (((5 : Int32) + l3).toNatClampNeg) (((g 5) l3.toNatClampNeg) / (40 : Int32)))) gl hh v tx)) rfl ?_
      refine WP.of (fun _ _ => Ex.iast hP_104 (w2 := Wd f fl (va_up (va_up g 37 (upd (g 37) (((5 : Int32) + l3).toNatClampNeg) (((g 5) l3.toNatClampNeg) / (40 : Int32)))) 37 (upd (upd (g 37) (((5 : Int32) + l3).toNatClampNeg) (((g 5) l3.toNatClampNeg) / (40 : Int32))) (((8 : Int32) + l3).toNatClampNeg) (((g 5) l3.toNatClampNeg) - (((g 5) l3.toNatClampNeg) / (10 : Int32)) * (10 : Int32)))) gl hh v tx) rfl (Wa_37 _ _ _ _ _ _ _) h11.1 (Ws_37 _ _ _ _ _ _ _ _)) ?_
      have h12 := h11.2
      refine WP.run hP_104 2 (c' := (62, [some (.ref 0), none, none, some (.int (l3 + (1 : Int32))), none], [], Wd f fl (va_up (va_up g 37 (upd (g 37) (((5 : Int32) + l3).toNatClampNeg) (((g 5) l3.toNatClampNeg) / (40 : Int32)))) 37 (upd (upd (g 37) (((5 : Int32) + l3).toNatClampNeg) (((g 5) l3.toNatClampNeg) / (40 : Int32))) (((8 : Int32) + l3).toNatClampNeg) (((g 5) l3.toNatClampNeg) - (((g 5) l3.toNatClampNeg) / (10 : Int32)) * (10 : Int32)))) gl hh v tx)) rfl ?_
      exact h12

set_option maxRecDepth 20000 in
theorem b_x_passes_0 (X : mm_X) (d : Nat) (f : Nat → Int32) (fl : Nat → Int64) (g : Nat → Nat → Int32) (gl : Nat → Nat → Int64) (hh : Nat → Nat → Option Nat) (v : Nat → Value) (tx : mm_W)   (P : Option Value → mm_W → Prop)
    (h : ((((g 8) 0) < 999) → ((((f 78) < 16) → ((¬ ((f 78) < 0 ∨ 16 ≤ (f 78).toNatClampNeg)) ∧ P (some (.int ((upd (g 8) 0 (((g 8) 0) + (1 : Int32))) 0))) (Wd (va_up f 78 ((f 78) + (1 : Int32))) fl (va_up (va_up g 8 (upd (g 8) 0 (((g 8) 0) + (1 : Int32)))) 9 (upd (g 9) ((f 78).toNatClampNeg) (3 : Int32))) gl hh v tx))) ∧
      ((¬ ((f 78) < 16)) → P (some (.int ((upd (g 8) 0 (((g 8) 0) + (1 : Int32))) 0))) (Wd (va_up f 78 16) fl (va_up (va_up (va_up g 8 (upd (g 8) 0 (((g 8) 0) + (1 : Int32)))) 9 (va_cpy (g 9) (g 9) 1 0 15)) 9 (upd (va_cpy (g 9) (g 9) 1 0 15) 15 (3 : Int32))) gl hh v tx)))) ∧
    ((¬ (((g 8) 0) < 999)) → P (some (.int (-3))) (Wd f fl g gl hh v tx))) :
    WP X (d + 1) 108 (0, [some (.ref 0)], [], Wd f fl g gl hh v tx) P := by
  refine WP.run hP_108 4 (c' := (8, [some (.ref 0)], [.int 0, .ref 8], Wd f fl g gl hh v tx)) rfl ?_
  refine WP.of (fun _ _ => Ex.iald hP_108 rfl (Wa_8 _ _ _ _ _ _ _) (by decide)) ?_
  show WP X _ 108 (9, [some (.ref 0)], [.int ((g 8) 0)], Wd f fl g gl hh v tx) P
  refine WP.run hP_108 1 (c' := (12, [some (.ref 0)], [.int 999, .int ((g 8) 0)], Wd f fl g gl hh v tx)) rfl ?_
  refine WP.br hP_108 (q := ((g 8) 0) < 999) (t := 18) (f := 15) (L := [some (.ref 0)]) (st := []) (w := Wd f fl g gl hh v tx) rfl (fun c1 => ?_) (fun c1 => ?_)
  · have h2 := h.1 c1
    refine WP.run hP_108 5 (c' := (27, [some (.ref 0)], [.int 0, .ref 8, .int 0, .ref 8], Wd f fl g gl hh v tx)) rfl ?_
    refine WP.of (fun _ _ => Ex.iald hP_108 rfl (Wa_8 _ _ _ _ _ _ _) (by decide)) ?_
    show WP X _ 108 (28, [some (.ref 0)], [.int ((g 8) 0), .int 0, .ref 8], Wd f fl g gl hh v tx) P
    refine WP.run hP_108 2 (c' := (30, [some (.ref 0)], [.int (((g 8) 0) + (1 : Int32)), .int 0, .ref 8], Wd f fl g gl hh v tx)) rfl ?_
    refine WP.of (fun _ _ => Ex.iast hP_108 (w2 := Wd f fl (va_up g 8 (upd (g 8) 0 (((g 8) 0) + (1 : Int32)))) gl hh v tx) rfl (Wa_8 _ _ _ _ _ _ _) (by decide) (Ws_8 _ _ _ _ _ _ _ _)) ?_
    refine WP.run hP_108 3 (c' := (36, [some (.ref 0)], [.int 3, .ref 1], Wd f fl (va_up g 8 (upd (g 8) 0 (((g 8) 0) + (1 : Int32)))) gl hh v tx)) rfl ?_
    refine WP.call hP_108 hP_51 (as := [.ref 1, .int 3]) (pc' := 39) (L' := [some (.ref 0)]) (st' := []) (w1 := Wd f fl (va_up g 8 (upd (g 8) 0 (((g 8) 0) + (1 : Int32)))) gl hh v tx) rfl ⟨Nat.le_of_ble_eq_true rfl, Nat.le_of_ble_eq_true rfl⟩ rfl (b_yst_remember_1_0 X (d) f fl (va_up g 8 (upd (g 8) 0 (((g 8) 0) + (1 : Int32)))) gl hh v tx 3 _ ?_)
    refine ⟨fun c3 => ?_, fun c3 => ?_⟩
    · have h4 := h2.1 c3
      refine ⟨h4.1, ?_⟩
      have h5 := h4.2
      refine WP.run hP_108 4 (c' := (47, [some (.ref 0)], [.int 0, .ref 8], Wd (va_up f 78 ((f 78) + (1 : Int32))) fl (va_up (va_up g 8 (upd (g 8) 0 (((g 8) 0) + (1 : Int32)))) 9 (upd (g 9) ((f 78).toNatClampNeg) (3 : Int32))) gl hh v tx)) rfl ?_
      refine WP.of (fun _ _ => Ex.iald hP_108 rfl (Wa_8 _ _ _ _ _ _ _) (by decide)) ?_
      show WP X _ 108 (48, [some (.ref 0)], [.int ((upd (g 8) 0 (((g 8) 0) + (1 : Int32))) 0)], Wd (va_up f 78 ((f 78) + (1 : Int32))) fl (va_up (va_up g 8 (upd (g 8) 0 (((g 8) 0) + (1 : Int32)))) 9 (upd (g 9) ((f 78).toNatClampNeg) (3 : Int32))) gl hh v tx) P
      exact WP.retI hP_108 rfl rfl h5
    · have h6 := h2.2 c3
      refine WP.run hP_108 4 (c' := (47, [some (.ref 0)], [.int 0, .ref 8], Wd (va_up f 78 16) fl (va_up (va_up (va_up g 8 (upd (g 8) 0 (((g 8) 0) + (1 : Int32)))) 9 (va_cpy (g 9) (g 9) 1 0 15)) 9 (upd (va_cpy (g 9) (g 9) 1 0 15) 15 (3 : Int32))) gl hh v tx)) rfl ?_
      refine WP.of (fun _ _ => Ex.iald hP_108 rfl (Wa_8 _ _ _ _ _ _ _) (by decide)) ?_
      show WP X _ 108 (48, [some (.ref 0)], [.int ((upd (g 8) 0 (((g 8) 0) + (1 : Int32))) 0)], Wd (va_up f 78 16) fl (va_up (va_up (va_up g 8 (upd (g 8) 0 (((g 8) 0) + (1 : Int32)))) 9 (va_cpy (g 9) (g 9) 1 0 15)) 9 (upd (va_cpy (g 9) (g 9) 1 0 15) 15 (3 : Int32))) gl hh v tx) P
      exact WP.retI hP_108 rfl rfl h6
  · have h7 := h.2 c1
    refine WP.run hP_108 1 (c' := (17, [some (.ref 0)], [.int (-3)], Wd f fl g gl hh v tx)) rfl ?_
    exact WP.retI hP_108 rfl rfl h7

set_option maxRecDepth 20000 in
theorem b_x_sails_0 (X : mm_X) (d : Nat) (f : Nat → Int32) (fl : Nat → Int64) (g : Nat → Nat → Int32) (gl : Nat → Nat → Int64) (hh : Nat → Nat → Option Nat) (v : Nat → Value) (tx : mm_W) (p0 : Int64)  (P : Option Value → mm_W → Prop)
    (h : (((lg_cmp p0 0) < 0) → P (some (.int (-2))) (Wd f fl g gl hh v tx)) ∧
    ((¬ ((lg_cmp p0 0) < 0)) → ((((lg_cmp p0 (((f 68) : Int32).toInt64)) < 0) → (((0 ≤ (f 76) ∧ (f 76) < (f 74)) → ((¬ ((f 76) < 0 ∨ 6 ≤ (f 76).toNatClampNeg)) ∧ WP X (d + 1) 7 (0, [some (.ref 38), some (.ref 1), some (.int ((p0 : Int64).toInt32)), some ((mm_rf ((hh 7) (f 76).toNatClampNeg))), none], [], Wd f fl g gl hh v tx) (fun rv w2 => WP X (d + 2) 107 (44, [some (.ref 0), some (.long p0), none, some (.int ((p0 : Int64).toInt32))], rv.toList ++ [], w2) P))) ∧
        ((¬ (0 ≤ (f 76) ∧ (f 76) < (f 74))) → WP X (d + 1) 7 (0, [some (.ref 38), some (.ref 1), some (.int ((p0 : Int64).toInt32)), some (.null), none], [], Wd f fl g gl hh v tx) (fun rv w2 => WP X (d + 2) 107 (44, [some (.ref 0), some (.long p0), none, some (.int ((p0 : Int64).toInt32))], rv.toList ++ [], w2) P)))) ∧
      ((¬ ((lg_cmp p0 (((f 68) : Int32).toInt64)) < 0)) → P (some (.int (-2))) (Wd f fl g gl hh v tx))))) :
    WP X (d + 2) 107 (0, [some (.ref 0), some (.long p0), none, none], [], Wd f fl g gl hh v tx) P := by
  refine WP.run hP_107 3 (c' := (3, [some (.ref 0), some (.long p0), none, none], [.int (lg_cmp p0 0)], Wd f fl g gl hh v tx)) rfl ?_
  refine WP.br hP_107 (q := (lg_cmp p0 0) < 0) (t := 19) (f := 6) (L := [some (.ref 0), some (.long p0), none, none]) (st := []) (w := Wd f fl g gl hh v tx) rfl (fun c1 => ?_) (fun c1 => ?_)
  · have h2 := h.1 c1
    refine WP.run hP_107 1 (c' := (21, [none, none, none, none], [.int (-2)], Wd f fl g gl hh v tx)) rfl ?_
    exact WP.retI hP_107 rfl rfl h2
  · have h3 := h.2 c1
    refine WP.run hP_107 6 (c' := (16, [some (.ref 0), some (.long p0), none, none], [.int (lg_cmp p0 (((f 68) : Int32).toInt64))], Wd f fl g gl hh v tx)) rfl ?_
    refine WP.br hP_107 (q := (lg_cmp p0 (((f 68) : Int32).toInt64)) < 0) (t := 22) (f := 19) (L := [some (.ref 0), some (.long p0), none, none]) (st := []) (w := Wd f fl g gl hh v tx) rfl (fun c4 => ?_) (fun c4 => ?_)
    · have h5 := h3.1 c4
      refine WP.run hP_107 2 (c' := (24, [some (.ref 0), some (.long p0), none, none], [.int ((p0 : Int64).toInt32)], Wd f fl g gl hh v tx)) rfl ?_
      refine WP.run hP_107 8 (c' := (38, [some (.ref 0), some (.long p0), none, some (.int ((p0 : Int64).toInt32))], [.ref 1, .int ((p0 : Int64).toInt32), .ref 1, .ref 38], Wd f fl g gl hh v tx)) rfl ?_
      refine WP.call hP_107 hP_46 (as := [.ref 1]) (pc' := 41) (L' := [some (.ref 0), some (.long p0), none, some (.int ((p0 : Int64).toInt32))]) (st' := [.int ((p0 : Int64).toInt32), .ref 1, .ref 38]) (w1 := Wd f fl g gl hh v tx) rfl ⟨Nat.le_of_ble_eq_true rfl, Nat.le_of_ble_eq_true rfl⟩ rfl (b_yst_lawInForce_1_0 X (d) f fl g gl hh v tx  _ ?_)
      refine ⟨fun c6 => ?_, fun c6 => ?_⟩
      · have h7 := h5.1 c6
        refine ⟨h7.1, ?_⟩
        have h8 := h7.2
        refine WP.call hP_107 hP_7 (as := [.ref 38, .ref 1, .int ((p0 : Int64).toInt32), (mm_rf ((hh 7) (f 76).toNatClampNeg))]) (pc' := 44) (L' := [some (.ref 0), some (.long p0), none, some (.int ((p0 : Int64).toInt32))]) (st' := []) (w1 := Wd f fl g gl hh v tx) rfl ⟨Nat.le_of_ble_eq_true rfl, Nat.le_of_ble_eq_true rfl⟩ rfl ?_
        exact h8
      · have h9 := h5.2 c6
        refine WP.call hP_107 hP_7 (as := [.ref 38, .ref 1, .int ((p0 : Int64).toInt32), .null]) (pc' := 44) (L' := [some (.ref 0), some (.long p0), none, some (.int ((p0 : Int64).toInt32))]) (st' := []) (w1 := Wd f fl g gl hh v tx) rfl ⟨Nat.le_of_ble_eq_true rfl, Nat.le_of_ble_eq_true rfl⟩ rfl ?_
        exact h9
    · have h10 := h3.2 c4
      refine WP.run hP_107 1 (c' := (21, [none, none, none, none], [.int (-2)], Wd f fl g gl hh v tx)) rfl ?_
      exact WP.retI hP_107 rfl rfl h10

set_option maxRecDepth 20000 in
theorem b_x_sails_44 (X : mm_X) (d : Nat) (f : Nat → Int32) (fl : Nat → Int64) (g : Nat → Nat → Int32) (gl : Nat → Nat → Int64) (hh : Nat → Nat → Option Nat) (v : Nat → Value) (tx : mm_W) (l1 : Int64) (l3 : Int32) (s0 : Int32)  (P : Option Value → mm_W → Prop)
    (h : ((¬ s0 = 0) → ((¬ (l3 < 0 ∨ 3 ≤ l3.toNatClampNeg)) ∧ ((((f 78) < 16) → ((¬ ((f 78) < 0 ∨ 16 ≤ (f 78).toNatClampNeg)) ∧ WP X (d) 11 (0, [some (.ref 38), some (.ref 1), none, none], [], Wd (va_up f 78 ((f 78) + (1 : Int32))) fl (va_up g 9 (upd (g 9) ((f 78).toNatClampNeg) (((2 : Int32) ||| ((l3 <<< ((2 : Int32) &&& (31 : Int32))) : Int32)) ||| ((((g 5) l3.toNatClampNeg) <<< ((4 : Int32) &&& (31 : Int32))) : Int32)))) gl hh v tx) (fun rv w2 => WP X (d + 1) 107 (85, [some (.ref 0), none, none, some (.int l3)], rv.toList ++ [], w2) P))) ∧
      ((¬ ((f 78) < 16)) → WP X (d) 11 (0, [some (.ref 38), some (.ref 1), none, none], [], Wd (va_up f 78 16) fl (va_up (va_up g 9 (va_cpy (g 9) (g 9) 1 0 15)) 9 (upd (va_cpy (g 9) (g 9) 1 0 15) 15 (((2 : Int32) ||| ((l3 <<< ((2 : Int32) &&& (31 : Int32))) : Int32)) ||| ((((g 5) l3.toNatClampNeg) <<< ((4 : Int32) &&& (31 : Int32))) : Int32)))) gl hh v tx) (fun rv w2 => WP X (d + 1) 107 (85, [some (.ref 0), none, none, some (.int l3)], rv.toList ++ [], w2) P))))) ∧
    ((s0 = 0) → P (some (.int (-3))) (Wd f fl g gl hh v tx))) :
    WP X (d + 1) 107 (44, [some (.ref 0), some (.long l1), none, some (.int l3)], [.int s0], Wd f fl g gl hh v tx) P := by
  refine WP.br hP_107 (q := ¬ s0 = 0) (t := 50) (f := 47) (L := [some (.ref 0), some (.long l1), none, some (.int l3)]) (st := []) (w := Wd f fl g gl hh v tx) rfl (fun c1 => ?_) (fun c1 => ?_)
  · have h2 := h.1 c1
    refine WP.run hP_107 11 (c' := (67, [some (.ref 0), none, none, some (.int l3)], [.int l3, .ref 5, .int ((2 : Int32) ||| ((l3 <<< ((2 : Int32) &&& (31 : Int32))) : Int32)), .ref 1], Wd f fl g gl hh v tx)) rfl ?_
    refine WP.of (fun _ _ => Ex.iald hP_107 rfl (Wa_5 _ _ _ _ _ _ _) h2.1) ?_
    have h3 := h2.2
    refine WP.run hP_107 3 (c' := (71, [some (.ref 0), none, none, some (.int l3)], [.int (((2 : Int32) ||| ((l3 <<< ((2 : Int32) &&& (31 : Int32))) : Int32)) ||| ((((g 5) l3.toNatClampNeg) <<< ((4 : Int32) &&& (31 : Int32))) : Int32)), .ref 1], Wd f fl g gl hh v tx)) rfl ?_
    refine WP.call hP_107 hP_51 (as := [.ref 1, .int (((2 : Int32) ||| ((l3 <<< ((2 : Int32) &&& (31 : Int32))) : Int32)) ||| ((((g 5) l3.toNatClampNeg) <<< ((4 : Int32) &&& (31 : Int32))) : Int32))]) (pc' := 74) (L' := [some (.ref 0), none, none, some (.int l3)]) (st' := []) (w1 := Wd f fl g gl hh v tx) rfl ⟨Nat.le_of_ble_eq_true rfl, Nat.le_of_ble_eq_true rfl⟩ rfl (b_yst_remember_1_0 X (d) f fl g gl hh v tx (((2 : Int32) ||| ((l3 <<< ((2 : Int32) &&& (31 : Int32))) : Int32)) ||| ((((g 5) l3.toNatClampNeg) <<< ((4 : Int32) &&& (31 : Int32))) : Int32)) _ ?_)
    refine ⟨fun c4 => ?_, fun c4 => ?_⟩
    · have h5 := h3.1 c4
      refine ⟨h5.1, ?_⟩
      have h6 := h5.2
      refine WP.run hP_107 4 (c' := (82, [some (.ref 0), none, none, some (.int l3)], [.ref 1, .ref 38], Wd (va_up f 78 ((f 78) + (1 : Int32))) fl (va_up g 9 (upd (g 9) ((f 78).toNatClampNeg) (((2 : Int32) ||| ((l3 <<< ((2 : Int32) &&& (31 : Int32))) : Int32)) ||| ((((g 5) l3.toNatClampNeg) <<< ((4 : Int32) &&& (31 : Int32))) : Int32)))) gl hh v tx)) rfl ?_
      refine WP.call hP_107 hP_11 (as := [.ref 38, .ref 1]) (pc' := 85) (L' := [some (.ref 0), none, none, some (.int l3)]) (st' := []) (w1 := Wd (va_up f 78 ((f 78) + (1 : Int32))) fl (va_up g 9 (upd (g 9) ((f 78).toNatClampNeg) (((2 : Int32) ||| ((l3 <<< ((2 : Int32) &&& (31 : Int32))) : Int32)) ||| ((((g 5) l3.toNatClampNeg) <<< ((4 : Int32) &&& (31 : Int32))) : Int32)))) gl hh v tx) rfl ⟨Nat.le_of_ble_eq_true rfl, Nat.le_of_ble_eq_true rfl⟩ rfl ?_
      exact h6
    · have h7 := h3.2 c4
      refine WP.run hP_107 4 (c' := (82, [some (.ref 0), none, none, some (.int l3)], [.ref 1, .ref 38], Wd (va_up f 78 16) fl (va_up (va_up g 9 (va_cpy (g 9) (g 9) 1 0 15)) 9 (upd (va_cpy (g 9) (g 9) 1 0 15) 15 (((2 : Int32) ||| ((l3 <<< ((2 : Int32) &&& (31 : Int32))) : Int32)) ||| ((((g 5) l3.toNatClampNeg) <<< ((4 : Int32) &&& (31 : Int32))) : Int32)))) gl hh v tx)) rfl ?_
      refine WP.call hP_107 hP_11 (as := [.ref 38, .ref 1]) (pc' := 85) (L' := [some (.ref 0), none, none, some (.int l3)]) (st' := []) (w1 := Wd (va_up f 78 16) fl (va_up (va_up g 9 (va_cpy (g 9) (g 9) 1 0 15)) 9 (upd (va_cpy (g 9) (g 9) 1 0 15) 15 (((2 : Int32) ||| ((l3 <<< ((2 : Int32) &&& (31 : Int32))) : Int32)) ||| ((((g 5) l3.toNatClampNeg) <<< ((4 : Int32) &&& (31 : Int32))) : Int32)))) gl hh v tx) rfl ⟨Nat.le_of_ble_eq_true rfl, Nat.le_of_ble_eq_true rfl⟩ rfl ?_
      exact h7
  · have h8 := h.2 (Classical.not_not.mp c1)
    refine WP.run hP_107 1 (c' := (49, [some (.ref 0), some (.long l1), none, some (.int l3)], [.int (-3)], Wd f fl g gl hh v tx)) rfl ?_
    exact WP.retI hP_107 rfl rfl h8

set_option maxRecDepth 20000 in
theorem b_x_sails_85 (X : mm_X) (d : Nat) (f : Nat → Int32) (fl : Nat → Int64) (g : Nat → Nat → Int32) (gl : Nat → Nat → Int64) (hh : Nat → Nat → Option Nat) (v : Nat → Value) (tx : mm_W) (l3 : Int32)  (P : Option Value → mm_W → Prop)
    (h : (¬ (l3 < 0 ∨ 3 ≤ l3.toNatClampNeg)) ∧ P (some (.int (f 2437))) (Wd f fl (va_up g 5 (upd (g 5) (l3.toNatClampNeg) (f 2440))) gl hh v tx)) :
    WP X (d) 107 (85, [some (.ref 0), none, none, some (.int l3)], [], Wd f fl g gl hh v tx) P := by
  refine WP.run hP_107 7 (c' := (100, [some (.ref 0), none, none, some (.int l3)], [.int (f 2440), .int l3, .ref 5], Wd f fl g gl hh v tx)) rfl ?_
  refine WP.of (fun _ _ => Ex.iast hP_107 (w2 := Wd f fl (va_up g 5 (upd (g 5) (l3.toNatClampNeg) (f 2440))) gl hh v tx) rfl (Wa_5 _ _ _ _ _ _ _) h.1 (Ws_5 _ _ _ _ _ _ _ _)) ?_
  have h1 := h.2
  refine WP.run hP_107 3 (c' := (108, [some (.ref 0), none, none, some (.int l3)], [.int (f 2437)], Wd f fl (va_up g 5 (upd (g 5) (l3.toNatClampNeg) (f 2440))) gl hh v tx)) rfl ?_
  exact WP.retI hP_107 rfl rfl h1

set_option maxRecDepth 20000 in
theorem b_x_takes_0 (X : mm_X) (d : Nat) (f : Nat → Int32) (fl : Nat → Int64) (g : Nat → Nat → Int32) (gl : Nat → Nat → Int64) (hh : Nat → Nat → Option Nat) (v : Nat → Value) (tx : mm_W)   (P : Option Value → mm_W → Prop)
    (h : ((¬ (f 70) = 0) → ((((f 78) < 16) → ((¬ ((f 78) < 0 ∨ 16 ≤ (f 78).toNatClampNeg)) ∧ P (some (.int ((f 71) &&& (3 : Int32)))) (Wd (va_up (va_up (va_up f 71 (((f 71) >>> ((2 : Int32) &&& (31 : Int32))) : Int32)) 70 ((f 70) - (1 : Int32))) 78 ((f 78) + (1 : Int32))) fl (va_up g 9 (upd (g 9) ((f 78).toNatClampNeg) ((1 : Int32) ||| ((((f 71) &&& (3 : Int32)) <<< ((2 : Int32) &&& (31 : Int32))) : Int32)))) gl hh v tx))) ∧
      ((¬ ((f 78) < 16)) → P (some (.int ((f 71) &&& (3 : Int32)))) (Wd (va_up (va_up (va_up f 71 (((f 71) >>> ((2 : Int32) &&& (31 : Int32))) : Int32)) 70 ((f 70) - (1 : Int32))) 78 16) fl (va_up (va_up g 9 (va_cpy (g 9) (g 9) 1 0 15)) 9 (upd (va_cpy (g 9) (g 9) 1 0 15) 15 ((1 : Int32) ||| ((((f 71) &&& (3 : Int32)) <<< ((2 : Int32) &&& (31 : Int32))) : Int32)))) gl hh v tx)))) ∧
    (((f 70) = 0) → P (some (.int (-3))) (Wd f fl g gl hh v tx))) :
    WP X (d + 1) 106 (0, [some (.ref 0), none], [], Wd f fl g gl hh v tx) P := by
  refine WP.run hP_106 3 (c' := (7, [some (.ref 0), none], [.int (f 70)], Wd f fl g gl hh v tx)) rfl ?_
  refine WP.br hP_106 (q := ¬ (f 70) = 0) (t := 13) (f := 10) (L := [some (.ref 0), none]) (st := []) (w := Wd f fl g gl hh v tx) rfl (fun c1 => ?_) (fun c1 => ?_)
  · have h2 := h.1 c1
    refine WP.run hP_106 5 (c' := (22, [some (.ref 0), none], [.int ((f 71) &&& (3 : Int32))], Wd f fl g gl hh v tx)) rfl ?_
    refine WP.run hP_106 3 (c' := (27, [some (.ref 0), some (.int ((f 71) &&& (3 : Int32)))], [.ref 1], Wd f fl g gl hh v tx)) rfl ?_
    refine WP.call hP_106 hP_50 (as := [.ref 1]) (pc' := 30) (L' := [some (.ref 0), some (.int ((f 71) &&& (3 : Int32)))]) (st' := []) (w1 := Wd f fl g gl hh v tx) rfl ⟨Nat.le_of_ble_eq_true rfl, Nat.le_of_ble_eq_true rfl⟩ rfl (b_yst_dropLast_1_0 X (d) f fl g gl hh v tx  _ ?_)
    refine WP.run hP_106 7 (c' := (39, [some (.ref 0), some (.int ((f 71) &&& (3 : Int32)))], [.int ((1 : Int32) ||| ((((f 71) &&& (3 : Int32)) <<< ((2 : Int32) &&& (31 : Int32))) : Int32)), .ref 1], Wd (va_up (va_up f 71 (((f 71) >>> ((2 : Int32) &&& (31 : Int32))) : Int32)) 70 ((f 70) - (1 : Int32))) fl g gl hh v tx)) rfl ?_
    refine WP.call hP_106 hP_51 (as := [.ref 1, .int ((1 : Int32) ||| ((((f 71) &&& (3 : Int32)) <<< ((2 : Int32) &&& (31 : Int32))) : Int32))]) (pc' := 42) (L' := [some (.ref 0), some (.int ((f 71) &&& (3 : Int32)))]) (st' := []) (w1 := Wd (va_up (va_up f 71 (((f 71) >>> ((2 : Int32) &&& (31 : Int32))) : Int32)) 70 ((f 70) - (1 : Int32))) fl g gl hh v tx) rfl ⟨Nat.le_of_ble_eq_true rfl, Nat.le_of_ble_eq_true rfl⟩ rfl (b_yst_remember_1_0 X (d) (va_up (va_up f 71 (((f 71) >>> ((2 : Int32) &&& (31 : Int32))) : Int32)) 70 ((f 70) - (1 : Int32))) fl g gl hh v tx ((1 : Int32) ||| ((((f 71) &&& (3 : Int32)) <<< ((2 : Int32) &&& (31 : Int32))) : Int32)) _ ?_)
    refine ⟨fun c3 => ?_, fun c3 => ?_⟩
    · have h4 := h2.1 c3
      refine ⟨h4.1, ?_⟩
      have h5 := h4.2
      refine WP.run hP_106 1 (c' := (43, [some (.ref 0), some (.int ((f 71) &&& (3 : Int32)))], [.int ((f 71) &&& (3 : Int32))], Wd (va_up (va_up (va_up f 71 (((f 71) >>> ((2 : Int32) &&& (31 : Int32))) : Int32)) 70 ((f 70) - (1 : Int32))) 78 ((f 78) + (1 : Int32))) fl (va_up g 9 (upd (g 9) ((f 78).toNatClampNeg) ((1 : Int32) ||| ((((f 71) &&& (3 : Int32)) <<< ((2 : Int32) &&& (31 : Int32))) : Int32)))) gl hh v tx)) rfl ?_
      exact WP.retI hP_106 rfl rfl h5
    · have h6 := h2.2 c3
      refine WP.run hP_106 1 (c' := (43, [some (.ref 0), some (.int ((f 71) &&& (3 : Int32)))], [.int ((f 71) &&& (3 : Int32))], Wd (va_up (va_up (va_up f 71 (((f 71) >>> ((2 : Int32) &&& (31 : Int32))) : Int32)) 70 ((f 70) - (1 : Int32))) 78 16) fl (va_up (va_up g 9 (va_cpy (g 9) (g 9) 1 0 15)) 9 (upd (va_cpy (g 9) (g 9) 1 0 15) 15 ((1 : Int32) ||| ((((f 71) &&& (3 : Int32)) <<< ((2 : Int32) &&& (31 : Int32))) : Int32)))) gl hh v tx)) rfl ?_
      exact WP.retI hP_106 rfl rfl h6
  · have h7 := h.2 (Classical.not_not.mp c1)
    refine WP.run hP_106 1 (c' := (12, [some (.ref 0), none], [.int (-3)], Wd f fl g gl hh v tx)) rfl ?_
    exact WP.retI hP_106 rfl rfl h7

set_option maxRecDepth 20000 in
theorem b_x_hangs_0 (X : mm_X) (d : Nat) (f : Nat → Int32) (fl : Nat → Int64) (g : Nat → Nat → Int32) (gl : Nat → Nat → Int64) (hh : Nat → Nat → Option Nat) (v : Nat → Value) (tx : mm_W) (p0 : Int64)  (P : Option Value → mm_W → Prop)
    (h : (((lg_cmp p0 0) < 0) → P (some (.int (-1))) (Wd f fl g gl hh v tx)) ∧
    ((¬ ((lg_cmp p0 0) < 0)) → ((((lg_cmp p0 3) ≤ 0) → ((((f 70) < 12) → ((((f 78) < 16) → ((¬ ((f 78) < 0 ∨ 16 ≤ (f 78).toNatClampNeg)) ∧ P (some (.int ((f 70) + (1 : Int32)))) (Wd (va_up (va_up (va_up f 71 ((((f 71) <<< ((2 : Int32) &&& (31 : Int32))) : Int32) ||| ((p0 : Int64).toInt32))) 70 ((f 70) + (1 : Int32))) 78 ((f 78) + (1 : Int32))) fl (va_up g 9 (upd (g 9) ((f 78).toNatClampNeg) (0 : Int32))) gl hh v tx))) ∧
          ((¬ ((f 78) < 16)) → P (some (.int ((f 70) + (1 : Int32)))) (Wd (va_up (va_up (va_up f 71 ((((f 71) <<< ((2 : Int32) &&& (31 : Int32))) : Int32) ||| ((p0 : Int64).toInt32))) 70 ((f 70) + (1 : Int32))) 78 16) fl (va_up (va_up g 9 (va_cpy (g 9) (g 9) 1 0 15)) 9 (upd (va_cpy (g 9) (g 9) 1 0 15) 15 (0 : Int32))) gl hh v tx)))) ∧
        ((¬ ((f 70) < 12)) → P (some (.int (-3))) (Wd f fl g gl hh v tx)))) ∧
      ((¬ ((lg_cmp p0 3) ≤ 0)) → P (some (.int (-1))) (Wd f fl g gl hh v tx))))) :
    WP X (d + 1) 105 (0, [some (.ref 0), some (.long p0), none], [], Wd f fl g gl hh v tx) P := by
  refine WP.run hP_105 3 (c' := (3, [some (.ref 0), some (.long p0), none], [.int (lg_cmp p0 0)], Wd f fl g gl hh v tx)) rfl ?_
  refine WP.br hP_105 (q := (lg_cmp p0 0) < 0) (t := 14) (f := 6) (L := [some (.ref 0), some (.long p0), none]) (st := []) (w := Wd f fl g gl hh v tx) rfl (fun c1 => ?_) (fun c1 => ?_)
  · have h2 := h.1 c1
    refine WP.run hP_105 1 (c' := (15, [none, none, none], [.int (-1)], Wd f fl g gl hh v tx)) rfl ?_
    exact WP.retI hP_105 rfl rfl h2
  · have h3 := h.2 c1
    refine WP.run hP_105 3 (c' := (11, [some (.ref 0), some (.long p0), none], [.int (lg_cmp p0 3)], Wd f fl g gl hh v tx)) rfl ?_
    refine WP.br hP_105 (q := (lg_cmp p0 3) ≤ 0) (t := 16) (f := 14) (L := [some (.ref 0), some (.long p0), none]) (st := []) (w := Wd f fl g gl hh v tx) rfl (fun c4 => ?_) (fun c4 => ?_)
    · have h5 := h3.1 c4
      refine WP.run hP_105 4 (c' := (25, [some (.ref 0), some (.long p0), none], [.int 12, .int (f 70)], Wd f fl g gl hh v tx)) rfl ?_
      refine WP.br hP_105 (q := (f 70) < 12) (t := 31) (f := 28) (L := [some (.ref 0), some (.long p0), none]) (st := []) (w := Wd f fl g gl hh v tx) rfl (fun c6 => ?_) (fun c6 => ?_)
      · have h7 := h5.1 c6
        refine WP.run hP_105 4 (c' := (37, [some (.ref 0), some (.long p0), none], [.int ((p0 : Int64).toInt32), .ref 1], Wd f fl g gl hh v tx)) rfl ?_
        refine WP.call hP_105 hP_49 (as := [.ref 1, .int ((p0 : Int64).toInt32)]) (pc' := 40) (L' := [some (.ref 0), some (.long p0), none]) (st' := []) (w1 := Wd f fl g gl hh v tx) rfl ⟨Nat.le_of_ble_eq_true rfl, Nat.le_of_ble_eq_true rfl⟩ rfl (b_yst_add_1_0 X (d) f fl g gl hh v tx ((p0 : Int64).toInt32) _ ?_)
        refine WP.run hP_105 3 (c' := (45, [some (.ref 0), some (.long p0), none], [.int 0, .ref 1], Wd (va_up (va_up f 71 ((((f 71) <<< ((2 : Int32) &&& (31 : Int32))) : Int32) ||| ((p0 : Int64).toInt32))) 70 ((f 70) + (1 : Int32))) fl g gl hh v tx)) rfl ?_
        refine WP.call hP_105 hP_51 (as := [.ref 1, .int 0]) (pc' := 48) (L' := [some (.ref 0), some (.long p0), none]) (st' := []) (w1 := Wd (va_up (va_up f 71 ((((f 71) <<< ((2 : Int32) &&& (31 : Int32))) : Int32) ||| ((p0 : Int64).toInt32))) 70 ((f 70) + (1 : Int32))) fl g gl hh v tx) rfl ⟨Nat.le_of_ble_eq_true rfl, Nat.le_of_ble_eq_true rfl⟩ rfl (b_yst_remember_1_0 X (d) (va_up (va_up f 71 ((((f 71) <<< ((2 : Int32) &&& (31 : Int32))) : Int32) ||| ((p0 : Int64).toInt32))) 70 ((f 70) + (1 : Int32))) fl g gl hh v tx 0 _ ?_)
        refine ⟨fun c8 => ?_, fun c8 => ?_⟩
        · have h9 := h7.1 c8
          refine ⟨h9.1, ?_⟩
          have h10 := h9.2
          refine WP.run hP_105 3 (c' := (55, [some (.ref 0), some (.long p0), none], [.int ((f 70) + (1 : Int32))], Wd (va_up (va_up (va_up f 71 ((((f 71) <<< ((2 : Int32) &&& (31 : Int32))) : Int32) ||| ((p0 : Int64).toInt32))) 70 ((f 70) + (1 : Int32))) 78 ((f 78) + (1 : Int32))) fl (va_up g 9 (upd (g 9) ((f 78).toNatClampNeg) (0 : Int32))) gl hh v tx)) rfl ?_
          exact WP.retI hP_105 rfl rfl h10
        · have h11 := h7.2 c8
          refine WP.run hP_105 3 (c' := (55, [some (.ref 0), some (.long p0), none], [.int ((f 70) + (1 : Int32))], Wd (va_up (va_up (va_up f 71 ((((f 71) <<< ((2 : Int32) &&& (31 : Int32))) : Int32) ||| ((p0 : Int64).toInt32))) 70 ((f 70) + (1 : Int32))) 78 16) fl (va_up (va_up g 9 (va_cpy (g 9) (g 9) 1 0 15)) 9 (upd (va_cpy (g 9) (g 9) 1 0 15) 15 (0 : Int32))) gl hh v tx)) rfl ?_
          exact WP.retI hP_105 rfl rfl h11
      · have h12 := h5.2 c6
        refine WP.run hP_105 1 (c' := (30, [some (.ref 0), some (.long p0), none], [.int (-3)], Wd f fl g gl hh v tx)) rfl ?_
        exact WP.retI hP_105 rfl rfl h12
    · have h13 := h3.2 c4
      refine WP.run hP_105 1 (c' := (15, [none, none, none], [.int (-1)], Wd f fl g gl hh v tx)) rfl ?_
      exact WP.retI hP_105 rfl rfl h13

set_option maxRecDepth 20000 in
theorem b_x_orders_0 (X : mm_X) (d : Nat) (f : Nat → Int32) (fl : Nat → Int64) (g : Nat → Nat → Int32) (gl : Nat → Nat → Int64) (hh : Nat → Nat → Option Nat) (v : Nat → Value) (tx : mm_W)   (P : Option Value → mm_W → Prop)
    (h : WP X (d) 33 (0, [some (.ref 31), some (.ref 30), some (.int (f 6)), some (.int 1), none, none, none, none, none, none], [], Wd (va_up (va_up f 6 0) 16 (-1)) fl g gl hh v tx) (fun rv w2 => WP X (d + 1) 70 (28, [some (.ref 0), some (.int (f 6)), none, none, none, none, none, none, none, none, none, none, none], rv.toList ++ [], w2) P)) :
    WP X (d + 1) 70 (0, [some (.ref 0), none, none, none, none, none, none, none, none, none, none, none, none], [], Wd f fl g gl hh v tx) P := by
  refine WP.run hP_70 15 (c' := (25, [some (.ref 0), some (.int (f 6)), none, none, none, none, none, none, none, none, none, none, none], [.int 1, .int (f 6), .ref 30, .ref 31], Wd (va_up (va_up f 6 0) 16 (-1)) fl g gl hh v tx)) rfl ?_
  refine WP.call hP_70 hP_33 (as := [.ref 31, .ref 30, .int (f 6), .int 1]) (pc' := 28) (L' := [some (.ref 0), some (.int (f 6)), none, none, none, none, none, none, none, none, none, none, none]) (st' := []) (w1 := Wd (va_up (va_up f 6 0) 16 (-1)) fl g gl hh v tx) rfl ⟨Nat.le_of_ble_eq_true rfl, Nat.le_of_ble_eq_true rfl⟩ rfl ?_
  exact h

set_option maxRecDepth 20000 in
theorem b_x_orders_28 (X : mm_X) (d : Nat) (f : Nat → Int32) (fl : Nat → Int64) (g : Nat → Nat → Int32) (gl : Nat → Nat → Int64) (hh : Nat → Nat → Option Nat) (v : Nat → Value) (tx : mm_W) (l1 : Int32) (s0 : Int32)  (P : Option Value → mm_W → Prop)
    (h : ((¬ s0 = 0) → WP X (d + 1) 45 (0, [some (.ref 10), some (.ref 1), none], [], Wd (va_up f 14 (f 1985)) fl g gl hh v tx) (fun rv w2 => WP X (d + 2) 70 (62, [some (.ref 0), none, none, none, none, none, none, none, none, none, none, none, none], rv.toList ++ [], w2) P)) ∧
    ((s0 = 0) → P (some (.int (-6))) (Wd (va_up (va_up f 14 (f 1985)) 18 (-6 : Int32)) fl (va_up g 55 (upd (g 55) (6) (((g 55) 6) + (1 : Int32)))) gl hh v tx))) :
    WP X (d + 2) 70 (28, [some (.ref 0), some (.int l1), none, none, none, none, none, none, none, none, none, none, none], [.int s0], Wd f fl g gl hh v tx) P := by
  refine WP.run hP_70 7 (c' := (41, [some (.ref 0), some (.int l1), some (.int s0), none, none, none, none, none, none, none, none, none, none], [.int s0], Wd (va_up f 14 (f 1985)) fl g gl hh v tx)) rfl ?_
  refine WP.br hP_70 (q := ¬ s0 = 0) (t := 51) (f := 44) (L := [some (.ref 0), some (.int l1), some (.int s0), none, none, none, none, none, none, none, none, none, none]) (st := []) (w := Wd (va_up f 14 (f 1985)) fl g gl hh v tx) rfl (fun c1 => ?_) (fun c1 => ?_)
  · have h2 := h.1 c1
    refine WP.run hP_70 4 (c' := (59, [some (.ref 0), none, none, none, none, none, none, none, none, none, none, none, none], [.ref 1, .ref 10], Wd (va_up f 14 (f 1985)) fl g gl hh v tx)) rfl ?_
    refine WP.call hP_70 hP_45 (as := [.ref 10, .ref 1]) (pc' := 62) (L' := [some (.ref 0), none, none, none, none, none, none, none, none, none, none, none, none]) (st' := []) (w1 := Wd (va_up f 14 (f 1985)) fl g gl hh v tx) rfl ⟨Nat.le_of_ble_eq_true rfl, Nat.le_of_ble_eq_true rfl⟩ rfl ?_
    exact h2
  · have h3 := h.2 (Classical.not_not.mp c1)
    refine WP.run hP_70 2 (c' := (47, [some (.ref 0), some (.int l1), some (.int s0), none, none, none, none, none, none, none, none, none, none], [.int (-6), .ref 0], Wd (va_up f 14 (f 1985)) fl g gl hh v tx)) rfl ?_
    refine WP.call hP_70 hP_101 (as := [.ref 0, .int (-6)]) (pc' := 50) (L' := [some (.ref 0), some (.int l1), some (.int s0), none, none, none, none, none, none, none, none, none, none]) (st' := []) (w1 := Wd (va_up f 14 (f 1985)) fl g gl hh v tx) rfl ⟨Nat.le_of_ble_eq_true rfl, Nat.le_of_ble_eq_true rfl⟩ rfl (b_x_refused_0 X (d) (va_up f 14 (f 1985)) fl g gl hh v tx (-6) _ ?_)
    refine ⟨fun c4 => ?_, fun c => absurd c (by decide)⟩
    refine ⟨by decide, ?_⟩
    refine ⟨by decide, ?_⟩
    exact WP.retI hP_70 rfl rfl h3

set_option maxRecDepth 20000 in
theorem b_x_orders_62 (X : mm_X) (d : Nat) (f : Nat → Int32) (fl : Nat → Int64) (g : Nat → Nat → Int32) (gl : Nat → Nat → Int64) (hh : Nat → Nat → Option Nat) (v : Nat → Value) (tx : mm_W)   (P : Option Value → mm_W → Prop)
    (h : WP X (d) 70 (79, [some (.ref 0), none, none, some (.ref 32), some (.int 0), some (.int (-1)), some (.int 0), none, none, none, none, none, none], [], Wd f fl g gl hh v tx) P) :
    WP X (d) 70 (62, [some (.ref 0), none, none, none, none, none, none, none, none, none, none, none, none], [], Wd f fl g gl hh v tx) P := by
  refine WP.run hP_70 5 (c' := (71, [some (.ref 0), none, none, some (.ref 32), none, none, none, none, none, none, none, none, none], [.int 0], Wd f fl g gl hh v tx)) rfl ?_
  refine WP.run hP_70 2 (c' := (74, [some (.ref 0), none, none, some (.ref 32), some (.int 0), none, none, none, none, none, none, none, none], [.int (-1)], Wd f fl g gl hh v tx)) rfl ?_
  refine WP.run hP_70 2 (c' := (77, [some (.ref 0), none, none, some (.ref 32), some (.int 0), some (.int (-1)), none, none, none, none, none, none, none], [.int 0], Wd f fl g gl hh v tx)) rfl ?_
  refine WP.run hP_70 1 (c' := (79, [some (.ref 0), none, none, some (.ref 32), some (.int 0), some (.int (-1)), some (.int 0), none, none, none, none, none, none], [], Wd f fl g gl hh v tx)) rfl ?_
  exact h

set_option maxRecDepth 20000 in
theorem b_x_orders_79 (X : mm_X) (d : Nat) (f : Nat → Int32) (fl : Nat → Int64) (g : Nat → Nat → Int32) (gl : Nat → Nat → Int64) (hh : Nat → Nat → Option Nat) (v : Nat → Value) (tx : mm_W) (l4 : Int32) (l5 : Int32) (l6 : Int32)  (P : Option Value → mm_W → Prop)
    (h : (((f 2048) ≤ l6) → P (some (.int l4)) (Wd (va_up f 18 0) fl g gl hh v tx)) ∧
    ((¬ ((f 2048) ≤ l6)) → (((((l6 * (5 : Int32)) + (0 : Int32)) < 0) → (((((l6 * (5 : Int32)) + (1 : Int32)) < 0) → WP X (d + 1) 70 (109, [some (.ref 0), none, none, some (.ref 32), some (.int l4), some (.int l5), some (.int l6), some (.int 0), some (.int 0), some (.int 0), none, none, none], [], Wd f fl g gl hh v tx) P) ∧
        ((¬ (((l6 * (5 : Int32)) + (1 : Int32)) < 0)) → (((60 ≤ ((l6 * (5 : Int32)) + (1 : Int32))) → WP X (d + 1) 70 (109, [some (.ref 0), none, none, some (.ref 32), some (.int l4), some (.int l5), some (.int l6), some (.int 0), some (.int 0), some (.int 0), none, none, none], [], Wd f fl g gl hh v tx) P) ∧
          ((¬ (60 ≤ ((l6 * (5 : Int32)) + (1 : Int32)))) → ((¬ (((l6 * (5 : Int32)) + (1 : Int32)) < 0 ∨ 60 ≤ ((l6 * (5 : Int32)) + (1 : Int32)).toNatClampNeg)) ∧ WP X (d + 1) 70 (109, [some (.ref 0), none, none, some (.ref 32), some (.int l4), some (.int l5), some (.int l6), some (.int 0), some (.int ((g 33) ((l6 * (5 : Int32)) + (1 : Int32)).toNatClampNeg)), some (.int 0), none, none, none], [], Wd f fl g gl hh v tx) P)))))) ∧
      ((¬ (((l6 * (5 : Int32)) + (0 : Int32)) < 0)) → (((60 ≤ ((l6 * (5 : Int32)) + (0 : Int32))) → (((((l6 * (5 : Int32)) + (1 : Int32)) < 0) → WP X (d + 1) 70 (109, [some (.ref 0), none, none, some (.ref 32), some (.int l4), some (.int l5), some (.int l6), some (.int 0), some (.int 0), some (.int 0), none, none, none], [], Wd f fl g gl hh v tx) P) ∧
          ((¬ (((l6 * (5 : Int32)) + (1 : Int32)) < 0)) → (((60 ≤ ((l6 * (5 : Int32)) + (1 : Int32))) → WP X (d + 1) 70 (109, [some (.ref 0), none, none, some (.ref 32), some (.int l4), some (.int l5), some (.int l6), some (.int 0), some (.int 0), some (.int 0), none, none, none], [], Wd f fl g gl hh v tx) P) ∧
            ((¬ (60 ≤ ((l6 * (5 : Int32)) + (1 : Int32)))) → ((¬ (((l6 * (5 : Int32)) + (1 : Int32)) < 0 ∨ 60 ≤ ((l6 * (5 : Int32)) + (1 : Int32)).toNatClampNeg)) ∧ WP X (d + 1) 70 (109, [some (.ref 0), none, none, some (.ref 32), some (.int l4), some (.int l5), some (.int l6), some (.int 0), some (.int ((g 33) ((l6 * (5 : Int32)) + (1 : Int32)).toNatClampNeg)), some (.int 0), none, none, none], [], Wd f fl g gl hh v tx) P)))))) ∧
        ((¬ (60 ≤ ((l6 * (5 : Int32)) + (0 : Int32)))) → ((¬ (((l6 * (5 : Int32)) + (0 : Int32)) < 0 ∨ 60 ≤ ((l6 * (5 : Int32)) + (0 : Int32)).toNatClampNeg)) ∧ (((((l6 * (5 : Int32)) + (1 : Int32)) < 0) → WP X (d + 1) 70 (109, [some (.ref 0), none, none, some (.ref 32), some (.int l4), some (.int l5), some (.int l6), some (.int ((g 33) ((l6 * (5 : Int32)) + (0 : Int32)).toNatClampNeg)), some (.int 0), some (.int 0), none, none, none], [], Wd f fl g gl hh v tx) P) ∧
          ((¬ (((l6 * (5 : Int32)) + (1 : Int32)) < 0)) → (((60 ≤ ((l6 * (5 : Int32)) + (1 : Int32))) → WP X (d + 1) 70 (109, [some (.ref 0), none, none, some (.ref 32), some (.int l4), some (.int l5), some (.int l6), some (.int ((g 33) ((l6 * (5 : Int32)) + (0 : Int32)).toNatClampNeg)), some (.int 0), some (.int 0), none, none, none], [], Wd f fl g gl hh v tx) P) ∧
            ((¬ (60 ≤ ((l6 * (5 : Int32)) + (1 : Int32)))) → ((¬ (((l6 * (5 : Int32)) + (1 : Int32)) < 0 ∨ 60 ≤ ((l6 * (5 : Int32)) + (1 : Int32)).toNatClampNeg)) ∧ WP X (d + 1) 70 (109, [some (.ref 0), none, none, some (.ref 32), some (.int l4), some (.int l5), some (.int l6), some (.int ((g 33) ((l6 * (5 : Int32)) + (0 : Int32)).toNatClampNeg)), some (.int ((g 33) ((l6 * (5 : Int32)) + (1 : Int32)).toNatClampNeg)), some (.int 0), none, none, none], [], Wd f fl g gl hh v tx) P)))))))))))) :
    WP X (d + 1) 70 (79, [some (.ref 0), none, none, some (.ref 32), some (.int l4), some (.int l5), some (.int l6), none, none, none, none, none, none], [], Wd f fl g gl hh v tx) P := by
  refine WP.run hP_70 3 (c' := (85, [some (.ref 0), none, none, some (.ref 32), some (.int l4), some (.int l5), some (.int l6), none, none, none, none, none, none], [.int (f 2048), .int l6], Wd f fl g gl hh v tx)) rfl ?_
  refine WP.br hP_70 (q := (f 2048) ≤ l6) (t := 271) (f := 88) (L := [some (.ref 0), none, none, some (.ref 32), some (.int l4), some (.int l5), some (.int l6), none, none, none, none, none, none]) (st := []) (w := Wd f fl g gl hh v tx) rfl (fun c1 => ?_) (fun c1 => ?_)
  · have h2 := h.1 c1
    refine WP.run hP_70 2 (c' := (274, [some (.ref 0), none, none, none, some (.int l4), none, none, none, none, none, none, none, none], [.int l4, .ref 0], Wd f fl g gl hh v tx)) rfl ?_
    refine WP.call hP_70 hP_100 (as := [.ref 0, .int l4]) (pc' := 277) (L' := [some (.ref 0), none, none, none, some (.int l4), none, none, none, none, none, none, none, none]) (st' := []) (w1 := Wd f fl g gl hh v tx) rfl ⟨Nat.le_of_ble_eq_true rfl, Nat.le_of_ble_eq_true rfl⟩ rfl (b_x_accepted_0 X (d) f fl g gl hh v tx l4 _ ?_)
    exact WP.retI hP_70 rfl rfl h2
  · have h3 := h.2 c1
    refine WP.run hP_70 3 (c' := (92, [some (.ref 0), none, none, some (.ref 32), some (.int l4), some (.int l5), some (.int l6), none, none, none, none, none, none], [.int 0, .int l6, .ref 32], Wd f fl g gl hh v tx)) rfl ?_
    refine WP.call hP_70 hP_56 (as := [.ref 32, .int l6, .int 0]) (pc' := 95) (L' := [some (.ref 0), none, none, some (.ref 32), some (.int l4), some (.int l5), some (.int l6), none, none, none, none, none, none]) (st' := []) (w1 := Wd f fl g gl hh v tx) rfl ⟨Nat.le_of_ble_eq_true rfl, Nat.le_of_ble_eq_true rfl⟩ rfl (b_yte_head_32_0 X (d) f fl g gl hh v tx l6 0 _ ?_)
    refine ⟨fun c4 => ?_, fun c4 => ?_⟩
    · have h5 := h3.1 c4
      refine WP.run hP_70 4 (c' := (101, [some (.ref 0), none, none, some (.ref 32), some (.int l4), some (.int l5), some (.int l6), some (.int 0), none, none, none, none, none], [.int 1, .int l6, .ref 32], Wd f fl g gl hh v tx)) rfl ?_
      refine WP.call hP_70 hP_56 (as := [.ref 32, .int l6, .int 1]) (pc' := 104) (L' := [some (.ref 0), none, none, some (.ref 32), some (.int l4), some (.int l5), some (.int l6), some (.int 0), none, none, none, none, none]) (st' := []) (w1 := Wd f fl g gl hh v tx) rfl ⟨Nat.le_of_ble_eq_true rfl, Nat.le_of_ble_eq_true rfl⟩ rfl (b_yte_head_32_0 X (d) f fl g gl hh v tx l6 1 _ ?_)
      refine ⟨fun c6 => ?_, fun c6 => ?_⟩
      · have h7 := h5.1 c6
        refine WP.run hP_70 2 (c' := (107, [some (.ref 0), none, none, some (.ref 32), some (.int l4), some (.int l5), some (.int l6), some (.int 0), some (.int 0), none, none, none, none], [.int 0], Wd f fl g gl hh v tx)) rfl ?_
        refine WP.run hP_70 1 (c' := (109, [some (.ref 0), none, none, some (.ref 32), some (.int l4), some (.int l5), some (.int l6), some (.int 0), some (.int 0), some (.int 0), none, none, none], [], Wd f fl g gl hh v tx)) rfl ?_
        exact h7
      · have h8 := h5.2 c6
        refine ⟨fun c9 => ?_, fun c9 => ?_⟩
        · have h10 := h8.1 c9
          refine WP.run hP_70 2 (c' := (107, [some (.ref 0), none, none, some (.ref 32), some (.int l4), some (.int l5), some (.int l6), some (.int 0), some (.int 0), none, none, none, none], [.int 0], Wd f fl g gl hh v tx)) rfl ?_
          refine WP.run hP_70 1 (c' := (109, [some (.ref 0), none, none, some (.ref 32), some (.int l4), some (.int l5), some (.int l6), some (.int 0), some (.int 0), some (.int 0), none, none, none], [], Wd f fl g gl hh v tx)) rfl ?_
          exact h10
        · have h11 := h8.2 c9
          refine ⟨h11.1, ?_⟩
          have h12 := h11.2
          refine WP.run hP_70 2 (c' := (107, [some (.ref 0), none, none, some (.ref 32), some (.int l4), some (.int l5), some (.int l6), some (.int 0), some (.int ((g 33) ((l6 * (5 : Int32)) + (1 : Int32)).toNatClampNeg)), none, none, none, none], [.int 0], Wd f fl g gl hh v tx)) rfl ?_
          refine WP.run hP_70 1 (c' := (109, [some (.ref 0), none, none, some (.ref 32), some (.int l4), some (.int l5), some (.int l6), some (.int 0), some (.int ((g 33) ((l6 * (5 : Int32)) + (1 : Int32)).toNatClampNeg)), some (.int 0), none, none, none], [], Wd f fl g gl hh v tx)) rfl ?_
          exact h12
    · have h13 := h3.2 c4
      refine ⟨fun c14 => ?_, fun c14 => ?_⟩
      · have h15 := h13.1 c14
        refine WP.run hP_70 4 (c' := (101, [some (.ref 0), none, none, some (.ref 32), some (.int l4), some (.int l5), some (.int l6), some (.int 0), none, none, none, none, none], [.int 1, .int l6, .ref 32], Wd f fl g gl hh v tx)) rfl ?_
        refine WP.call hP_70 hP_56 (as := [.ref 32, .int l6, .int 1]) (pc' := 104) (L' := [some (.ref 0), none, none, some (.ref 32), some (.int l4), some (.int l5), some (.int l6), some (.int 0), none, none, none, none, none]) (st' := []) (w1 := Wd f fl g gl hh v tx) rfl ⟨Nat.le_of_ble_eq_true rfl, Nat.le_of_ble_eq_true rfl⟩ rfl (b_yte_head_32_0 X (d) f fl g gl hh v tx l6 1 _ ?_)
        refine ⟨fun c16 => ?_, fun c16 => ?_⟩
        · have h17 := h15.1 c16
          refine WP.run hP_70 2 (c' := (107, [some (.ref 0), none, none, some (.ref 32), some (.int l4), some (.int l5), some (.int l6), some (.int 0), some (.int 0), none, none, none, none], [.int 0], Wd f fl g gl hh v tx)) rfl ?_
          refine WP.run hP_70 1 (c' := (109, [some (.ref 0), none, none, some (.ref 32), some (.int l4), some (.int l5), some (.int l6), some (.int 0), some (.int 0), some (.int 0), none, none, none], [], Wd f fl g gl hh v tx)) rfl ?_
          exact h17
        · have h18 := h15.2 c16
          refine ⟨fun c19 => ?_, fun c19 => ?_⟩
          · have h20 := h18.1 c19
            refine WP.run hP_70 2 (c' := (107, [some (.ref 0), none, none, some (.ref 32), some (.int l4), some (.int l5), some (.int l6), some (.int 0), some (.int 0), none, none, none, none], [.int 0], Wd f fl g gl hh v tx)) rfl ?_
            refine WP.run hP_70 1 (c' := (109, [some (.ref 0), none, none, some (.ref 32), some (.int l4), some (.int l5), some (.int l6), some (.int 0), some (.int 0), some (.int 0), none, none, none], [], Wd f fl g gl hh v tx)) rfl ?_
            exact h20
          · have h21 := h18.2 c19
            refine ⟨h21.1, ?_⟩
            have h22 := h21.2
            refine WP.run hP_70 2 (c' := (107, [some (.ref 0), none, none, some (.ref 32), some (.int l4), some (.int l5), some (.int l6), some (.int 0), some (.int ((g 33) ((l6 * (5 : Int32)) + (1 : Int32)).toNatClampNeg)), none, none, none, none], [.int 0], Wd f fl g gl hh v tx)) rfl ?_
            refine WP.run hP_70 1 (c' := (109, [some (.ref 0), none, none, some (.ref 32), some (.int l4), some (.int l5), some (.int l6), some (.int 0), some (.int ((g 33) ((l6 * (5 : Int32)) + (1 : Int32)).toNatClampNeg)), some (.int 0), none, none, none], [], Wd f fl g gl hh v tx)) rfl ?_
            exact h22
      · have h23 := h13.2 c14
        refine ⟨h23.1, ?_⟩
        have h24 := h23.2
        refine WP.run hP_70 4 (c' := (101, [some (.ref 0), none, none, some (.ref 32), some (.int l4), some (.int l5), some (.int l6), some (.int ((g 33) ((l6 * (5 : Int32)) + (0 : Int32)).toNatClampNeg)), none, none, none, none, none], [.int 1, .int l6, .ref 32], Wd f fl g gl hh v tx)) rfl ?_
        refine WP.call hP_70 hP_56 (as := [.ref 32, .int l6, .int 1]) (pc' := 104) (L' := [some (.ref 0), none, none, some (.ref 32), some (.int l4), some (.int l5), some (.int l6), some (.int ((g 33) ((l6 * (5 : Int32)) + (0 : Int32)).toNatClampNeg)), none, none, none, none, none]) (st' := []) (w1 := Wd f fl g gl hh v tx) rfl ⟨Nat.le_of_ble_eq_true rfl, Nat.le_of_ble_eq_true rfl⟩ rfl (b_yte_head_32_0 X (d) f fl g gl hh v tx l6 1 _ ?_)
        refine ⟨fun c25 => ?_, fun c25 => ?_⟩
        · have h26 := h24.1 c25
          refine WP.run hP_70 2 (c' := (107, [some (.ref 0), none, none, some (.ref 32), some (.int l4), some (.int l5), some (.int l6), some (.int ((g 33) ((l6 * (5 : Int32)) + (0 : Int32)).toNatClampNeg)), some (.int 0), none, none, none, none], [.int 0], Wd f fl g gl hh v tx)) rfl ?_
          refine WP.run hP_70 1 (c' := (109, [some (.ref 0), none, none, some (.ref 32), some (.int l4), some (.int l5), some (.int l6), some (.int ((g 33) ((l6 * (5 : Int32)) + (0 : Int32)).toNatClampNeg)), some (.int 0), some (.int 0), none, none, none], [], Wd f fl g gl hh v tx)) rfl ?_
          exact h26
        · have h27 := h24.2 c25
          refine ⟨fun c28 => ?_, fun c28 => ?_⟩
          · have h29 := h27.1 c28
            refine WP.run hP_70 2 (c' := (107, [some (.ref 0), none, none, some (.ref 32), some (.int l4), some (.int l5), some (.int l6), some (.int ((g 33) ((l6 * (5 : Int32)) + (0 : Int32)).toNatClampNeg)), some (.int 0), none, none, none, none], [.int 0], Wd f fl g gl hh v tx)) rfl ?_
            refine WP.run hP_70 1 (c' := (109, [some (.ref 0), none, none, some (.ref 32), some (.int l4), some (.int l5), some (.int l6), some (.int ((g 33) ((l6 * (5 : Int32)) + (0 : Int32)).toNatClampNeg)), some (.int 0), some (.int 0), none, none, none], [], Wd f fl g gl hh v tx)) rfl ?_
            exact h29
          · have h30 := h27.2 c28
            refine ⟨h30.1, ?_⟩
            have h31 := h30.2
            refine WP.run hP_70 2 (c' := (107, [some (.ref 0), none, none, some (.ref 32), some (.int l4), some (.int l5), some (.int l6), some (.int ((g 33) ((l6 * (5 : Int32)) + (0 : Int32)).toNatClampNeg)), some (.int ((g 33) ((l6 * (5 : Int32)) + (1 : Int32)).toNatClampNeg)), none, none, none, none], [.int 0], Wd f fl g gl hh v tx)) rfl ?_
            refine WP.run hP_70 1 (c' := (109, [some (.ref 0), none, none, some (.ref 32), some (.int l4), some (.int l5), some (.int l6), some (.int ((g 33) ((l6 * (5 : Int32)) + (0 : Int32)).toNatClampNeg)), some (.int ((g 33) ((l6 * (5 : Int32)) + (1 : Int32)).toNatClampNeg)), some (.int 0), none, none, none], [], Wd f fl g gl hh v tx)) rfl ?_
            exact h31

set_option maxRecDepth 20000 in
theorem b_x_orders_109 (X : mm_X) (d : Nat) (f : Nat → Int32) (fl : Nat → Int64) (g : Nat → Nat → Int32) (gl : Nat → Nat → Int64) (hh : Nat → Nat → Option Nat) (v : Nat → Value) (tx : mm_W) (l4 : Int32) (l5 : Int32) (l6 : Int32) (l7 : Int32) (l8 : Int32) (l9 : Int32)  (P : Option Value → mm_W → Prop)
    (h : ((l8 ≤ l9) → WP X (d + 1) 70 (79, [some (.ref 0), none, none, some (.ref 32), some (.int l4), some (.int l5), some (.int (l6 + (1 : Int32))), none, none, none, none, none, none], [], Wd f fl g gl hh v tx) P) ∧
    ((¬ (l8 ≤ l9)) → WP X (d) 104 (0, [some (.ref 0), some (.int l4), some (.int l5), none, none], [], Wd f fl g gl hh v tx) (fun rv w2 => WP X (d + 1) 70 (124, [some (.ref 0), none, none, some (.ref 32), some (.int l4), some (.int l5), some (.int l6), some (.int l7), some (.int l8), some (.int l9), none, none, none], rv.toList ++ [], w2) P))) :
    WP X (d + 1) 70 (109, [some (.ref 0), none, none, some (.ref 32), some (.int l4), some (.int l5), some (.int l6), some (.int l7), some (.int l8), some (.int l9), none, none, none], [], Wd f fl g gl hh v tx) P := by
  refine WP.run hP_70 2 (c' := (113, [some (.ref 0), none, none, some (.ref 32), some (.int l4), some (.int l5), some (.int l6), some (.int l7), some (.int l8), some (.int l9), none, none, none], [.int l8, .int l9], Wd f fl g gl hh v tx)) rfl ?_
  refine WP.br hP_70 (q := l8 ≤ l9) (t := 265) (f := 116) (L := [some (.ref 0), none, none, some (.ref 32), some (.int l4), some (.int l5), some (.int l6), some (.int l7), some (.int l8), some (.int l9), none, none, none]) (st := []) (w := Wd f fl g gl hh v tx) rfl (fun c1 => ?_) (fun c1 => ?_)
  · have h2 := h.1 c1
    refine WP.run hP_70 2 (c' := (79, [some (.ref 0), none, none, some (.ref 32), some (.int l4), some (.int l5), some (.int (l6 + (1 : Int32))), none, none, none, none, none, none], [], Wd f fl g gl hh v tx)) rfl ?_
    exact h2
  · have h3 := h.2 c1
    refine WP.run hP_70 3 (c' := (121, [some (.ref 0), none, none, some (.ref 32), some (.int l4), some (.int l5), some (.int l6), some (.int l7), some (.int l8), some (.int l9), none, none, none], [.int l5, .int l4, .ref 0], Wd f fl g gl hh v tx)) rfl ?_
    refine WP.call hP_70 hP_104 (as := [.ref 0, .int l4, .int l5]) (pc' := 124) (L' := [some (.ref 0), none, none, some (.ref 32), some (.int l4), some (.int l5), some (.int l6), some (.int l7), some (.int l8), some (.int l9), none, none, none]) (st' := []) (w1 := Wd f fl g gl hh v tx) rfl ⟨Nat.le_of_ble_eq_true rfl, Nat.le_of_ble_eq_true rfl⟩ rfl ?_
    exact h3

set_option maxRecDepth 20000 in
theorem b_x_orders_124 (X : mm_X) (d : Nat) (f : Nat → Int32) (fl : Nat → Int64) (g : Nat → Nat → Int32) (gl : Nat → Nat → Int64) (hh : Nat → Nat → Option Nat) (v : Nat → Value) (tx : mm_W) (l4 : Int32) (l5 : Int32) (l6 : Int32) (l7 : Int32) (l8 : Int32) (l9 : Int32)  (P : Option Value → mm_W → Prop)
    (h : WP X (d) 30 (0, [some (.ref 35), some (.ref 32), some (.int l6), some (.int 3), some (.ref 37), none, none, none, none, none, none, none, none], [], Wd f fl g gl hh v tx) (fun rv w2 => WP X (d + 1) 70 (139, [some (.ref 0), none, none, some (.ref 32), some (.int l4), some (.int l5), some (.int l6), some (.int l7), some (.int l8), some (.int l9), none, none, none], rv.toList ++ [], w2) P)) :
    WP X (d + 1) 70 (124, [some (.ref 0), none, none, some (.ref 32), some (.int l4), some (.int l5), some (.int l6), some (.int l7), some (.int l8), some (.int l9), none, none, none], [], Wd f fl g gl hh v tx) P := by
  refine WP.run hP_70 7 (c' := (136, [some (.ref 0), none, none, some (.ref 32), some (.int l4), some (.int l5), some (.int l6), some (.int l7), some (.int l8), some (.int l9), none, none, none], [.ref 37, .int 3, .int l6, .ref 32, .ref 35], Wd f fl g gl hh v tx)) rfl ?_
  refine WP.call hP_70 hP_30 (as := [.ref 35, .ref 32, .int l6, .int 3, .ref 37]) (pc' := 139) (L' := [some (.ref 0), none, none, some (.ref 32), some (.int l4), some (.int l5), some (.int l6), some (.int l7), some (.int l8), some (.int l9), none, none, none]) (st' := []) (w1 := Wd f fl g gl hh v tx) rfl ⟨Nat.le_of_ble_eq_true rfl, Nat.le_of_ble_eq_true rfl⟩ rfl ?_
  exact h

set_option maxRecDepth 20000 in
theorem b_x_orders_139 (X : mm_X) (d : Nat) (f : Nat → Int32) (fl : Nat → Int64) (g : Nat → Nat → Int32) (gl : Nat → Nat → Int64) (hh : Nat → Nat → Option Nat) (v : Nat → Value) (tx : mm_W) (l4 : Int32) (l5 : Int32) (l6 : Int32) (l7 : Int32) (l8 : Int32) (l9 : Int32) (s0 : Int64)  (P : Option Value → mm_W → Prop)
    (h : (((lg_cmp s0 1) = 0) → WP X (d) 30 (0, [some (.ref 35), some (.ref 32), some (.int l6), some (.int 2), some (.ref 37), none, none, none, none, none, none, none, none], [], Wd f fl g gl hh v tx) (fun rv w2 => WP X (d + 1) 70 (162, [some (.ref 0), none, none, some (.ref 32), some (.int l4), some (.int l5), some (.int l6), some (.int l7), some (.int l8), some (.int l9), none, none, none], rv.toList ++ [], w2) P)) ∧
    ((¬ (lg_cmp s0 1) = 0) → WP X (d + 1) 70 (109, [some (.ref 0), none, none, some (.ref 32), some (.int l4), some (.int l5), some (.int l6), some (.int l7), some (.int l8), some (.int (l9 + (1 : Int32))), none, none, none], [], Wd f fl g gl hh v tx) P)) :
    WP X (d + 1) 70 (139, [some (.ref 0), none, none, some (.ref 32), some (.int l4), some (.int l5), some (.int l6), some (.int l7), some (.int l8), some (.int l9), none, none, none], [.long s0], Wd f fl g gl hh v tx) P := by
  refine WP.run hP_70 2 (c' := (141, [some (.ref 0), none, none, some (.ref 32), some (.int l4), some (.int l5), some (.int l6), some (.int l7), some (.int l8), some (.int l9), none, none, none], [.int (lg_cmp s0 1)], Wd f fl g gl hh v tx)) rfl ?_
  refine WP.br hP_70 (q := (lg_cmp s0 1) = 0) (t := 147) (f := 144) (L := [some (.ref 0), none, none, some (.ref 32), some (.int l4), some (.int l5), some (.int l6), some (.int l7), some (.int l8), some (.int l9), none, none, none]) (st := []) (w := Wd f fl g gl hh v tx) rfl (fun c1 => ?_) (fun c1 => ?_)
  · have h2 := h.1 c1
    refine WP.run hP_70 7 (c' := (159, [some (.ref 0), none, none, some (.ref 32), some (.int l4), some (.int l5), some (.int l6), some (.int l7), some (.int l8), some (.int l9), none, none, none], [.ref 37, .int 2, .int l6, .ref 32, .ref 35], Wd f fl g gl hh v tx)) rfl ?_
    refine WP.call hP_70 hP_30 (as := [.ref 35, .ref 32, .int l6, .int 2, .ref 37]) (pc' := 162) (L' := [some (.ref 0), none, none, some (.ref 32), some (.int l4), some (.int l5), some (.int l6), some (.int l7), some (.int l8), some (.int l9), none, none, none]) (st' := []) (w1 := Wd f fl g gl hh v tx) rfl ⟨Nat.le_of_ble_eq_true rfl, Nat.le_of_ble_eq_true rfl⟩ rfl ?_
    exact h2
  · have h3 := h.2 c1
    refine WP.run hP_70 3 (c' := (109, [some (.ref 0), none, none, some (.ref 32), some (.int l4), some (.int l5), some (.int l6), some (.int l7), some (.int l8), some (.int (l9 + (1 : Int32))), none, none, none], [], Wd f fl g gl hh v tx)) rfl ?_
    exact h3

set_option maxRecDepth 20000 in
theorem b_x_orders_162 (X : mm_X) (d : Nat) (f : Nat → Int32) (fl : Nat → Int64) (g : Nat → Nat → Int32) (gl : Nat → Nat → Int64) (hh : Nat → Nat → Option Nat) (v : Nat → Value) (tx : mm_W) (l4 : Int32) (l5 : Int32) (l6 : Int32) (l7 : Int32) (l8 : Int32) (l9 : Int32) (s0 : Int64)  (P : Option Value → mm_W → Prop)
    (h : ((¬ l7 = 0) → (((¬ l7 = 1) → (((¬ l7 = 2) → (((((g 8) 0) < 999) → ((((f 78) < 16) → ((¬ ((f 78) < 0 ∨ 16 ≤ (f 78).toNatClampNeg)) ∧ WP X (d + 2) 70 (210, [some (.ref 0), none, none, some (.ref 32), some (.int l4), some (.int l5), some (.int l6), some (.int l7), some (.int l8), some (.int l9), none, none, none], [.int ((upd (g 8) 0 (((g 8) 0) + (1 : Int32))) 0)], Wd (va_up f 78 ((f 78) + (1 : Int32))) fl (va_up (va_up g 8 (upd (g 8) 0 (((g 8) 0) + (1 : Int32)))) 9 (upd (g 9) ((f 78).toNatClampNeg) (3 : Int32))) gl hh v tx) P)) ∧
            ((¬ ((f 78) < 16)) → WP X (d + 2) 70 (210, [some (.ref 0), none, none, some (.ref 32), some (.int l4), some (.int l5), some (.int l6), some (.int l7), some (.int l8), some (.int l9), none, none, none], [.int ((upd (g 8) 0 (((g 8) 0) + (1 : Int32))) 0)], Wd (va_up f 78 16) fl (va_up (va_up (va_up g 8 (upd (g 8) 0 (((g 8) 0) + (1 : Int32)))) 9 (va_cpy (g 9) (g 9) 1 0 15)) 9 (upd (va_cpy (g 9) (g 9) 1 0 15) 15 (3 : Int32))) gl hh v tx) P))) ∧
          ((¬ (((g 8) 0) < 999)) → WP X (d + 2) 70 (210, [some (.ref 0), none, none, some (.ref 32), some (.int l4), some (.int l5), some (.int l6), some (.int l7), some (.int l8), some (.int l9), none, none, none], [.int (-3)], Wd f fl g gl hh v tx) P))) ∧
        ((l7 = 2) → WP X (d + 1) 107 (0, [some (.ref 0), some (.long s0), none, none], [], Wd f fl g gl hh v tx) (fun rv w2 => WP X (d + 2) 70 (203, [some (.ref 0), none, none, some (.ref 32), some (.int l4), some (.int l5), some (.int l6), some (.int l7), some (.int l8), some (.int l9), some (.long s0), none, none], rv.toList ++ [], w2) P)))) ∧
      ((l7 = 1) → (((¬ (f 70) = 0) → ((((f 78) < 16) → ((¬ ((f 78) < 0 ∨ 16 ≤ (f 78).toNatClampNeg)) ∧ WP X (d + 2) 70 (210, [some (.ref 0), none, none, some (.ref 32), some (.int l4), some (.int l5), some (.int l6), some (.int l7), some (.int l8), some (.int l9), none, none, none], [.int ((f 71) &&& (3 : Int32))], Wd (va_up (va_up (va_up f 71 (((f 71) >>> ((2 : Int32) &&& (31 : Int32))) : Int32)) 70 ((f 70) - (1 : Int32))) 78 ((f 78) + (1 : Int32))) fl (va_up g 9 (upd (g 9) ((f 78).toNatClampNeg) ((1 : Int32) ||| ((((f 71) &&& (3 : Int32)) <<< ((2 : Int32) &&& (31 : Int32))) : Int32)))) gl hh v tx) P)) ∧
          ((¬ ((f 78) < 16)) → WP X (d + 2) 70 (210, [some (.ref 0), none, none, some (.ref 32), some (.int l4), some (.int l5), some (.int l6), some (.int l7), some (.int l8), some (.int l9), none, none, none], [.int ((f 71) &&& (3 : Int32))], Wd (va_up (va_up (va_up f 71 (((f 71) >>> ((2 : Int32) &&& (31 : Int32))) : Int32)) 70 ((f 70) - (1 : Int32))) 78 16) fl (va_up (va_up g 9 (va_cpy (g 9) (g 9) 1 0 15)) 9 (upd (va_cpy (g 9) (g 9) 1 0 15) 15 ((1 : Int32) ||| ((((f 71) &&& (3 : Int32)) <<< ((2 : Int32) &&& (31 : Int32))) : Int32)))) gl hh v tx) P))) ∧
        (((f 70) = 0) → WP X (d + 2) 70 (210, [some (.ref 0), none, none, some (.ref 32), some (.int l4), some (.int l5), some (.int l6), some (.int l7), some (.int l8), some (.int l9), none, none, none], [.int (-3)], Wd f fl g gl hh v tx) P))))) ∧
    ((l7 = 0) → WP X (d + 1) 105 (0, [some (.ref 0), some (.long s0), none], [], Wd f fl g gl hh v tx) (fun rv w2 => WP X (d + 2) 70 (175, [some (.ref 0), none, none, some (.ref 32), some (.int l4), some (.int l5), some (.int l6), some (.int l7), some (.int l8), some (.int l9), some (.long s0), none, none], rv.toList ++ [], w2) P))) :
    WP X (d + 2) 70 (162, [some (.ref 0), none, none, some (.ref 32), some (.int l4), some (.int l5), some (.int l6), some (.int l7), some (.int l8), some (.int l9), none, none, none], [.long s0], Wd f fl g gl hh v tx) P := by
  refine WP.run hP_70 2 (c' := (166, [some (.ref 0), none, none, some (.ref 32), some (.int l4), some (.int l5), some (.int l6), some (.int l7), some (.int l8), some (.int l9), some (.long s0), none, none], [.int l7], Wd f fl g gl hh v tx)) rfl ?_
  refine WP.br hP_70 (q := ¬ l7 = 0) (t := 178) (f := 169) (L := [some (.ref 0), none, none, some (.ref 32), some (.int l4), some (.int l5), some (.int l6), some (.int l7), some (.int l8), some (.int l9), some (.long s0), none, none]) (st := []) (w := Wd f fl g gl hh v tx) rfl (fun c1 => ?_) (fun c1 => ?_)
  · have h2 := h.1 c1
    refine WP.run hP_70 2 (c' := (181, [some (.ref 0), none, none, some (.ref 32), some (.int l4), some (.int l5), some (.int l6), some (.int l7), some (.int l8), some (.int l9), some (.long s0), none, none], [.int 1, .int l7], Wd f fl g gl hh v tx)) rfl ?_
    refine WP.br hP_70 (q := ¬ l7 = 1) (t := 191) (f := 184) (L := [some (.ref 0), none, none, some (.ref 32), some (.int l4), some (.int l5), some (.int l6), some (.int l7), some (.int l8), some (.int l9), some (.long s0), none, none]) (st := []) (w := Wd f fl g gl hh v tx) rfl (fun c3 => ?_) (fun c3 => ?_)
    · have h4 := h2.1 c3
      refine WP.run hP_70 2 (c' := (194, [some (.ref 0), none, none, some (.ref 32), some (.int l4), some (.int l5), some (.int l6), some (.int l7), some (.int l8), some (.int l9), some (.long s0), none, none], [.int 2, .int l7], Wd f fl g gl hh v tx)) rfl ?_
      refine WP.br hP_70 (q := ¬ l7 = 2) (t := 206) (f := 197) (L := [some (.ref 0), none, none, some (.ref 32), some (.int l4), some (.int l5), some (.int l6), some (.int l7), some (.int l8), some (.int l9), some (.long s0), none, none]) (st := []) (w := Wd f fl g gl hh v tx) rfl (fun c5 => ?_) (fun c5 => ?_)
      · have h6 := h4.1 c5
        refine WP.run hP_70 1 (c' := (207, [some (.ref 0), none, none, some (.ref 32), some (.int l4), some (.int l5), some (.int l6), some (.int l7), some (.int l8), some (.int l9), none, none, none], [.ref 0], Wd f fl g gl hh v tx)) rfl ?_
        refine WP.call hP_70 hP_108 (as := [.ref 0]) (pc' := 210) (L' := [some (.ref 0), none, none, some (.ref 32), some (.int l4), some (.int l5), some (.int l6), some (.int l7), some (.int l8), some (.int l9), none, none, none]) (st' := []) (w1 := Wd f fl g gl hh v tx) rfl ⟨Nat.le_of_ble_eq_true rfl, Nat.le_of_ble_eq_true rfl⟩ rfl (b_x_passes_0 X (d) f fl g gl hh v tx  _ ?_)
        refine ⟨fun c7 => ?_, fun c7 => ?_⟩
        · have h8 := h6.1 c7
          refine ⟨fun c9 => ?_, fun c9 => ?_⟩
          · have h10 := h8.1 c9
            refine ⟨h10.1, ?_⟩
            have h11 := h10.2
            exact h11
          · have h12 := h8.2 c9
            exact h12
        · have h13 := h6.2 c7
          exact h13
      · have h14 := h4.2 (Classical.not_not.mp c5)
        refine WP.run hP_70 2 (c' := (200, [some (.ref 0), none, none, some (.ref 32), some (.int l4), some (.int l5), some (.int l6), some (.int l7), some (.int l8), some (.int l9), some (.long s0), none, none], [.long s0, .ref 0], Wd f fl g gl hh v tx)) rfl ?_
        refine WP.call hP_70 hP_107 (as := [.ref 0, .long s0]) (pc' := 203) (L' := [some (.ref 0), none, none, some (.ref 32), some (.int l4), some (.int l5), some (.int l6), some (.int l7), some (.int l8), some (.int l9), some (.long s0), none, none]) (st' := []) (w1 := Wd f fl g gl hh v tx) rfl ⟨Nat.le_of_ble_eq_true rfl, Nat.le_of_ble_eq_true rfl⟩ rfl ?_
        exact h14
    · have h15 := h2.2 (Classical.not_not.mp c3)
      refine WP.run hP_70 1 (c' := (185, [some (.ref 0), none, none, some (.ref 32), some (.int l4), some (.int l5), some (.int l6), some (.int l7), some (.int l8), some (.int l9), some (.long s0), none, none], [.ref 0], Wd f fl g gl hh v tx)) rfl ?_
      refine WP.call hP_70 hP_106 (as := [.ref 0]) (pc' := 188) (L' := [some (.ref 0), none, none, some (.ref 32), some (.int l4), some (.int l5), some (.int l6), some (.int l7), some (.int l8), some (.int l9), some (.long s0), none, none]) (st' := []) (w1 := Wd f fl g gl hh v tx) rfl ⟨Nat.le_of_ble_eq_true rfl, Nat.le_of_ble_eq_true rfl⟩ rfl (b_x_takes_0 X (d) f fl g gl hh v tx  _ ?_)
      refine ⟨fun c16 => ?_, fun c16 => ?_⟩
      · have h17 := h15.1 c16
        refine ⟨fun c18 => ?_, fun c18 => ?_⟩
        · have h19 := h17.1 c18
          refine ⟨h19.1, ?_⟩
          have h20 := h19.2
          refine WP.run hP_70 1 (c' := (210, [some (.ref 0), none, none, some (.ref 32), some (.int l4), some (.int l5), some (.int l6), some (.int l7), some (.int l8), some (.int l9), some (.long s0), none, none], [.int ((f 71) &&& (3 : Int32))], Wd (va_up (va_up (va_up f 71 (((f 71) >>> ((2 : Int32) &&& (31 : Int32))) : Int32)) 70 ((f 70) - (1 : Int32))) 78 ((f 78) + (1 : Int32))) fl (va_up g 9 (upd (g 9) ((f 78).toNatClampNeg) ((1 : Int32) ||| ((((f 71) &&& (3 : Int32)) <<< ((2 : Int32) &&& (31 : Int32))) : Int32)))) gl hh v tx)) rfl ?_
          refine WP.clr hP_70 (pc := 210) rfl ?_
          exact h20
        · have h21 := h17.2 c18
          refine WP.run hP_70 1 (c' := (210, [some (.ref 0), none, none, some (.ref 32), some (.int l4), some (.int l5), some (.int l6), some (.int l7), some (.int l8), some (.int l9), some (.long s0), none, none], [.int ((f 71) &&& (3 : Int32))], Wd (va_up (va_up (va_up f 71 (((f 71) >>> ((2 : Int32) &&& (31 : Int32))) : Int32)) 70 ((f 70) - (1 : Int32))) 78 16) fl (va_up (va_up g 9 (va_cpy (g 9) (g 9) 1 0 15)) 9 (upd (va_cpy (g 9) (g 9) 1 0 15) 15 ((1 : Int32) ||| ((((f 71) &&& (3 : Int32)) <<< ((2 : Int32) &&& (31 : Int32))) : Int32)))) gl hh v tx)) rfl ?_
          refine WP.clr hP_70 (pc := 210) rfl ?_
          exact h21
      · have h22 := h15.2 c16
        refine WP.run hP_70 1 (c' := (210, [some (.ref 0), none, none, some (.ref 32), some (.int l4), some (.int l5), some (.int l6), some (.int l7), some (.int l8), some (.int l9), some (.long s0), none, none], [.int (-3)], Wd f fl g gl hh v tx)) rfl ?_
        refine WP.clr hP_70 (pc := 210) rfl ?_
        exact h22
  · have h23 := h.2 (Classical.not_not.mp c1)
    refine WP.run hP_70 2 (c' := (172, [some (.ref 0), none, none, some (.ref 32), some (.int l4), some (.int l5), some (.int l6), some (.int l7), some (.int l8), some (.int l9), some (.long s0), none, none], [.long s0, .ref 0], Wd f fl g gl hh v tx)) rfl ?_
    refine WP.call hP_70 hP_105 (as := [.ref 0, .long s0]) (pc' := 175) (L' := [some (.ref 0), none, none, some (.ref 32), some (.int l4), some (.int l5), some (.int l6), some (.int l7), some (.int l8), some (.int l9), some (.long s0), none, none]) (st' := []) (w1 := Wd f fl g gl hh v tx) rfl ⟨Nat.le_of_ble_eq_true rfl, Nat.le_of_ble_eq_true rfl⟩ rfl ?_
    exact h23

set_option maxRecDepth 20000 in
theorem b_x_orders_210 (X : mm_X) (d : Nat) (f : Nat → Int32) (fl : Nat → Int64) (g : Nat → Nat → Int32) (gl : Nat → Nat → Int64) (hh : Nat → Nat → Option Nat) (v : Nat → Value) (tx : mm_W) (l4 : Int32) (l5 : Int32) (l6 : Int32) (l7 : Int32) (l8 : Int32) (l9 : Int32) (s0 : Int32)  (P : Option Value → mm_W → Prop)
    (h : ((0 ≤ s0) → (((¬ l7 = 2) → WP X (d + 1) 70 (109, [some (.ref 0), none, none, some (.ref 32), some (.int (l4 + (1 : Int32))), some (.int l5), some (.int l6), some (.int l7), some (.int l8), some (.int (l9 + (1 : Int32))), none, none, none], [], Wd f fl g gl hh v tx) P) ∧
      ((l7 = 2) → WP X (d + 1) 70 (109, [some (.ref 0), none, none, some (.ref 32), some (.int (l4 + (1 : Int32))), some (.int s0), some (.int l6), some (.int l7), some (.int l8), some (.int (l9 + (1 : Int32))), none, none, none], [], Wd f fl g gl hh v tx) P))) ∧
    ((¬ (0 ≤ s0)) → WP X (d) 45 (0, [some (.ref 1), some (.ref 10), none], [], Wd f fl g gl hh v tx) (fun rv w2 => WP X (d + 1) 70 (228, [some (.ref 0), none, none, some (.ref 32), some (.int l4), some (.int l5), some (.int l6), some (.int l7), some (.int l8), some (.int l9), none, none, some (.int s0)], rv.toList ++ [], w2) P))) :
    WP X (d + 1) 70 (210, [some (.ref 0), none, none, some (.ref 32), some (.int l4), some (.int l5), some (.int l6), some (.int l7), some (.int l8), some (.int l9), none, none, none], [.int s0], Wd f fl g gl hh v tx) P := by
  refine WP.run hP_70 2 (c' := (214, [some (.ref 0), none, none, some (.ref 32), some (.int l4), some (.int l5), some (.int l6), some (.int l7), some (.int l8), some (.int l9), none, none, some (.int s0)], [.int s0], Wd f fl g gl hh v tx)) rfl ?_
  refine WP.br hP_70 (q := 0 ≤ s0) (t := 241) (f := 217) (L := [some (.ref 0), none, none, some (.ref 32), some (.int l4), some (.int l5), some (.int l6), some (.int l7), some (.int l8), some (.int l9), none, none, some (.int s0)]) (st := []) (w := Wd f fl g gl hh v tx) rfl (fun c1 => ?_) (fun c1 => ?_)
  · have h2 := h.1 c1
    refine WP.run hP_70 3 (c' := (247, [some (.ref 0), none, none, some (.ref 32), some (.int (l4 + (1 : Int32))), some (.int l5), some (.int l6), some (.int l7), some (.int l8), some (.int l9), none, none, some (.int s0)], [.int 2, .int l7], Wd f fl g gl hh v tx)) rfl ?_
    refine WP.br hP_70 (q := ¬ l7 = 2) (t := 255) (f := 250) (L := [some (.ref 0), none, none, some (.ref 32), some (.int (l4 + (1 : Int32))), some (.int l5), some (.int l6), some (.int l7), some (.int l8), some (.int l9), none, none, some (.int s0)]) (st := []) (w := Wd f fl g gl hh v tx) rfl (fun c3 => ?_) (fun c3 => ?_)
    · have h4 := h2.1 c3
      refine WP.run hP_70 1 (c' := (257, [some (.ref 0), none, none, some (.ref 32), some (.int (l4 + (1 : Int32))), some (.int l5), some (.int l6), some (.int l7), some (.int l8), some (.int l9), none, none, none], [.int l5], Wd f fl g gl hh v tx)) rfl ?_
      refine WP.run hP_70 1 (c' := (259, [some (.ref 0), none, none, some (.ref 32), some (.int (l4 + (1 : Int32))), some (.int l5), some (.int l6), some (.int l7), some (.int l8), some (.int l9), none, none, none], [], Wd f fl g gl hh v tx)) rfl ?_
      refine WP.run hP_70 2 (c' := (109, [some (.ref 0), none, none, some (.ref 32), some (.int (l4 + (1 : Int32))), some (.int l5), some (.int l6), some (.int l7), some (.int l8), some (.int (l9 + (1 : Int32))), none, none, none], [], Wd f fl g gl hh v tx)) rfl ?_
      exact h4
    · have h5 := h2.2 (Classical.not_not.mp c3)
      refine WP.run hP_70 3 (c' := (259, [some (.ref 0), none, none, some (.ref 32), some (.int (l4 + (1 : Int32))), some (.int s0), some (.int l6), some (.int l7), some (.int l8), some (.int l9), none, none, none], [], Wd f fl g gl hh v tx)) rfl ?_
      refine WP.run hP_70 2 (c' := (109, [some (.ref 0), none, none, some (.ref 32), some (.int (l4 + (1 : Int32))), some (.int s0), some (.int l6), some (.int l7), some (.int l8), some (.int (l9 + (1 : Int32))), none, none, none], [], Wd f fl g gl hh v tx)) rfl ?_
      exact h5
  · have h6 := h.2 c1
    refine WP.run hP_70 4 (c' := (225, [some (.ref 0), none, none, some (.ref 32), some (.int l4), some (.int l5), some (.int l6), some (.int l7), some (.int l8), some (.int l9), none, none, some (.int s0)], [.ref 10, .ref 1], Wd f fl g gl hh v tx)) rfl ?_
    refine WP.call hP_70 hP_45 (as := [.ref 1, .ref 10]) (pc' := 228) (L' := [some (.ref 0), none, none, some (.ref 32), some (.int l4), some (.int l5), some (.int l6), some (.int l7), some (.int l8), some (.int l9), none, none, some (.int s0)]) (st' := []) (w1 := Wd f fl g gl hh v tx) rfl ⟨Nat.le_of_ble_eq_true rfl, Nat.le_of_ble_eq_true rfl⟩ rfl ?_
    exact h6

set_option maxRecDepth 20000 in
theorem b_x_orders_203 (X : mm_X) (d : Nat) (f : Nat → Int32) (fl : Nat → Int64) (g : Nat → Nat → Int32) (gl : Nat → Nat → Int64) (hh : Nat → Nat → Option Nat) (v : Nat → Value) (tx : mm_W) (l4 : Int32) (l5 : Int32) (l6 : Int32) (l7 : Int32) (l8 : Int32) (l9 : Int32) (l10 : Int64) (s0 : Int32)  (P : Option Value → mm_W → Prop)
    (h : WP X (d) 70 (210, [some (.ref 0), none, none, some (.ref 32), some (.int l4), some (.int l5), some (.int l6), some (.int l7), some (.int l8), some (.int l9), none, none, none], [.int s0], Wd f fl g gl hh v tx) P) :
    WP X (d) 70 (203, [some (.ref 0), none, none, some (.ref 32), some (.int l4), some (.int l5), some (.int l6), some (.int l7), some (.int l8), some (.int l9), some (.long l10), none, none], [.int s0], Wd f fl g gl hh v tx) P := by
  refine WP.run hP_70 1 (c' := (210, [some (.ref 0), none, none, some (.ref 32), some (.int l4), some (.int l5), some (.int l6), some (.int l7), some (.int l8), some (.int l9), some (.long l10), none, none], [.int s0], Wd f fl g gl hh v tx)) rfl ?_
  refine WP.clr hP_70 (pc := 210) rfl ?_
  exact h

set_option maxRecDepth 20000 in
theorem b_x_orders_175 (X : mm_X) (d : Nat) (f : Nat → Int32) (fl : Nat → Int64) (g : Nat → Nat → Int32) (gl : Nat → Nat → Int64) (hh : Nat → Nat → Option Nat) (v : Nat → Value) (tx : mm_W) (l4 : Int32) (l5 : Int32) (l6 : Int32) (l7 : Int32) (l8 : Int32) (l9 : Int32) (l10 : Int64) (s0 : Int32)  (P : Option Value → mm_W → Prop)
    (h : WP X (d) 70 (210, [some (.ref 0), none, none, some (.ref 32), some (.int l4), some (.int l5), some (.int l6), some (.int l7), some (.int l8), some (.int l9), none, none, none], [.int s0], Wd f fl g gl hh v tx) P) :
    WP X (d) 70 (175, [some (.ref 0), none, none, some (.ref 32), some (.int l4), some (.int l5), some (.int l6), some (.int l7), some (.int l8), some (.int l9), some (.long l10), none, none], [.int s0], Wd f fl g gl hh v tx) P := by
  refine WP.run hP_70 1 (c' := (210, [some (.ref 0), none, none, some (.ref 32), some (.int l4), some (.int l5), some (.int l6), some (.int l7), some (.int l8), some (.int l9), some (.long l10), none, none], [.int s0], Wd f fl g gl hh v tx)) rfl ?_
  refine WP.clr hP_70 (pc := 210) rfl ?_
  exact h

set_option maxRecDepth 20000 in
theorem b_x_orders_228 (X : mm_X) (d : Nat) (f : Nat → Int32) (fl : Nat → Int64) (g : Nat → Nat → Int32) (gl : Nat → Nat → Int64) (hh : Nat → Nat → Option Nat) (v : Nat → Value) (tx : mm_W) (l4 : Int32) (l5 : Int32) (l6 : Int32) (l7 : Int32) (l8 : Int32) (l9 : Int32) (l12 : Int32)  (P : Option Value → mm_W → Prop)
    (h : P (some (.int (-3))) (Wd (va_up (va_up f 16 l6) 18 (-3 : Int32)) fl (va_up g 55 (upd (g 55) (3) (((g 55) 3) + (1 : Int32)))) gl hh v tx)) :
    WP X (d + 2) 70 (228, [some (.ref 0), none, none, some (.ref 32), some (.int l4), some (.int l5), some (.int l6), some (.int l7), some (.int l8), some (.int l9), none, none, some (.int l12)], [], Wd f fl g gl hh v tx) P := by
  refine WP.run hP_70 5 (c' := (237, [some (.ref 0), none, none, some (.ref 32), some (.int l4), some (.int l5), some (.int l6), some (.int l7), some (.int l8), some (.int l9), none, none, some (.int l12)], [.int (-3), .ref 0], Wd (va_up f 16 l6) fl g gl hh v tx)) rfl ?_
  refine WP.call hP_70 hP_101 (as := [.ref 0, .int (-3)]) (pc' := 240) (L' := [some (.ref 0), none, none, some (.ref 32), some (.int l4), some (.int l5), some (.int l6), some (.int l7), some (.int l8), some (.int l9), none, none, some (.int l12)]) (st' := []) (w1 := Wd (va_up f 16 l6) fl g gl hh v tx) rfl ⟨Nat.le_of_ble_eq_true rfl, Nat.le_of_ble_eq_true rfl⟩ rfl (b_x_refused_0 X (d) (va_up f 16 l6) fl g gl hh v tx (-3) _ ?_)
  refine ⟨fun c1 => ?_, fun c => absurd c (by decide)⟩
  refine ⟨by decide, ?_⟩
  refine ⟨by decide, ?_⟩
  exact WP.retI hP_70 rfl rfl h

set_option maxRecDepth 20000 in
theorem b_x_fault_0 (X : mm_X) (d : Nat) (f : Nat → Int32) (fl : Nat → Int64) (g : Nat → Nat → Int32) (gl : Nat → Nat → Int64) (hh : Nat → Nat → Option Nat) (v : Nat → Value) (tx : mm_W)   (P : Option Value → mm_W → Prop)
    (h : P (some (.int (f 14))) (Wd f fl g gl hh v tx)) :
    WP X (d) 71 (0, [some (.ref 0)], [], Wd f fl g gl hh v tx) P := by
  refine WP.run hP_71 2 (c' := (4, [some (.ref 0)], [.int (f 14)], Wd f fl g gl hh v tx)) rfl ?_
  exact WP.retI hP_71 rfl rfl h

set_option maxRecDepth 20000 in
theorem b_x_stopped_0 (X : mm_X) (d : Nat) (f : Nat → Int32) (fl : Nat → Int64) (g : Nat → Nat → Int32) (gl : Nat → Nat → Int64) (hh : Nat → Nat → Option Nat) (v : Nat → Value) (tx : mm_W)   (P : Option Value → mm_W → Prop)
    (h : P (some (.int (f 16))) (Wd f fl g gl hh v tx)) :
    WP X (d) 72 (0, [some (.ref 0)], [], Wd f fl g gl hh v tx) P := by
  refine WP.run hP_72 2 (c' := (4, [some (.ref 0)], [.int (f 16)], Wd f fl g gl hh v tx)) rfl ?_
  exact WP.retI hP_72 rfl rfl h

set_option maxRecDepth 20000 in
theorem b_x_force_0 (X : mm_X) (d : Nat) (f : Nat → Int32) (fl : Nat → Int64) (g : Nat → Nat → Int32) (gl : Nat → Nat → Int64) (hh : Nat → Nat → Option Nat) (v : Nat → Value) (tx : mm_W) (p0 : Int32)  (P : Option Value → mm_W → Prop)
    (h : ((p0 < (-1)) → P (some (.int (-2))) (Wd (va_up f 18 (-2 : Int32)) fl (va_up g 55 (upd (g 55) (2) (((g 55) 2) + (1 : Int32)))) gl hh v tx)) ∧
    ((¬ (p0 < (-1))) → (((p0 < (f 74)) → P (some (.int (f 76))) (Wd (va_up (va_up f 76 p0) 18 0) fl g gl hh v tx)) ∧
      ((¬ (p0 < (f 74))) → P (some (.int (-2))) (Wd (va_up f 18 (-2 : Int32)) fl (va_up g 55 (upd (g 55) (2) (((g 55) 2) + (1 : Int32)))) gl hh v tx))))) :
    WP X (d + 2) 73 (0, [some (.ref 0), some (.int p0), none], [], Wd f fl g gl hh v tx) P := by
  refine WP.run hP_73 2 (c' := (2, [some (.ref 0), some (.int p0), none], [.int (-1), .int p0], Wd f fl g gl hh v tx)) rfl ?_
  refine WP.br hP_73 (q := p0 < (-1)) (t := 16) (f := 5) (L := [some (.ref 0), some (.int p0), none]) (st := []) (w := Wd f fl g gl hh v tx) rfl (fun c1 => ?_) (fun c1 => ?_)
  · have h2 := h.1 c1
    refine WP.run hP_73 2 (c' := (19, [some (.ref 0), none, none], [.int (-2), .ref 0], Wd f fl g gl hh v tx)) rfl ?_
    refine WP.call hP_73 hP_101 (as := [.ref 0, .int (-2)]) (pc' := 22) (L' := [some (.ref 0), none, none]) (st' := []) (w1 := Wd f fl g gl hh v tx) rfl ⟨Nat.le_of_ble_eq_true rfl, Nat.le_of_ble_eq_true rfl⟩ rfl (b_x_refused_0 X (d) f fl g gl hh v tx (-2) _ ?_)
    refine ⟨fun c3 => ?_, fun c => absurd c (by decide)⟩
    refine ⟨by decide, ?_⟩
    refine ⟨by decide, ?_⟩
    exact WP.retI hP_73 rfl rfl h2
  · have h4 := h.2 c1
    refine WP.run hP_73 4 (c' := (13, [some (.ref 0), some (.int p0), none], [.int (f 74), .int p0], Wd f fl g gl hh v tx)) rfl ?_
    refine WP.br hP_73 (q := p0 < (f 74)) (t := 23) (f := 16) (L := [some (.ref 0), some (.int p0), none]) (st := []) (w := Wd f fl g gl hh v tx) rfl (fun c5 => ?_) (fun c5 => ?_)
    · have h6 := h4.1 c5
      refine WP.run hP_73 3 (c' := (30, [some (.ref 0), some (.int p0), none], [.int (f 76)], Wd f fl g gl hh v tx)) rfl ?_
      refine WP.run hP_73 7 (c' := (41, [some (.ref 0), some (.int p0), some (.int (f 76))], [.int (f 76), .ref 0], Wd (va_up f 76 p0) fl g gl hh v tx)) rfl ?_
      refine WP.call hP_73 hP_100 (as := [.ref 0, .int (f 76)]) (pc' := 44) (L' := [some (.ref 0), some (.int p0), some (.int (f 76))]) (st' := []) (w1 := Wd (va_up f 76 p0) fl g gl hh v tx) rfl ⟨Nat.le_of_ble_eq_true rfl, Nat.le_of_ble_eq_true rfl⟩ rfl (b_x_accepted_0 X (d + 1) (va_up f 76 p0) fl g gl hh v tx (f 76) _ ?_)
      exact WP.retI hP_73 rfl rfl h6
    · have h7 := h4.2 c5
      refine WP.run hP_73 2 (c' := (19, [some (.ref 0), none, none], [.int (-2), .ref 0], Wd f fl g gl hh v tx)) rfl ?_
      refine WP.call hP_73 hP_101 (as := [.ref 0, .int (-2)]) (pc' := 22) (L' := [some (.ref 0), none, none]) (st' := []) (w1 := Wd f fl g gl hh v tx) rfl ⟨Nat.le_of_ble_eq_true rfl, Nat.le_of_ble_eq_true rfl⟩ rfl (b_x_refused_0 X (d) f fl g gl hh v tx (-2) _ ?_)
      refine ⟨fun c8 => ?_, fun c => absurd c (by decide)⟩
      refine ⟨by decide, ?_⟩
      refine ⟨by decide, ?_⟩
      exact WP.retI hP_73 rfl rfl h7

set_option maxRecDepth 20000 in
theorem b_x_hang_0 (X : mm_X) (d : Nat) (f : Nat → Int32) (fl : Nat → Int64) (g : Nat → Nat → Int32) (gl : Nat → Nat → Int64) (hh : Nat → Nat → Option Nat) (v : Nat → Value) (tx : mm_W) (p0 : Int32)  (P : Option Value → mm_W → Prop)
    (h : WP X (d) 105 (0, [some (.ref 0), some (.long ((p0 : Int32).toInt64)), none], [], Wd f fl g gl hh v tx) (fun rv w2 => WP X (d + 1) 74 (7, [some (.ref 0), some (.int p0)], rv.toList ++ [.ref 0], w2) P)) :
    WP X (d + 1) 74 (0, [some (.ref 0), some (.int p0)], [], Wd f fl g gl hh v tx) P := by
  refine WP.run hP_74 4 (c' := (4, [some (.ref 0), some (.int p0)], [.long ((p0 : Int32).toInt64), .ref 0, .ref 0], Wd f fl g gl hh v tx)) rfl ?_
  refine WP.call hP_74 hP_105 (as := [.ref 0, .long ((p0 : Int32).toInt64)]) (pc' := 7) (L' := [some (.ref 0), some (.int p0)]) (st' := [.ref 0]) (w1 := Wd f fl g gl hh v tx) rfl ⟨Nat.le_of_ble_eq_true rfl, Nat.le_of_ble_eq_true rfl⟩ rfl ?_
  exact h

set_option maxRecDepth 20000 in
theorem b_x_hang_7 (X : mm_X) (d : Nat) (f : Nat → Int32) (fl : Nat → Int64) (g : Nat → Nat → Int32) (gl : Nat → Nat → Int64) (hh : Nat → Nat → Option Nat) (v : Nat → Value) (tx : mm_W) (l1 : Int32) (s0 : Int32)  (P : Option Value → mm_W → Prop)
    (h : ((0 ≤ s0) → P (some (.int s0)) (Wd (va_up f 18 0) fl g gl hh v tx)) ∧
    ((¬ (0 ≤ s0)) → (((0 ≤ (-s0) ∧ (-s0) < (7 : Int32)) → ((¬ ((-s0) < 0 ∨ 7 ≤ (-s0).toNatClampNeg)) ∧ ((¬ ((-s0) < 0 ∨ 7 ≤ (-s0).toNatClampNeg)) ∧ P (some (.int s0)) (Wd (va_up f 18 s0) fl (va_up g 55 (upd (g 55) ((-s0).toNatClampNeg) (((g 55) (-s0).toNatClampNeg) + (1 : Int32)))) gl hh v tx)))) ∧
      ((¬ (0 ≤ (-s0) ∧ (-s0) < (7 : Int32))) → P (some (.int s0)) (Wd (va_up f 18 s0) fl g gl hh v tx))))) :
    WP X (d + 3) 74 (7, [some (.ref 0), some (.int l1)], [.int s0, .ref 0], Wd f fl g gl hh v tx) P := by
  refine WP.call hP_74 hP_102 (as := [.ref 0, .int s0]) (pc' := 10) (L' := [some (.ref 0), some (.int l1)]) (st' := []) (w1 := Wd f fl g gl hh v tx) rfl ⟨Nat.le_of_ble_eq_true rfl, Nat.le_of_ble_eq_true rfl⟩ rfl (b_x_settled_0 X (d) f fl g gl hh v tx s0 _ ?_)
  refine ⟨fun c1 => ?_, fun c1 => ?_⟩
  · have h2 := h.1 c1
    exact WP.retI hP_74 rfl rfl h2
  · have h3 := h.2 c1
    refine ⟨fun c4 => ?_, fun c4 => ?_⟩
    · have h5 := h3.1 c4
      refine ⟨h5.1, ?_⟩
      have h6 := h5.2
      refine ⟨h6.1, ?_⟩
      have h7 := h6.2
      exact WP.retI hP_74 rfl rfl h7
    · have h8 := h3.2 c4
      exact WP.retI hP_74 rfl rfl h8

set_option maxRecDepth 20000 in
theorem b_x_take_0 (X : mm_X) (d : Nat) (f : Nat → Int32) (fl : Nat → Int64) (g : Nat → Nat → Int32) (gl : Nat → Nat → Int64) (hh : Nat → Nat → Option Nat) (v : Nat → Value) (tx : mm_W)   (P : Option Value → mm_W → Prop)
    (h : ((¬ (f 70) = 0) → ((((f 78) < 16) → ((¬ ((f 78) < 0 ∨ 16 ≤ (f 78).toNatClampNeg)) ∧ (((0 ≤ ((f 71) &&& (3 : Int32))) → P (some (.int ((f 71) &&& (3 : Int32)))) (Wd (va_up (va_up (va_up (va_up f 71 (((f 71) >>> ((2 : Int32) &&& (31 : Int32))) : Int32)) 70 ((f 70) - (1 : Int32))) 78 ((f 78) + (1 : Int32))) 18 0) fl (va_up g 9 (upd (g 9) ((f 78).toNatClampNeg) ((1 : Int32) ||| ((((f 71) &&& (3 : Int32)) <<< ((2 : Int32) &&& (31 : Int32))) : Int32)))) gl hh v tx)) ∧
        ((¬ (0 ≤ ((f 71) &&& (3 : Int32)))) → (((0 ≤ (-((f 71) &&& (3 : Int32))) ∧ (-((f 71) &&& (3 : Int32))) < (7 : Int32)) → ((¬ ((-((f 71) &&& (3 : Int32))) < 0 ∨ 7 ≤ (-((f 71) &&& (3 : Int32))).toNatClampNeg)) ∧ ((¬ ((-((f 71) &&& (3 : Int32))) < 0 ∨ 7 ≤ (-((f 71) &&& (3 : Int32))).toNatClampNeg)) ∧ P (some (.int ((f 71) &&& (3 : Int32)))) (Wd (va_up (va_up (va_up (va_up f 71 (((f 71) >>> ((2 : Int32) &&& (31 : Int32))) : Int32)) 70 ((f 70) - (1 : Int32))) 78 ((f 78) + (1 : Int32))) 18 ((f 71) &&& (3 : Int32))) fl (va_up (va_up g 9 (upd (g 9) ((f 78).toNatClampNeg) ((1 : Int32) ||| ((((f 71) &&& (3 : Int32)) <<< ((2 : Int32) &&& (31 : Int32))) : Int32)))) 55 (upd (g 55) ((-((f 71) &&& (3 : Int32))).toNatClampNeg) (((g 55) (-((f 71) &&& (3 : Int32))).toNatClampNeg) + (1 : Int32)))) gl hh v tx)))) ∧
          ((¬ (0 ≤ (-((f 71) &&& (3 : Int32))) ∧ (-((f 71) &&& (3 : Int32))) < (7 : Int32))) → P (some (.int ((f 71) &&& (3 : Int32)))) (Wd (va_up (va_up (va_up (va_up f 71 (((f 71) >>> ((2 : Int32) &&& (31 : Int32))) : Int32)) 70 ((f 70) - (1 : Int32))) 78 ((f 78) + (1 : Int32))) 18 ((f 71) &&& (3 : Int32))) fl (va_up g 9 (upd (g 9) ((f 78).toNatClampNeg) ((1 : Int32) ||| ((((f 71) &&& (3 : Int32)) <<< ((2 : Int32) &&& (31 : Int32))) : Int32)))) gl hh v tx))))))) ∧
      ((¬ ((f 78) < 16)) → (((0 ≤ ((f 71) &&& (3 : Int32))) → P (some (.int ((f 71) &&& (3 : Int32)))) (Wd (va_up (va_up (va_up (va_up f 71 (((f 71) >>> ((2 : Int32) &&& (31 : Int32))) : Int32)) 70 ((f 70) - (1 : Int32))) 78 16) 18 0) fl (va_up (va_up g 9 (va_cpy (g 9) (g 9) 1 0 15)) 9 (upd (va_cpy (g 9) (g 9) 1 0 15) 15 ((1 : Int32) ||| ((((f 71) &&& (3 : Int32)) <<< ((2 : Int32) &&& (31 : Int32))) : Int32)))) gl hh v tx)) ∧
        ((¬ (0 ≤ ((f 71) &&& (3 : Int32)))) → (((0 ≤ (-((f 71) &&& (3 : Int32))) ∧ (-((f 71) &&& (3 : Int32))) < (7 : Int32)) → ((¬ ((-((f 71) &&& (3 : Int32))) < 0 ∨ 7 ≤ (-((f 71) &&& (3 : Int32))).toNatClampNeg)) ∧ ((¬ ((-((f 71) &&& (3 : Int32))) < 0 ∨ 7 ≤ (-((f 71) &&& (3 : Int32))).toNatClampNeg)) ∧ P (some (.int ((f 71) &&& (3 : Int32)))) (Wd (va_up (va_up (va_up (va_up f 71 (((f 71) >>> ((2 : Int32) &&& (31 : Int32))) : Int32)) 70 ((f 70) - (1 : Int32))) 78 16) 18 ((f 71) &&& (3 : Int32))) fl (va_up (va_up (va_up g 9 (va_cpy (g 9) (g 9) 1 0 15)) 9 (upd (va_cpy (g 9) (g 9) 1 0 15) 15 ((1 : Int32) ||| ((((f 71) &&& (3 : Int32)) <<< ((2 : Int32) &&& (31 : Int32))) : Int32)))) 55 (upd (g 55) ((-((f 71) &&& (3 : Int32))).toNatClampNeg) (((g 55) (-((f 71) &&& (3 : Int32))).toNatClampNeg) + (1 : Int32)))) gl hh v tx)))) ∧
          ((¬ (0 ≤ (-((f 71) &&& (3 : Int32))) ∧ (-((f 71) &&& (3 : Int32))) < (7 : Int32))) → P (some (.int ((f 71) &&& (3 : Int32)))) (Wd (va_up (va_up (va_up (va_up f 71 (((f 71) >>> ((2 : Int32) &&& (31 : Int32))) : Int32)) 70 ((f 70) - (1 : Int32))) 78 16) 18 ((f 71) &&& (3 : Int32))) fl (va_up (va_up g 9 (va_cpy (g 9) (g 9) 1 0 15)) 9 (upd (va_cpy (g 9) (g 9) 1 0 15) 15 ((1 : Int32) ||| ((((f 71) &&& (3 : Int32)) <<< ((2 : Int32) &&& (31 : Int32))) : Int32)))) gl hh v tx)))))))) ∧
    (((f 70) = 0) → P (some (.int (-3))) (Wd (va_up f 18 (-3 : Int32)) fl (va_up g 55 (upd (g 55) (3) (((g 55) 3) + (1 : Int32)))) gl hh v tx))) :
    WP X (d + 3) 75 (0, [some (.ref 0)], [], Wd f fl g gl hh v tx) P := by
  refine WP.run hP_75 2 (c' := (2, [some (.ref 0)], [.ref 0, .ref 0], Wd f fl g gl hh v tx)) rfl ?_
  refine WP.call hP_75 hP_106 (as := [.ref 0]) (pc' := 5) (L' := [some (.ref 0)]) (st' := [.ref 0]) (w1 := Wd f fl g gl hh v tx) rfl ⟨Nat.le_of_ble_eq_true rfl, Nat.le_of_ble_eq_true rfl⟩ rfl (b_x_takes_0 X (d + 1) f fl g gl hh v tx  _ ?_)
  refine ⟨fun c1 => ?_, fun c1 => ?_⟩
  · have h2 := h.1 c1
    refine ⟨fun c3 => ?_, fun c3 => ?_⟩
    · have h4 := h2.1 c3
      refine ⟨h4.1, ?_⟩
      have h5 := h4.2
      refine WP.call hP_75 hP_102 (as := [.ref 0, .int ((f 71) &&& (3 : Int32))]) (pc' := 8) (L' := [some (.ref 0)]) (st' := []) (w1 := Wd (va_up (va_up (va_up f 71 (((f 71) >>> ((2 : Int32) &&& (31 : Int32))) : Int32)) 70 ((f 70) - (1 : Int32))) 78 ((f 78) + (1 : Int32))) fl (va_up g 9 (upd (g 9) ((f 78).toNatClampNeg) ((1 : Int32) ||| ((((f 71) &&& (3 : Int32)) <<< ((2 : Int32) &&& (31 : Int32))) : Int32)))) gl hh v tx) rfl ⟨Nat.le_of_ble_eq_true rfl, Nat.le_of_ble_eq_true rfl⟩ rfl (b_x_settled_0 X (d) (va_up (va_up (va_up f 71 (((f 71) >>> ((2 : Int32) &&& (31 : Int32))) : Int32)) 70 ((f 70) - (1 : Int32))) 78 ((f 78) + (1 : Int32))) fl (va_up g 9 (upd (g 9) ((f 78).toNatClampNeg) ((1 : Int32) ||| ((((f 71) &&& (3 : Int32)) <<< ((2 : Int32) &&& (31 : Int32))) : Int32)))) gl hh v tx ((f 71) &&& (3 : Int32)) _ ?_)
      refine ⟨fun c6 => ?_, fun c6 => ?_⟩
      · have h7 := h5.1 c6
        exact WP.retI hP_75 rfl rfl h7
      · have h8 := h5.2 c6
        refine ⟨fun c9 => ?_, fun c9 => ?_⟩
        · have h10 := h8.1 c9
          refine ⟨h10.1, ?_⟩
          have h11 := h10.2
          refine ⟨h11.1, ?_⟩
          have h12 := h11.2
          exact WP.retI hP_75 rfl rfl h12
        · have h13 := h8.2 c9
          exact WP.retI hP_75 rfl rfl h13
    · have h14 := h2.2 c3
      refine WP.call hP_75 hP_102 (as := [.ref 0, .int ((f 71) &&& (3 : Int32))]) (pc' := 8) (L' := [some (.ref 0)]) (st' := []) (w1 := Wd (va_up (va_up (va_up f 71 (((f 71) >>> ((2 : Int32) &&& (31 : Int32))) : Int32)) 70 ((f 70) - (1 : Int32))) 78 16) fl (va_up (va_up g 9 (va_cpy (g 9) (g 9) 1 0 15)) 9 (upd (va_cpy (g 9) (g 9) 1 0 15) 15 ((1 : Int32) ||| ((((f 71) &&& (3 : Int32)) <<< ((2 : Int32) &&& (31 : Int32))) : Int32)))) gl hh v tx) rfl ⟨Nat.le_of_ble_eq_true rfl, Nat.le_of_ble_eq_true rfl⟩ rfl (b_x_settled_0 X (d) (va_up (va_up (va_up f 71 (((f 71) >>> ((2 : Int32) &&& (31 : Int32))) : Int32)) 70 ((f 70) - (1 : Int32))) 78 16) fl (va_up (va_up g 9 (va_cpy (g 9) (g 9) 1 0 15)) 9 (upd (va_cpy (g 9) (g 9) 1 0 15) 15 ((1 : Int32) ||| ((((f 71) &&& (3 : Int32)) <<< ((2 : Int32) &&& (31 : Int32))) : Int32)))) gl hh v tx ((f 71) &&& (3 : Int32)) _ ?_)
      refine ⟨fun c15 => ?_, fun c15 => ?_⟩
      · have h16 := h14.1 c15
        exact WP.retI hP_75 rfl rfl h16
      · have h17 := h14.2 c15
        refine ⟨fun c18 => ?_, fun c18 => ?_⟩
        · have h19 := h17.1 c18
          refine ⟨h19.1, ?_⟩
          have h20 := h19.2
          refine ⟨h20.1, ?_⟩
          have h21 := h20.2
          exact WP.retI hP_75 rfl rfl h21
        · have h22 := h17.2 c18
          exact WP.retI hP_75 rfl rfl h22
  · have h23 := h.2 c1
    refine WP.call hP_75 hP_102 (as := [.ref 0, .int (-3)]) (pc' := 8) (L' := [some (.ref 0)]) (st' := []) (w1 := Wd f fl g gl hh v tx) rfl ⟨Nat.le_of_ble_eq_true rfl, Nat.le_of_ble_eq_true rfl⟩ rfl (b_x_settled_0 X (d) f fl g gl hh v tx (-3) _ ?_)
    refine ⟨fun c => absurd c (by decide), fun c24 => ?_⟩
    refine ⟨fun c25 => ?_, fun c => absurd c (by decide)⟩
    refine ⟨by decide, ?_⟩
    refine ⟨by decide, ?_⟩
    exact WP.retI hP_75 rfl rfl h23

set_option maxRecDepth 20000 in
theorem b_x_sail_0 (X : mm_X) (d : Nat) (f : Nat → Int32) (fl : Nat → Int64) (g : Nat → Nat → Int32) (gl : Nat → Nat → Int64) (hh : Nat → Nat → Option Nat) (v : Nat → Value) (tx : mm_W) (p0 : Int32)  (P : Option Value → mm_W → Prop)
    (h : WP X (d) 107 (0, [some (.ref 0), some (.long ((p0 : Int32).toInt64)), none, none], [], Wd f fl g gl hh v tx) (fun rv w2 => WP X (d + 1) 76 (7, [some (.ref 0), some (.int p0)], rv.toList ++ [.ref 0], w2) P)) :
    WP X (d + 1) 76 (0, [some (.ref 0), some (.int p0)], [], Wd f fl g gl hh v tx) P := by
  refine WP.run hP_76 4 (c' := (4, [some (.ref 0), some (.int p0)], [.long ((p0 : Int32).toInt64), .ref 0, .ref 0], Wd f fl g gl hh v tx)) rfl ?_
  refine WP.call hP_76 hP_107 (as := [.ref 0, .long ((p0 : Int32).toInt64)]) (pc' := 7) (L' := [some (.ref 0), some (.int p0)]) (st' := [.ref 0]) (w1 := Wd f fl g gl hh v tx) rfl ⟨Nat.le_of_ble_eq_true rfl, Nat.le_of_ble_eq_true rfl⟩ rfl ?_
  exact h

set_option maxRecDepth 20000 in
theorem b_x_sail_7 (X : mm_X) (d : Nat) (f : Nat → Int32) (fl : Nat → Int64) (g : Nat → Nat → Int32) (gl : Nat → Nat → Int64) (hh : Nat → Nat → Option Nat) (v : Nat → Value) (tx : mm_W) (l1 : Int32) (s0 : Int32)  (P : Option Value → mm_W → Prop)
    (h : ((0 ≤ s0) → P (some (.int s0)) (Wd (va_up f 18 0) fl g gl hh v tx)) ∧
    ((¬ (0 ≤ s0)) → (((0 ≤ (-s0) ∧ (-s0) < (7 : Int32)) → ((¬ ((-s0) < 0 ∨ 7 ≤ (-s0).toNatClampNeg)) ∧ ((¬ ((-s0) < 0 ∨ 7 ≤ (-s0).toNatClampNeg)) ∧ P (some (.int s0)) (Wd (va_up f 18 s0) fl (va_up g 55 (upd (g 55) ((-s0).toNatClampNeg) (((g 55) (-s0).toNatClampNeg) + (1 : Int32)))) gl hh v tx)))) ∧
      ((¬ (0 ≤ (-s0) ∧ (-s0) < (7 : Int32))) → P (some (.int s0)) (Wd (va_up f 18 s0) fl g gl hh v tx))))) :
    WP X (d + 3) 76 (7, [some (.ref 0), some (.int l1)], [.int s0, .ref 0], Wd f fl g gl hh v tx) P := by
  refine WP.call hP_76 hP_102 (as := [.ref 0, .int s0]) (pc' := 10) (L' := [some (.ref 0), some (.int l1)]) (st' := []) (w1 := Wd f fl g gl hh v tx) rfl ⟨Nat.le_of_ble_eq_true rfl, Nat.le_of_ble_eq_true rfl⟩ rfl (b_x_settled_0 X (d) f fl g gl hh v tx s0 _ ?_)
  refine ⟨fun c1 => ?_, fun c1 => ?_⟩
  · have h2 := h.1 c1
    exact WP.retI hP_76 rfl rfl h2
  · have h3 := h.2 c1
    refine ⟨fun c4 => ?_, fun c4 => ?_⟩
    · have h5 := h3.1 c4
      refine ⟨h5.1, ?_⟩
      have h6 := h5.2
      refine ⟨h6.1, ?_⟩
      have h7 := h6.2
      exact WP.retI hP_76 rfl rfl h7
    · have h8 := h3.2 c4
      exact WP.retI hP_76 rfl rfl h8

set_option maxRecDepth 20000 in
theorem b_x_pass_0 (X : mm_X) (d : Nat) (f : Nat → Int32) (fl : Nat → Int64) (g : Nat → Nat → Int32) (gl : Nat → Nat → Int64) (hh : Nat → Nat → Option Nat) (v : Nat → Value) (tx : mm_W)   (P : Option Value → mm_W → Prop)
    (h : ((((g 8) 0) < 999) → ((((f 78) < 16) → ((¬ ((f 78) < 0 ∨ 16 ≤ (f 78).toNatClampNeg)) ∧ (((0 ≤ ((upd (g 8) 0 (((g 8) 0) + (1 : Int32))) 0)) → P (some (.int ((upd (g 8) 0 (((g 8) 0) + (1 : Int32))) 0))) (Wd (va_up (va_up f 78 ((f 78) + (1 : Int32))) 18 0) fl (va_up (va_up g 8 (upd (g 8) 0 (((g 8) 0) + (1 : Int32)))) 9 (upd (g 9) ((f 78).toNatClampNeg) (3 : Int32))) gl hh v tx)) ∧
        ((¬ (0 ≤ ((upd (g 8) 0 (((g 8) 0) + (1 : Int32))) 0))) → (((0 ≤ (-((upd (g 8) 0 (((g 8) 0) + (1 : Int32))) 0)) ∧ (-((upd (g 8) 0 (((g 8) 0) + (1 : Int32))) 0)) < (7 : Int32)) → ((¬ ((-((upd (g 8) 0 (((g 8) 0) + (1 : Int32))) 0)) < 0 ∨ 7 ≤ (-((upd (g 8) 0 (((g 8) 0) + (1 : Int32))) 0)).toNatClampNeg)) ∧ ((¬ ((-((upd (g 8) 0 (((g 8) 0) + (1 : Int32))) 0)) < 0 ∨ 7 ≤ (-((upd (g 8) 0 (((g 8) 0) + (1 : Int32))) 0)).toNatClampNeg)) ∧ P (some (.int ((upd (g 8) 0 (((g 8) 0) + (1 : Int32))) 0))) (Wd (va_up (va_up f 78 ((f 78) + (1 : Int32))) 18 ((upd (g 8) 0 (((g 8) 0) + (1 : Int32))) 0)) fl (va_up (va_up (va_up g 8 (upd (g 8) 0 (((g 8) 0) + (1 : Int32)))) 9 (upd (g 9) ((f 78).toNatClampNeg) (3 : Int32))) 55 (upd (g 55) ((-((upd (g 8) 0 (((g 8) 0) + (1 : Int32))) 0)).toNatClampNeg) (((g 55) (-((upd (g 8) 0 (((g 8) 0) + (1 : Int32))) 0)).toNatClampNeg) + (1 : Int32)))) gl hh v tx)))) ∧
          ((¬ (0 ≤ (-((upd (g 8) 0 (((g 8) 0) + (1 : Int32))) 0)) ∧ (-((upd (g 8) 0 (((g 8) 0) + (1 : Int32))) 0)) < (7 : Int32))) → P (some (.int ((upd (g 8) 0 (((g 8) 0) + (1 : Int32))) 0))) (Wd (va_up (va_up f 78 ((f 78) + (1 : Int32))) 18 ((upd (g 8) 0 (((g 8) 0) + (1 : Int32))) 0)) fl (va_up (va_up g 8 (upd (g 8) 0 (((g 8) 0) + (1 : Int32)))) 9 (upd (g 9) ((f 78).toNatClampNeg) (3 : Int32))) gl hh v tx))))))) ∧
      ((¬ ((f 78) < 16)) → (((0 ≤ ((upd (g 8) 0 (((g 8) 0) + (1 : Int32))) 0)) → P (some (.int ((upd (g 8) 0 (((g 8) 0) + (1 : Int32))) 0))) (Wd (va_up (va_up f 78 16) 18 0) fl (va_up (va_up (va_up g 8 (upd (g 8) 0 (((g 8) 0) + (1 : Int32)))) 9 (va_cpy (g 9) (g 9) 1 0 15)) 9 (upd (va_cpy (g 9) (g 9) 1 0 15) 15 (3 : Int32))) gl hh v tx)) ∧
        ((¬ (0 ≤ ((upd (g 8) 0 (((g 8) 0) + (1 : Int32))) 0))) → (((0 ≤ (-((upd (g 8) 0 (((g 8) 0) + (1 : Int32))) 0)) ∧ (-((upd (g 8) 0 (((g 8) 0) + (1 : Int32))) 0)) < (7 : Int32)) → ((¬ ((-((upd (g 8) 0 (((g 8) 0) + (1 : Int32))) 0)) < 0 ∨ 7 ≤ (-((upd (g 8) 0 (((g 8) 0) + (1 : Int32))) 0)).toNatClampNeg)) ∧ ((¬ ((-((upd (g 8) 0 (((g 8) 0) + (1 : Int32))) 0)) < 0 ∨ 7 ≤ (-((upd (g 8) 0 (((g 8) 0) + (1 : Int32))) 0)).toNatClampNeg)) ∧ P (some (.int ((upd (g 8) 0 (((g 8) 0) + (1 : Int32))) 0))) (Wd (va_up (va_up f 78 16) 18 ((upd (g 8) 0 (((g 8) 0) + (1 : Int32))) 0)) fl (va_up (va_up (va_up (va_up g 8 (upd (g 8) 0 (((g 8) 0) + (1 : Int32)))) 9 (va_cpy (g 9) (g 9) 1 0 15)) 9 (upd (va_cpy (g 9) (g 9) 1 0 15) 15 (3 : Int32))) 55 (upd (g 55) ((-((upd (g 8) 0 (((g 8) 0) + (1 : Int32))) 0)).toNatClampNeg) (((g 55) (-((upd (g 8) 0 (((g 8) 0) + (1 : Int32))) 0)).toNatClampNeg) + (1 : Int32)))) gl hh v tx)))) ∧
          ((¬ (0 ≤ (-((upd (g 8) 0 (((g 8) 0) + (1 : Int32))) 0)) ∧ (-((upd (g 8) 0 (((g 8) 0) + (1 : Int32))) 0)) < (7 : Int32))) → P (some (.int ((upd (g 8) 0 (((g 8) 0) + (1 : Int32))) 0))) (Wd (va_up (va_up f 78 16) 18 ((upd (g 8) 0 (((g 8) 0) + (1 : Int32))) 0)) fl (va_up (va_up (va_up g 8 (upd (g 8) 0 (((g 8) 0) + (1 : Int32)))) 9 (va_cpy (g 9) (g 9) 1 0 15)) 9 (upd (va_cpy (g 9) (g 9) 1 0 15) 15 (3 : Int32))) gl hh v tx)))))))) ∧
    ((¬ (((g 8) 0) < 999)) → P (some (.int (-3))) (Wd (va_up f 18 (-3 : Int32)) fl (va_up g 55 (upd (g 55) (3) (((g 55) 3) + (1 : Int32)))) gl hh v tx))) :
    WP X (d + 3) 77 (0, [some (.ref 0)], [], Wd f fl g gl hh v tx) P := by
  refine WP.run hP_77 2 (c' := (2, [some (.ref 0)], [.ref 0, .ref 0], Wd f fl g gl hh v tx)) rfl ?_
  refine WP.call hP_77 hP_108 (as := [.ref 0]) (pc' := 5) (L' := [some (.ref 0)]) (st' := [.ref 0]) (w1 := Wd f fl g gl hh v tx) rfl ⟨Nat.le_of_ble_eq_true rfl, Nat.le_of_ble_eq_true rfl⟩ rfl (b_x_passes_0 X (d + 1) f fl g gl hh v tx  _ ?_)
  refine ⟨fun c1 => ?_, fun c1 => ?_⟩
  · have h2 := h.1 c1
    refine ⟨fun c3 => ?_, fun c3 => ?_⟩
    · have h4 := h2.1 c3
      refine ⟨h4.1, ?_⟩
      have h5 := h4.2
      refine WP.call hP_77 hP_102 (as := [.ref 0, .int ((upd (g 8) 0 (((g 8) 0) + (1 : Int32))) 0)]) (pc' := 8) (L' := [some (.ref 0)]) (st' := []) (w1 := Wd (va_up f 78 ((f 78) + (1 : Int32))) fl (va_up (va_up g 8 (upd (g 8) 0 (((g 8) 0) + (1 : Int32)))) 9 (upd (g 9) ((f 78).toNatClampNeg) (3 : Int32))) gl hh v tx) rfl ⟨Nat.le_of_ble_eq_true rfl, Nat.le_of_ble_eq_true rfl⟩ rfl (b_x_settled_0 X (d) (va_up f 78 ((f 78) + (1 : Int32))) fl (va_up (va_up g 8 (upd (g 8) 0 (((g 8) 0) + (1 : Int32)))) 9 (upd (g 9) ((f 78).toNatClampNeg) (3 : Int32))) gl hh v tx ((upd (g 8) 0 (((g 8) 0) + (1 : Int32))) 0) _ ?_)
      refine ⟨fun c6 => ?_, fun c6 => ?_⟩
      · have h7 := h5.1 c6
        exact WP.retI hP_77 rfl rfl h7
      · have h8 := h5.2 c6
        refine ⟨fun c9 => ?_, fun c9 => ?_⟩
        · have h10 := h8.1 c9
          refine ⟨h10.1, ?_⟩
          have h11 := h10.2
          refine ⟨h11.1, ?_⟩
          have h12 := h11.2
          exact WP.retI hP_77 rfl rfl h12
        · have h13 := h8.2 c9
          exact WP.retI hP_77 rfl rfl h13
    · have h14 := h2.2 c3
      refine WP.call hP_77 hP_102 (as := [.ref 0, .int ((upd (g 8) 0 (((g 8) 0) + (1 : Int32))) 0)]) (pc' := 8) (L' := [some (.ref 0)]) (st' := []) (w1 := Wd (va_up f 78 16) fl (va_up (va_up (va_up g 8 (upd (g 8) 0 (((g 8) 0) + (1 : Int32)))) 9 (va_cpy (g 9) (g 9) 1 0 15)) 9 (upd (va_cpy (g 9) (g 9) 1 0 15) 15 (3 : Int32))) gl hh v tx) rfl ⟨Nat.le_of_ble_eq_true rfl, Nat.le_of_ble_eq_true rfl⟩ rfl (b_x_settled_0 X (d) (va_up f 78 16) fl (va_up (va_up (va_up g 8 (upd (g 8) 0 (((g 8) 0) + (1 : Int32)))) 9 (va_cpy (g 9) (g 9) 1 0 15)) 9 (upd (va_cpy (g 9) (g 9) 1 0 15) 15 (3 : Int32))) gl hh v tx ((upd (g 8) 0 (((g 8) 0) + (1 : Int32))) 0) _ ?_)
      refine ⟨fun c15 => ?_, fun c15 => ?_⟩
      · have h16 := h14.1 c15
        exact WP.retI hP_77 rfl rfl h16
      · have h17 := h14.2 c15
        refine ⟨fun c18 => ?_, fun c18 => ?_⟩
        · have h19 := h17.1 c18
          refine ⟨h19.1, ?_⟩
          have h20 := h19.2
          refine ⟨h20.1, ?_⟩
          have h21 := h20.2
          exact WP.retI hP_77 rfl rfl h21
        · have h22 := h17.2 c18
          exact WP.retI hP_77 rfl rfl h22
  · have h23 := h.2 c1
    refine WP.call hP_77 hP_102 (as := [.ref 0, .int (-3)]) (pc' := 8) (L' := [some (.ref 0)]) (st' := []) (w1 := Wd f fl g gl hh v tx) rfl ⟨Nat.le_of_ble_eq_true rfl, Nat.le_of_ble_eq_true rfl⟩ rfl (b_x_settled_0 X (d) f fl g gl hh v tx (-3) _ ?_)
    refine ⟨fun c => absurd c (by decide), fun c24 => ?_⟩
    refine ⟨fun c25 => ?_, fun c => absurd c (by decide)⟩
    refine ⟨by decide, ?_⟩
    refine ⟨by decide, ?_⟩
    exact WP.retI hP_77 rfl rfl h23

set_option maxRecDepth 20000 in
theorem b_x_undo_0 (X : mm_X) (d : Nat) (f : Nat → Int32) (fl : Nat → Int64) (g : Nat → Nat → Int32) (gl : Nat → Nat → Int64) (hh : Nat → Nat → Option Nat) (v : Nat → Value) (tx : mm_W)   (P : Option Value → mm_W → Prop)
    (h : WP X (d) 52 (0, [some (.ref 1), none, none], [], Wd f fl g gl hh v tx) (fun rv w2 => WP X (d + 1) 78 (8, [some (.ref 0)], rv.toList ++ [.ref 0], w2) P)) :
    WP X (d + 1) 78 (0, [some (.ref 0)], [], Wd f fl g gl hh v tx) P := by
  refine WP.run hP_78 3 (c' := (5, [some (.ref 0)], [.ref 1, .ref 0], Wd f fl g gl hh v tx)) rfl ?_
  refine WP.call hP_78 hP_52 (as := [.ref 1]) (pc' := 8) (L' := [some (.ref 0)]) (st' := [.ref 0]) (w1 := Wd f fl g gl hh v tx) rfl ⟨Nat.le_of_ble_eq_true rfl, Nat.le_of_ble_eq_true rfl⟩ rfl ?_
  exact h

set_option maxRecDepth 20000 in
theorem b_x_undo_8 (X : mm_X) (d : Nat) (f : Nat → Int32) (fl : Nat → Int64) (g : Nat → Nat → Int32) (gl : Nat → Nat → Int64) (hh : Nat → Nat → Option Nat) (v : Nat → Value) (tx : mm_W) (s0 : Int32)  (P : Option Value → mm_W → Prop)
    (h : ((0 ≤ s0) → P (some (.int s0)) (Wd (va_up f 18 0) fl g gl hh v tx)) ∧
    ((¬ (0 ≤ s0)) → (((0 ≤ (-s0) ∧ (-s0) < (7 : Int32)) → ((¬ ((-s0) < 0 ∨ 7 ≤ (-s0).toNatClampNeg)) ∧ ((¬ ((-s0) < 0 ∨ 7 ≤ (-s0).toNatClampNeg)) ∧ P (some (.int s0)) (Wd (va_up f 18 s0) fl (va_up g 55 (upd (g 55) ((-s0).toNatClampNeg) (((g 55) (-s0).toNatClampNeg) + (1 : Int32)))) gl hh v tx)))) ∧
      ((¬ (0 ≤ (-s0) ∧ (-s0) < (7 : Int32))) → P (some (.int s0)) (Wd (va_up f 18 s0) fl g gl hh v tx))))) :
    WP X (d + 3) 78 (8, [some (.ref 0)], [.int s0, .ref 0], Wd f fl g gl hh v tx) P := by
  refine WP.call hP_78 hP_102 (as := [.ref 0, .int s0]) (pc' := 11) (L' := [some (.ref 0)]) (st' := []) (w1 := Wd f fl g gl hh v tx) rfl ⟨Nat.le_of_ble_eq_true rfl, Nat.le_of_ble_eq_true rfl⟩ rfl (b_x_settled_0 X (d) f fl g gl hh v tx s0 _ ?_)
  refine ⟨fun c1 => ?_, fun c1 => ?_⟩
  · have h2 := h.1 c1
    exact WP.retI hP_78 rfl rfl h2
  · have h3 := h.2 c1
    refine ⟨fun c4 => ?_, fun c4 => ?_⟩
    · have h5 := h3.1 c4
      refine ⟨h5.1, ?_⟩
      have h6 := h5.2
      refine ⟨h6.1, ?_⟩
      have h7 := h6.2
      exact WP.retI hP_78 rfl rfl h7
    · have h8 := h3.2 c4
      exact WP.retI hP_78 rfl rfl h8

set_option maxRecDepth 20000 in
theorem b_x_readings_0 (X : mm_X) (d : Nat) (f : Nat → Int32) (fl : Nat → Int64) (g : Nat → Nat → Int32) (gl : Nat → Nat → Int64) (hh : Nat → Nat → Option Nat) (v : Nat → Value) (tx : mm_W)   (P : Option Value → mm_W → Prop)
    (h : WP X (d) 12 (0, [some (.ref 38), some (.ref 1), some (.int 0), none, none], [], Wd f fl g gl hh v tx) (fun rv w2 => WP X (d + 1) 79 (12, [some (.ref 0)], rv.toList ++ [], w2) P)) :
    WP X (d + 1) 79 (0, [some (.ref 0)], [], Wd f fl g gl hh v tx) P := by
  refine WP.run hP_79 5 (c' := (9, [some (.ref 0)], [.int 0, .ref 1, .ref 38], Wd f fl g gl hh v tx)) rfl ?_
  refine WP.call hP_79 hP_12 (as := [.ref 38, .ref 1, .int 0]) (pc' := 12) (L' := [some (.ref 0)]) (st' := []) (w1 := Wd f fl g gl hh v tx) rfl ⟨Nat.le_of_ble_eq_true rfl, Nat.le_of_ble_eq_true rfl⟩ rfl ?_
  exact h

set_option maxRecDepth 20000 in
theorem b_x_readings_12 (X : mm_X) (d : Nat) (f : Nat → Int32) (fl : Nat → Int64) (g : Nat → Nat → Int32) (gl : Nat → Nat → Int64) (hh : Nat → Nat → Option Nat) (v : Nat → Value) (tx : mm_W) (s0 : Int32)  (P : Option Value → mm_W → Prop)
    (h : P (some (.int s0)) (Wd f fl g gl hh v tx)) :
    WP X (d) 79 (12, [some (.ref 0)], [.int s0], Wd f fl g gl hh v tx) P := by
  exact WP.retI hP_79 rfl rfl h

set_option maxRecDepth 20000 in
theorem b_x_reads_0 (X : mm_X) (d : Nat) (f : Nat → Int32) (fl : Nat → Int64) (g : Nat → Nat → Int32) (gl : Nat → Nat → Int64) (hh : Nat → Nat → Option Nat) (v : Nat → Value) (tx : mm_W) (p0 : Int32) (p1 : Int32)  (P : Option Value → mm_W → Prop)
    (h : ((0 ≤ p0 ∧ p0 < (f 68)) → (((0 ≤ (f 76) ∧ (f 76) < (f 74)) → ((¬ ((f 76) < 0 ∨ 6 ≤ (f 76).toNatClampNeg)) ∧ WP X (d + 1) 7 (0, [some (.ref 38), some (.ref 1), some (.int p0), some ((mm_rf ((hh 7) (f 76).toNatClampNeg))), none], [], Wd f fl g gl hh v tx) (fun rv w2 => WP X (d + 2) 80 (33, [some (.ref 0), some (.int p0), some (.int p1)], rv.toList ++ [], w2) P))) ∧
      ((¬ (0 ≤ (f 76) ∧ (f 76) < (f 74))) → WP X (d + 1) 7 (0, [some (.ref 38), some (.ref 1), some (.int p0), some (.null), none], [], Wd f fl g gl hh v tx) (fun rv w2 => WP X (d + 2) 80 (33, [some (.ref 0), some (.int p0), some (.int p1)], rv.toList ++ [], w2) P)))) ∧
    ((¬ (0 ≤ p0 ∧ p0 < (f 68))) → P (some (.int (-1))) (Wd f fl g gl hh v tx))) :
    WP X (d + 2) 80 (0, [some (.ref 0), some (.int p0), some (.int p1)], [], Wd f fl g gl hh v tx) P := by
  refine WP.run hP_80 4 (c' := (8, [some (.ref 0), some (.int p0), some (.int p1)], [.int (f 68), .int p0], Wd f fl g gl hh v tx)) rfl ?_
  refine WP.call hP_80 hP_99 (as := [.int p0, .int (f 68)]) (pc' := 11) (L' := [some (.ref 0), some (.int p0), some (.int p1)]) (st' := []) (w1 := Wd f fl g gl hh v tx) rfl ⟨Nat.le_of_ble_eq_true rfl, Nat.le_of_ble_eq_true rfl⟩ rfl (b_within_m X (d + 1) f fl g gl hh v tx p0 (f 68) _ ?_)
  refine ⟨fun c1 => ?_, fun c1 => ?_⟩
  · have h2 := h.1 c1
    refine WP.run hP_80 8 (c' := (27, [some (.ref 0), some (.int p0), some (.int p1)], [.ref 1, .int p0, .ref 1, .ref 38], Wd f fl g gl hh v tx)) rfl ?_
    refine WP.call hP_80 hP_46 (as := [.ref 1]) (pc' := 30) (L' := [some (.ref 0), some (.int p0), some (.int p1)]) (st' := [.int p0, .ref 1, .ref 38]) (w1 := Wd f fl g gl hh v tx) rfl ⟨Nat.le_of_ble_eq_true rfl, Nat.le_of_ble_eq_true rfl⟩ rfl (b_yst_lawInForce_1_0 X (d) f fl g gl hh v tx  _ ?_)
    refine ⟨fun c3 => ?_, fun c3 => ?_⟩
    · have h4 := h2.1 c3
      refine ⟨h4.1, ?_⟩
      have h5 := h4.2
      refine WP.call hP_80 hP_7 (as := [.ref 38, .ref 1, .int p0, (mm_rf ((hh 7) (f 76).toNatClampNeg))]) (pc' := 33) (L' := [some (.ref 0), some (.int p0), some (.int p1)]) (st' := []) (w1 := Wd f fl g gl hh v tx) rfl ⟨Nat.le_of_ble_eq_true rfl, Nat.le_of_ble_eq_true rfl⟩ rfl ?_
      exact h5
    · have h6 := h2.2 c3
      refine WP.call hP_80 hP_7 (as := [.ref 38, .ref 1, .int p0, .null]) (pc' := 33) (L' := [some (.ref 0), some (.int p0), some (.int p1)]) (st' := []) (w1 := Wd f fl g gl hh v tx) rfl ⟨Nat.le_of_ble_eq_true rfl, Nat.le_of_ble_eq_true rfl⟩ rfl ?_
      exact h6
  · have h7 := h.2 c1
    refine WP.run hP_80 2 (c' := (37, [none, none, none], [.int (-1)], Wd f fl g gl hh v tx)) rfl ?_
    exact WP.retI hP_80 rfl rfl h7

set_option maxRecDepth 20000 in
theorem b_x_reads_33 (X : mm_X) (d : Nat) (f : Nat → Int32) (fl : Nat → Int64) (g : Nat → Nat → Int32) (gl : Nat → Nat → Int64) (hh : Nat → Nat → Option Nat) (v : Nat → Value) (tx : mm_W) (l1 : Int32) (l2 : Int32) (s0 : Int32)  (P : Option Value → mm_W → Prop)
    (h : ((¬ s0 = 0) → (((¬ l2 = (-1)) → (((0 ≤ l2 ∧ l2 < (f 2437)) → ((¬ (l2 < 0 ∨ 12 ≤ l2.toNatClampNeg)) ∧ P (some (.int ((g 44) l2.toNatClampNeg))) (Wd f fl g gl hh v tx))) ∧
        ((¬ (0 ≤ l2 ∧ l2 < (f 2437))) → P (some (.int (-1))) (Wd f fl g gl hh v tx)))) ∧
      ((l2 = (-1)) → P (some (.int (f 2437))) (Wd f fl g gl hh v tx)))) ∧
    ((s0 = 0) → P (some (.int (-1))) (Wd f fl g gl hh v tx))) :
    WP X (d + 2) 80 (33, [some (.ref 0), some (.int l1), some (.int l2)], [.int s0], Wd f fl g gl hh v tx) P := by
  refine WP.br hP_80 (q := ¬ s0 = 0) (t := 38) (f := 36) (L := [some (.ref 0), some (.int l1), some (.int l2)]) (st := []) (w := Wd f fl g gl hh v tx) rfl (fun c1 => ?_) (fun c1 => ?_)
  · have h2 := h.1 c1
    refine WP.run hP_80 6 (c' := (50, [some (.ref 0), none, some (.int l2)], [.int l2, .int (f 2437), .ref 38], Wd f fl g gl hh v tx)) rfl ?_
    refine WP.call hP_80 hP_10 (as := [.ref 38, .int (f 2437), .int l2]) (pc' := 53) (L' := [some (.ref 0), none, some (.int l2)]) (st' := []) (w1 := Wd f fl g gl hh v tx) rfl ⟨Nat.le_of_ble_eq_true rfl, Nat.le_of_ble_eq_true rfl⟩ rfl (b_yca_told_38_0 X (d) f fl g gl hh v tx (f 2437) l2 _ ?_)
    refine ⟨fun c3 => ?_, fun c3 => ?_⟩
    · have h4 := h2.1 c3
      refine ⟨fun c5 => ?_, fun c5 => ?_⟩
      · have h6 := h4.1 c5
        refine ⟨h6.1, ?_⟩
        have h7 := h6.2
        exact WP.retI hP_80 rfl rfl h7
      · have h8 := h4.2 c5
        exact WP.retI hP_80 rfl rfl h8
    · have h9 := h2.2 c3
      exact WP.retI hP_80 rfl rfl h9
  · have h10 := h.2 (Classical.not_not.mp c1)
    refine WP.run hP_80 1 (c' := (37, [none, none, none], [.int (-1)], Wd f fl g gl hh v tx)) rfl ?_
    exact WP.retI hP_80 rfl rfl h10

set_option maxRecDepth 20000 in
theorem b_x_where_0 (X : mm_X) (d : Nat) (f : Nat → Int32) (fl : Nat → Int64) (g : Nat → Nat → Int32) (gl : Nat → Nat → Int64) (hh : Nat → Nat → Option Nat) (v : Nat → Value) (tx : mm_W) (p0 : Int32) (p1 : Int32)  (P : Option Value → mm_W → Prop)
    (h : ((0 ≤ p0 ∧ p0 < (f 68)) → (((0 ≤ (f 76) ∧ (f 76) < (f 74)) → ((¬ ((f 76) < 0 ∨ 6 ≤ (f 76).toNatClampNeg)) ∧ WP X (d + 1) 7 (0, [some (.ref 38), some (.ref 1), some (.int p0), some ((mm_rf ((hh 7) (f 76).toNatClampNeg))), none], [], Wd f fl g gl hh v tx) (fun rv w2 => WP X (d + 2) 81 (33, [some (.ref 0), some (.int p0), some (.int p1)], rv.toList ++ [], w2) P))) ∧
      ((¬ (0 ≤ (f 76) ∧ (f 76) < (f 74))) → WP X (d + 1) 7 (0, [some (.ref 38), some (.ref 1), some (.int p0), some (.null), none], [], Wd f fl g gl hh v tx) (fun rv w2 => WP X (d + 2) 81 (33, [some (.ref 0), some (.int p0), some (.int p1)], rv.toList ++ [], w2) P)))) ∧
    ((¬ (0 ≤ p0 ∧ p0 < (f 68))) → P (some (.int (-1))) (Wd f fl g gl hh v tx))) :
    WP X (d + 2) 81 (0, [some (.ref 0), some (.int p0), some (.int p1)], [], Wd f fl g gl hh v tx) P := by
  refine WP.run hP_81 4 (c' := (8, [some (.ref 0), some (.int p0), some (.int p1)], [.int (f 68), .int p0], Wd f fl g gl hh v tx)) rfl ?_
  refine WP.call hP_81 hP_99 (as := [.int p0, .int (f 68)]) (pc' := 11) (L' := [some (.ref 0), some (.int p0), some (.int p1)]) (st' := []) (w1 := Wd f fl g gl hh v tx) rfl ⟨Nat.le_of_ble_eq_true rfl, Nat.le_of_ble_eq_true rfl⟩ rfl (b_within_m X (d + 1) f fl g gl hh v tx p0 (f 68) _ ?_)
  refine ⟨fun c1 => ?_, fun c1 => ?_⟩
  · have h2 := h.1 c1
    refine WP.run hP_81 8 (c' := (27, [some (.ref 0), some (.int p0), some (.int p1)], [.ref 1, .int p0, .ref 1, .ref 38], Wd f fl g gl hh v tx)) rfl ?_
    refine WP.call hP_81 hP_46 (as := [.ref 1]) (pc' := 30) (L' := [some (.ref 0), some (.int p0), some (.int p1)]) (st' := [.int p0, .ref 1, .ref 38]) (w1 := Wd f fl g gl hh v tx) rfl ⟨Nat.le_of_ble_eq_true rfl, Nat.le_of_ble_eq_true rfl⟩ rfl (b_yst_lawInForce_1_0 X (d) f fl g gl hh v tx  _ ?_)
    refine ⟨fun c3 => ?_, fun c3 => ?_⟩
    · have h4 := h2.1 c3
      refine ⟨h4.1, ?_⟩
      have h5 := h4.2
      refine WP.call hP_81 hP_7 (as := [.ref 38, .ref 1, .int p0, (mm_rf ((hh 7) (f 76).toNatClampNeg))]) (pc' := 33) (L' := [some (.ref 0), some (.int p0), some (.int p1)]) (st' := []) (w1 := Wd f fl g gl hh v tx) rfl ⟨Nat.le_of_ble_eq_true rfl, Nat.le_of_ble_eq_true rfl⟩ rfl ?_
      exact h5
    · have h6 := h2.2 c3
      refine WP.call hP_81 hP_7 (as := [.ref 38, .ref 1, .int p0, .null]) (pc' := 33) (L' := [some (.ref 0), some (.int p0), some (.int p1)]) (st' := []) (w1 := Wd f fl g gl hh v tx) rfl ⟨Nat.le_of_ble_eq_true rfl, Nat.le_of_ble_eq_true rfl⟩ rfl ?_
      exact h6
  · have h7 := h.2 c1
    refine WP.run hP_81 2 (c' := (37, [none, none, none], [.int (-1)], Wd f fl g gl hh v tx)) rfl ?_
    exact WP.retI hP_81 rfl rfl h7

set_option maxRecDepth 20000 in
theorem b_x_where_33 (X : mm_X) (d : Nat) (f : Nat → Int32) (fl : Nat → Int64) (g : Nat → Nat → Int32) (gl : Nat → Nat → Int64) (hh : Nat → Nat → Option Nat) (v : Nat → Value) (tx : mm_W) (l1 : Int32) (l2 : Int32) (s0 : Int32)  (P : Option Value → mm_W → Prop)
    (h : ((¬ s0 = 0) → WP X (d) 11 (0, [some (.ref 38), some (.ref 1), none, none], [], Wd f fl g gl hh v tx) (fun rv w2 => WP X (d + 1) 81 (49, [some (.ref 0), none, some (.int l2)], rv.toList ++ [], w2) P)) ∧
    ((s0 = 0) → P (some (.int (-1))) (Wd f fl g gl hh v tx))) :
    WP X (d + 1) 81 (33, [some (.ref 0), some (.int l1), some (.int l2)], [.int s0], Wd f fl g gl hh v tx) P := by
  refine WP.br hP_81 (q := ¬ s0 = 0) (t := 38) (f := 36) (L := [some (.ref 0), some (.int l1), some (.int l2)]) (st := []) (w := Wd f fl g gl hh v tx) rfl (fun c1 => ?_) (fun c1 => ?_)
  · have h2 := h.1 c1
    refine WP.run hP_81 4 (c' := (46, [some (.ref 0), none, some (.int l2)], [.ref 1, .ref 38], Wd f fl g gl hh v tx)) rfl ?_
    refine WP.call hP_81 hP_11 (as := [.ref 38, .ref 1]) (pc' := 49) (L' := [some (.ref 0), none, some (.int l2)]) (st' := []) (w1 := Wd f fl g gl hh v tx) rfl ⟨Nat.le_of_ble_eq_true rfl, Nat.le_of_ble_eq_true rfl⟩ rfl ?_
    exact h2
  · have h3 := h.2 (Classical.not_not.mp c1)
    refine WP.run hP_81 1 (c' := (37, [none, none, none], [.int (-1)], Wd f fl g gl hh v tx)) rfl ?_
    exact WP.retI hP_81 rfl rfl h3

set_option maxRecDepth 20000 in
theorem b_x_where_49 (X : mm_X) (d : Nat) (f : Nat → Int32) (fl : Nat → Int64) (g : Nat → Nat → Int32) (gl : Nat → Nat → Int64) (hh : Nat → Nat → Option Nat) (v : Nat → Value) (tx : mm_W) (l2 : Int32)  (P : Option Value → mm_W → Prop)
    (h : ((l2 = 0) → P (some (.int ((f 2440) / (40 : Int32)))) (Wd f fl g gl hh v tx)) ∧
    ((¬ l2 = 0) → (((l2 = 1) → P (some (.int (((f 2440) / (10 : Int32)) - (((f 2440) / (10 : Int32)) / (4 : Int32)) * (4 : Int32)))) (Wd f fl g gl hh v tx)) ∧
      ((¬ l2 = 1) → (((l2 = 2) → P (some (.int ((f 2440) - ((f 2440) / (10 : Int32)) * (10 : Int32)))) (Wd f fl g gl hh v tx)) ∧
        ((¬ l2 = 2) → P (some (.int (-1))) (Wd f fl g gl hh v tx))))))) :
    WP X (d + 2) 81 (49, [some (.ref 0), none, some (.int l2)], [], Wd f fl g gl hh v tx) P := by
  refine WP.run hP_81 4 (c' := (57, [some (.ref 0), none, some (.int l2)], [.int l2, .int (f 2440)], Wd f fl g gl hh v tx)) rfl ?_
  refine WP.call hP_81 hP_113 (as := [.int (f 2440), .int l2]) (pc' := 60) (L' := [some (.ref 0), none, some (.int l2)]) (st' := []) (w1 := Wd f fl g gl hh v tx) rfl ⟨Nat.le_of_ble_eq_true rfl, Nat.le_of_ble_eq_true rfl⟩ rfl (b_x_detail_0 X (d) f fl g gl hh v tx (f 2440) l2 _ ?_)
  refine ⟨fun c1 => ?_, fun c1 => ?_⟩
  · have h2 := h.1 c1
    exact WP.retI hP_81 rfl rfl h2
  · have h3 := h.2 c1
    refine ⟨fun c4 => ?_, fun c4 => ?_⟩
    · have h5 := h3.1 c4
      exact WP.retI hP_81 rfl rfl h5
    · have h6 := h3.2 c4
      refine ⟨fun c7 => ?_, fun c7 => ?_⟩
      · have h8 := h6.1 c7
        exact WP.retI hP_81 rfl rfl h8
      · have h9 := h6.2 c7
        exact WP.retI hP_81 rfl rfl h9

set_option maxRecDepth 20000 in
theorem b_x_meetings_0 (X : mm_X) (d : Nat) (f : Nat → Int32) (fl : Nat → Int64) (g : Nat → Nat → Int32) (gl : Nat → Nat → Int64) (hh : Nat → Nat → Option Nat) (v : Nat → Value) (tx : mm_W) (p0 : Int32)  (P : Option Value → mm_W → Prop)
    (h : WP X (d) 82 (4, [some (.ref 0), some (.int p0), some (.int 0), some (.int 0), none, none], [], Wd f fl g gl hh v tx) P) :
    WP X (d) 82 (0, [some (.ref 0), some (.int p0), none, none, none, none], [], Wd f fl g gl hh v tx) P := by
  refine WP.run hP_82 3 (c' := (3, [some (.ref 0), some (.int p0), some (.int 0), none, none, none], [.int 0], Wd f fl g gl hh v tx)) rfl ?_
  refine WP.run hP_82 1 (c' := (4, [some (.ref 0), some (.int p0), some (.int 0), some (.int 0), none, none], [], Wd f fl g gl hh v tx)) rfl ?_
  exact h

set_option maxRecDepth 20000 in
theorem b_x_meetings_4 (X : mm_X) (d : Nat) (f : Nat → Int32) (fl : Nat → Int64) (g : Nat → Nat → Int32) (gl : Nat → Nat → Int64) (hh : Nat → Nat → Option Nat) (v : Nat → Value) (tx : mm_W) (l1 : Int32) (l2 : Int32) (l3 : Int32)  (P : Option Value → mm_W → Prop)
    (h : (((f 68) ≤ l3) → (((¬ l1 = (-1)) → P (some (.int (-1))) (Wd f fl g gl hh v tx)) ∧
      ((l1 = (-1)) → P (some (.int l2)) (Wd f fl g gl hh v tx)))) ∧
    ((¬ ((f 68) ≤ l3)) → WP X (d) 82 (20, [some (.ref 0), some (.int l1), some (.int l2), some (.int l3), some (.int (l3 + (1 : Int32))), none], [], Wd f fl g gl hh v tx) P)) :
    WP X (d) 82 (4, [some (.ref 0), some (.int l1), some (.int l2), some (.int l3), none, none], [], Wd f fl g gl hh v tx) P := by
  refine WP.run hP_82 4 (c' := (12, [some (.ref 0), some (.int l1), some (.int l2), some (.int l3), none, none], [.int (f 68), .int l3], Wd f fl g gl hh v tx)) rfl ?_
  refine WP.br hP_82 (q := (f 68) ≤ l3) (t := 86) (f := 15) (L := [some (.ref 0), some (.int l1), some (.int l2), some (.int l3), none, none]) (st := []) (w := Wd f fl g gl hh v tx) rfl (fun c1 => ?_) (fun c1 => ?_)
  · have h2 := h.1 c1
    refine WP.run hP_82 2 (c' := (88, [none, some (.int l1), some (.int l2), none, none, none], [.int (-1), .int l1], Wd f fl g gl hh v tx)) rfl ?_
    refine WP.br hP_82 (q := ¬ l1 = (-1)) (t := 95) (f := 91) (L := [none, some (.int l1), some (.int l2), none, none, none]) (st := []) (w := Wd f fl g gl hh v tx) rfl (fun c3 => ?_) (fun c3 => ?_)
    · have h4 := h2.1 c3
      refine WP.run hP_82 1 (c' := (96, [none, none, none, none, none, none], [.int (-1)], Wd f fl g gl hh v tx)) rfl ?_
      exact WP.retI hP_82 rfl rfl h4
    · have h5 := h2.2 (Classical.not_not.mp c3)
      refine WP.run hP_82 2 (c' := (96, [none, some (.int l1), some (.int l2), none, none, none], [.int l2], Wd f fl g gl hh v tx)) rfl ?_
      exact WP.retI hP_82 rfl rfl h5
  · have h6 := h.2 c1
    refine WP.run hP_82 4 (c' := (20, [some (.ref 0), some (.int l1), some (.int l2), some (.int l3), some (.int (l3 + (1 : Int32))), none], [], Wd f fl g gl hh v tx)) rfl ?_
    exact h6

set_option maxRecDepth 20000 in
theorem b_x_meetings_20 (X : mm_X) (d : Nat) (f : Nat → Int32) (fl : Nat → Int64) (g : Nat → Nat → Int32) (gl : Nat → Nat → Int64) (hh : Nat → Nat → Option Nat) (v : Nat → Value) (tx : mm_W) (l1 : Int32) (l2 : Int32) (l3 : Int32) (l4 : Int32)  (P : Option Value → mm_W → Prop)
    (h : (((f 68) ≤ l4) → WP X (d + 1) 82 (4, [some (.ref 0), some (.int l1), some (.int l2), some (.int (l3 + (1 : Int32))), none, none], [], Wd f fl g gl hh v tx) P) ∧
    ((¬ ((f 68) ≤ l4)) → WP X (d) 81 (0, [some (.ref 0), some (.int l3), some (.int 0)], [], Wd f fl g gl hh v tx) (fun rv w2 => WP X (d + 1) 82 (38, [some (.ref 0), some (.int l1), some (.int l2), some (.int l3), some (.int l4), none], rv.toList ++ [], w2) P))) :
    WP X (d + 1) 82 (20, [some (.ref 0), some (.int l1), some (.int l2), some (.int l3), some (.int l4), none], [], Wd f fl g gl hh v tx) P := by
  refine WP.run hP_82 4 (c' := (29, [some (.ref 0), some (.int l1), some (.int l2), some (.int l3), some (.int l4), none], [.int (f 68), .int l4], Wd f fl g gl hh v tx)) rfl ?_
  refine WP.br hP_82 (q := (f 68) ≤ l4) (t := 80) (f := 32) (L := [some (.ref 0), some (.int l1), some (.int l2), some (.int l3), some (.int l4), none]) (st := []) (w := Wd f fl g gl hh v tx) rfl (fun c1 => ?_) (fun c1 => ?_)
  · have h2 := h.1 c1
    refine WP.run hP_82 2 (c' := (4, [some (.ref 0), some (.int l1), some (.int l2), some (.int (l3 + (1 : Int32))), none, none], [], Wd f fl g gl hh v tx)) rfl ?_
    exact h2
  · have h3 := h.2 c1
    refine WP.run hP_82 3 (c' := (35, [some (.ref 0), some (.int l1), some (.int l2), some (.int l3), some (.int l4), none], [.int 0, .int l3, .ref 0], Wd f fl g gl hh v tx)) rfl ?_
    refine WP.call hP_82 hP_81 (as := [.ref 0, .int l3, .int 0]) (pc' := 38) (L' := [some (.ref 0), some (.int l1), some (.int l2), some (.int l3), some (.int l4), none]) (st' := []) (w1 := Wd f fl g gl hh v tx) rfl ⟨Nat.le_of_ble_eq_true rfl, Nat.le_of_ble_eq_true rfl⟩ rfl ?_
    exact h3

set_option maxRecDepth 20000 in
theorem b_x_meetings_38 (X : mm_X) (d : Nat) (f : Nat → Int32) (fl : Nat → Int64) (g : Nat → Nat → Int32) (gl : Nat → Nat → Int64) (hh : Nat → Nat → Option Nat) (v : Nat → Value) (tx : mm_W) (l1 : Int32) (l2 : Int32) (l3 : Int32) (l4 : Int32) (s0 : Int32)  (P : Option Value → mm_W → Prop)
    (h : ((s0 = (-1)) → WP X (d + 1) 82 (20, [some (.ref 0), some (.int l1), some (.int l2), some (.int l3), some (.int (l4 + (1 : Int32))), none], [], Wd f fl g gl hh v tx) P) ∧
    ((¬ s0 = (-1)) → WP X (d) 81 (0, [some (.ref 0), some (.int l4), some (.int 0)], [], Wd f fl g gl hh v tx) (fun rv w2 => WP X (d + 1) 82 (55, [some (.ref 0), some (.int l1), some (.int l2), some (.int l3), some (.int l4), some (.int s0)], rv.toList ++ [.int s0], w2) P))) :
    WP X (d + 1) 82 (38, [some (.ref 0), some (.int l1), some (.int l2), some (.int l3), some (.int l4), none], [.int s0], Wd f fl g gl hh v tx) P := by
  refine WP.run hP_82 3 (c' := (43, [some (.ref 0), some (.int l1), some (.int l2), some (.int l3), some (.int l4), some (.int s0)], [.int (-1), .int s0], Wd f fl g gl hh v tx)) rfl ?_
  refine WP.br hP_82 (q := s0 = (-1)) (t := 74) (f := 46) (L := [some (.ref 0), some (.int l1), some (.int l2), some (.int l3), some (.int l4), some (.int s0)]) (st := []) (w := Wd f fl g gl hh v tx) rfl (fun c1 => ?_) (fun c1 => ?_)
  · have h2 := h.1 c1
    refine WP.run hP_82 2 (c' := (20, [some (.ref 0), some (.int l1), some (.int l2), some (.int l3), some (.int (l4 + (1 : Int32))), none], [], Wd f fl g gl hh v tx)) rfl ?_
    exact h2
  · have h3 := h.2 c1
    refine WP.run hP_82 4 (c' := (52, [some (.ref 0), some (.int l1), some (.int l2), some (.int l3), some (.int l4), some (.int s0)], [.int 0, .int l4, .ref 0, .int s0], Wd f fl g gl hh v tx)) rfl ?_
    refine WP.call hP_82 hP_81 (as := [.ref 0, .int l4, .int 0]) (pc' := 55) (L' := [some (.ref 0), some (.int l1), some (.int l2), some (.int l3), some (.int l4), some (.int s0)]) (st' := [.int s0]) (w1 := Wd f fl g gl hh v tx) rfl ⟨Nat.le_of_ble_eq_true rfl, Nat.le_of_ble_eq_true rfl⟩ rfl ?_
    exact h3

set_option maxRecDepth 20000 in
theorem b_x_meetings_55 (X : mm_X) (d : Nat) (f : Nat → Int32) (fl : Nat → Int64) (g : Nat → Nat → Int32) (gl : Nat → Nat → Int64) (hh : Nat → Nat → Option Nat) (v : Nat → Value) (tx : mm_W) (l1 : Int32) (l2 : Int32) (l3 : Int32) (l4 : Int32) (l5 : Int32) (s0 : Int32) (s1 : Int32)  (P : Option Value → mm_W → Prop)
    (h : ((¬ s1 = s0) → WP X (d) 82 (20, [some (.ref 0), some (.int l1), some (.int l2), some (.int l3), some (.int (l4 + (1 : Int32))), none], [], Wd f fl g gl hh v tx) P) ∧
    ((s1 = s0) → (((¬ l2 = l1) → WP X (d) 82 (20, [some (.ref 0), some (.int l1), some (.int (l2 + (1 : Int32))), some (.int l3), some (.int (l4 + (1 : Int32))), none], [], Wd f fl g gl hh v tx) P) ∧
      ((l2 = l1) → P (some (.int (((10 : Int32) * l3) + l4))) (Wd f fl g gl hh v tx))))) :
    WP X (d) 82 (55, [some (.ref 0), some (.int l1), some (.int l2), some (.int l3), some (.int l4), some (.int l5)], [.int s0, .int s1], Wd f fl g gl hh v tx) P := by
  refine WP.br hP_82 (q := ¬ s1 = s0) (t := 74) (f := 58) (L := [some (.ref 0), some (.int l1), some (.int l2), some (.int l3), some (.int l4), some (.int l5)]) (st := []) (w := Wd f fl g gl hh v tx) rfl (fun c1 => ?_) (fun c1 => ?_)
  · have h2 := h.1 c1
    refine WP.run hP_82 2 (c' := (20, [some (.ref 0), some (.int l1), some (.int l2), some (.int l3), some (.int (l4 + (1 : Int32))), none], [], Wd f fl g gl hh v tx)) rfl ?_
    exact h2
  · have h3 := h.2 (Classical.not_not.mp c1)
    refine WP.run hP_82 2 (c' := (60, [some (.ref 0), some (.int l1), some (.int l2), some (.int l3), some (.int l4), some (.int l5)], [.int l1, .int l2], Wd f fl g gl hh v tx)) rfl ?_
    refine WP.br hP_82 (q := ¬ l2 = l1) (t := 71) (f := 63) (L := [some (.ref 0), some (.int l1), some (.int l2), some (.int l3), some (.int l4), some (.int l5)]) (st := []) (w := Wd f fl g gl hh v tx) rfl (fun c4 => ?_) (fun c4 => ?_)
    · have h5 := h3.1 c4
      refine WP.run hP_82 1 (c' := (74, [some (.ref 0), some (.int l1), some (.int (l2 + (1 : Int32))), some (.int l3), some (.int l4), none], [], Wd f fl g gl hh v tx)) rfl ?_
      refine WP.run hP_82 2 (c' := (20, [some (.ref 0), some (.int l1), some (.int (l2 + (1 : Int32))), some (.int l3), some (.int (l4 + (1 : Int32))), none], [], Wd f fl g gl hh v tx)) rfl ?_
      exact h5
    · have h6 := h3.2 (Classical.not_not.mp c4)
      refine WP.run hP_82 5 (c' := (70, [some (.ref 0), some (.int l1), some (.int l2), some (.int l3), some (.int l4), some (.int l5)], [.int (((10 : Int32) * l3) + l4)], Wd f fl g gl hh v tx)) rfl ?_
      exact WP.retI hP_82 rfl rfl h6

set_option maxRecDepth 20000 in
theorem b_x_plan_0 (X : mm_X) (d : Nat) (f : Nat → Int32) (fl : Nat → Int64) (g : Nat → Nat → Int32) (gl : Nat → Nat → Int64) (hh : Nat → Nat → Option Nat) (v : Nat → Value) (tx : mm_W) (p0 : Int32) (p1 : Int32) (p2 : Int32)  (P : Option Value → mm_W → Prop)
    (h : ((0 ≤ p0 ∧ p0 < (f 68)) → (((0 ≤ p1 ∧ p1 < (25 : Int32)) → ((((-1) ≤ p2) → (((0 ≤ (f 76) ∧ (f 76) < (f 74)) → ((¬ ((f 76) < 0 ∨ 6 ≤ (f 76).toNatClampNeg)) ∧ WP X (d + 1) 2 (0, [some (.ref 38), some (.ref 1), some (.int p0), some ((mm_rf ((hh 7) (f 76).toNatClampNeg)))], [], Wd f fl g gl hh v tx) (fun rv w2 => WP X (d + 2) 83 (49, [some (.ref 0), some (.int p0), some (.int p1), some (.int p2), none, none], rv.toList ++ [], w2) P))) ∧
          ((¬ (0 ≤ (f 76) ∧ (f 76) < (f 74))) → ((¬ (p0 < 0 ∨ 3 ≤ p0.toNatClampNeg)) ∧ ((¬ (p0 < 0 ∨ 3 ≤ p0.toNatClampNeg)) ∧ WP X (d + 1) 21 (0, [some (.ref 45), some (.ref 1), some (.ref 38), some (.int ((g 5) p0.toNatClampNeg)), some (.int p1), none, none, none], [], Wd (va_up f 2440 ((g 5) p0.toNatClampNeg)) fl (va_up (va_up (va_up g 41 (upd (g 41) 0 p0)) 41 (upd (upd (g 41) 0 p0) 6 ((g 8) 0))) 41 (upd (upd (upd (g 41) 0 p0) 6 ((g 8) 0)) 7 ((g 8) 2))) gl hh (va_up v 2439 (.null)) tx) (fun rv w2 => WP X (d + 2) 83 (78, [some (.ref 0), some (.int p0), some (.int p1), some (.int p2), some (.int ((g 5) p0.toNatClampNeg)), none], rv.toList ++ [], w2) P)))))) ∧
        ((¬ ((-1) ≤ p2)) → P (some (.int (-1))) (Wd f fl g gl hh v tx)))) ∧
      ((¬ (0 ≤ p1 ∧ p1 < (25 : Int32))) → P (some (.int (-1))) (Wd f fl g gl hh v tx)))) ∧
    ((¬ (0 ≤ p0 ∧ p0 < (f 68))) → P (some (.int (-1))) (Wd f fl g gl hh v tx))) :
    WP X (d + 2) 83 (0, [some (.ref 0), some (.int p0), some (.int p1), some (.int p2), none, none], [], Wd f fl g gl hh v tx) P := by
  refine WP.run hP_83 4 (c' := (8, [some (.ref 0), some (.int p0), some (.int p1), some (.int p2), none, none], [.int (f 68), .int p0], Wd f fl g gl hh v tx)) rfl ?_
  refine WP.call hP_83 hP_99 (as := [.int p0, .int (f 68)]) (pc' := 11) (L' := [some (.ref 0), some (.int p0), some (.int p1), some (.int p2), none, none]) (st' := []) (w1 := Wd f fl g gl hh v tx) rfl ⟨Nat.le_of_ble_eq_true rfl, Nat.le_of_ble_eq_true rfl⟩ rfl (b_within_m X (d + 1) f fl g gl hh v tx p0 (f 68) _ ?_)
  refine ⟨fun c1 => ?_, fun c1 => ?_⟩
  · have h2 := h.1 c1
    refine WP.run hP_83 3 (c' := (17, [some (.ref 0), some (.int p0), some (.int p1), some (.int p2), none, none], [.int 25, .int p1], Wd f fl g gl hh v tx)) rfl ?_
    refine WP.call hP_83 hP_99 (as := [.int p1, .int 25]) (pc' := 20) (L' := [some (.ref 0), some (.int p0), some (.int p1), some (.int p2), none, none]) (st' := []) (w1 := Wd f fl g gl hh v tx) rfl ⟨Nat.le_of_ble_eq_true rfl, Nat.le_of_ble_eq_true rfl⟩ rfl (b_within_m X (d + 1) f fl g gl hh v tx p1 25 _ ?_)
    refine ⟨fun c3 => ?_, fun c3 => ?_⟩
    · have h4 := h2.1 c3
      refine WP.run hP_83 3 (c' := (25, [some (.ref 0), some (.int p0), some (.int p1), some (.int p2), none, none], [.int (-1), .int p2], Wd f fl g gl hh v tx)) rfl ?_
      refine WP.br hP_83 (q := (-1) ≤ p2) (t := 30) (f := 28) (L := [some (.ref 0), some (.int p0), some (.int p1), some (.int p2), none, none]) (st := []) (w := Wd f fl g gl hh v tx) rfl (fun c5 => ?_) (fun c5 => ?_)
      · have h6 := h4.1 c5
        refine WP.run hP_83 7 (c' := (43, [some (.ref 0), some (.int p0), some (.int p1), some (.int p2), none, none], [.ref 1, .int p0, .ref 1, .ref 38], Wd f fl g gl hh v tx)) rfl ?_
        refine WP.call hP_83 hP_46 (as := [.ref 1]) (pc' := 46) (L' := [some (.ref 0), some (.int p0), some (.int p1), some (.int p2), none, none]) (st' := [.int p0, .ref 1, .ref 38]) (w1 := Wd f fl g gl hh v tx) rfl ⟨Nat.le_of_ble_eq_true rfl, Nat.le_of_ble_eq_true rfl⟩ rfl (b_yst_lawInForce_1_0 X (d) f fl g gl hh v tx  _ ?_)
        refine ⟨fun c7 => ?_, fun c7 => ?_⟩
        · have h8 := h6.1 c7
          refine ⟨h8.1, ?_⟩
          have h9 := h8.2
          refine WP.call hP_83 hP_2 (as := [.ref 38, .ref 1, .int p0, (mm_rf ((hh 7) (f 76).toNatClampNeg))]) (pc' := 49) (L' := [some (.ref 0), some (.int p0), some (.int p1), some (.int p2), none, none]) (st' := []) (w1 := Wd f fl g gl hh v tx) rfl ⟨Nat.le_of_ble_eq_true rfl, Nat.le_of_ble_eq_true rfl⟩ rfl ?_
          exact h9
        · have h10 := h6.2 c7
          refine WP.call hP_83 hP_2 (as := [.ref 38, .ref 1, .int p0, .null]) (pc' := 49) (L' := [some (.ref 0), some (.int p0), some (.int p1), some (.int p2), none, none]) (st' := []) (w1 := Wd f fl g gl hh v tx) rfl ⟨Nat.le_of_ble_eq_true rfl, Nat.le_of_ble_eq_true rfl⟩ rfl (b_yca_board_1n_0 X (d + 1) f fl g gl hh v tx p0 _ ?_)
          refine ⟨h10.1, ?_⟩
          have h11 := h10.2
          refine WP.run hP_83 4 (c' := (57, [some (.ref 0), some (.int p0), some (.int p1), some (.int p2), none, none], [.int p0, .ref 5], Wd (va_up f 2440 ((g 5) p0.toNatClampNeg)) fl (va_up (va_up (va_up g 41 (upd (g 41) 0 p0)) 41 (upd (upd (g 41) 0 p0) 6 ((g 8) 0))) 41 (upd (upd (upd (g 41) 0 p0) 6 ((g 8) 0)) 7 ((g 8) 2))) gl hh (va_up v 2439 (.null)) tx)) rfl ?_
          refine WP.of (fun _ _ => Ex.iald hP_83 rfl (Wa_5 _ _ _ _ _ _ _) h11.1) ?_
          have h12 := h11.2
          refine WP.run hP_83 9 (c' := (75, [some (.ref 0), some (.int p0), some (.int p1), some (.int p2), some (.int ((g 5) p0.toNatClampNeg)), none], [.int p1, .int ((g 5) p0.toNatClampNeg), .ref 38, .ref 1, .ref 45], Wd (va_up f 2440 ((g 5) p0.toNatClampNeg)) fl (va_up (va_up (va_up g 41 (upd (g 41) 0 p0)) 41 (upd (upd (g 41) 0 p0) 6 ((g 8) 0))) 41 (upd (upd (upd (g 41) 0 p0) 6 ((g 8) 0)) 7 ((g 8) 2))) gl hh (va_up v 2439 (.null)) tx)) rfl ?_
          refine WP.call hP_83 hP_21 (as := [.ref 45, .ref 1, .ref 38, .int ((g 5) p0.toNatClampNeg), .int p1]) (pc' := 78) (L' := [some (.ref 0), some (.int p0), some (.int p1), some (.int p2), some (.int ((g 5) p0.toNatClampNeg)), none]) (st' := []) (w1 := Wd (va_up f 2440 ((g 5) p0.toNatClampNeg)) fl (va_up (va_up (va_up g 41 (upd (g 41) 0 p0)) 41 (upd (upd (g 41) 0 p0) 6 ((g 8) 0))) 41 (upd (upd (upd (g 41) 0 p0) 6 ((g 8) 0)) 7 ((g 8) 2))) gl hh (va_up v 2439 (.null)) tx) rfl ⟨Nat.le_of_ble_eq_true rfl, Nat.le_of_ble_eq_true rfl⟩ rfl ?_
          exact h12
      · have h13 := h4.2 c5
        refine WP.run hP_83 1 (c' := (29, [none, none, none, none, none, none], [.int (-1)], Wd f fl g gl hh v tx)) rfl ?_
        exact WP.retI hP_83 rfl rfl h13
    · have h14 := h2.2 c3
      refine WP.run hP_83 2 (c' := (29, [none, none, none, none, none, none], [.int (-1)], Wd f fl g gl hh v tx)) rfl ?_
      exact WP.retI hP_83 rfl rfl h14
  · have h15 := h.2 c1
    refine WP.run hP_83 2 (c' := (29, [none, none, none, none, none, none], [.int (-1)], Wd f fl g gl hh v tx)) rfl ?_
    exact WP.retI hP_83 rfl rfl h15

set_option maxRecDepth 20000 in
theorem b_x_plan_49 (X : mm_X) (d : Nat) (f : Nat → Int32) (fl : Nat → Int64) (g : Nat → Nat → Int32) (gl : Nat → Nat → Int64) (hh : Nat → Nat → Option Nat) (v : Nat → Value) (tx : mm_W) (l1 : Int32) (l2 : Int32) (l3 : Int32)  (P : Option Value → mm_W → Prop)
    (h : (¬ (l1 < 0 ∨ 3 ≤ l1.toNatClampNeg)) ∧ WP X (d) 21 (0, [some (.ref 45), some (.ref 1), some (.ref 38), some (.int ((g 5) l1.toNatClampNeg)), some (.int l2), none, none, none], [], Wd f fl g gl hh v tx) (fun rv w2 => WP X (d + 1) 83 (78, [some (.ref 0), some (.int l1), some (.int l2), some (.int l3), some (.int ((g 5) l1.toNatClampNeg)), none], rv.toList ++ [], w2) P)) :
    WP X (d + 1) 83 (49, [some (.ref 0), some (.int l1), some (.int l2), some (.int l3), none, none], [], Wd f fl g gl hh v tx) P := by
  refine WP.run hP_83 4 (c' := (57, [some (.ref 0), some (.int l1), some (.int l2), some (.int l3), none, none], [.int l1, .ref 5], Wd f fl g gl hh v tx)) rfl ?_
  refine WP.of (fun _ _ => Ex.iald hP_83 rfl (Wa_5 _ _ _ _ _ _ _) h.1) ?_
  have h1 := h.2
  refine WP.run hP_83 9 (c' := (75, [some (.ref 0), some (.int l1), some (.int l2), some (.int l3), some (.int ((g 5) l1.toNatClampNeg)), none], [.int l2, .int ((g 5) l1.toNatClampNeg), .ref 38, .ref 1, .ref 45], Wd f fl g gl hh v tx)) rfl ?_
  refine WP.call hP_83 hP_21 (as := [.ref 45, .ref 1, .ref 38, .int ((g 5) l1.toNatClampNeg), .int l2]) (pc' := 78) (L' := [some (.ref 0), some (.int l1), some (.int l2), some (.int l3), some (.int ((g 5) l1.toNatClampNeg)), none]) (st' := []) (w1 := Wd f fl g gl hh v tx) rfl ⟨Nat.le_of_ble_eq_true rfl, Nat.le_of_ble_eq_true rfl⟩ rfl ?_
  exact h1

set_option maxRecDepth 20000 in
theorem b_x_plan_78 (X : mm_X) (d : Nat) (f : Nat → Int32) (fl : Nat → Int64) (g : Nat → Nat → Int32) (gl : Nat → Nat → Int64) (hh : Nat → Nat → Option Nat) (v : Nat → Value) (tx : mm_W) (l1 : Int32) (l2 : Int32) (l3 : Int32) (l4 : Int32) (s0 : Int32)  (P : Option Value → mm_W → Prop)
    (h : ((s0 = (-1)) → P (some (.int s0)) (Wd f fl g gl hh v tx)) ∧
    ((¬ s0 = (-1)) → (((¬ l3 = (-1)) → WP X (d) 22 (0, [some (.ref 45), some (.ref 1), some (.int l4), some (.int l3), none, none, none], [], Wd f fl g gl hh v tx) (fun rv w2 => WP X (d + 1) 83 (110, [none, none, none, none, none, none], rv.toList ++ [], w2) P)) ∧
      ((l3 = (-1)) → P (some (.int s0)) (Wd f fl g gl hh v tx))))) :
    WP X (d + 1) 83 (78, [some (.ref 0), some (.int l1), some (.int l2), some (.int l3), some (.int l4), none], [.int s0], Wd f fl g gl hh v tx) P := by
  refine WP.run hP_83 3 (c' := (83, [some (.ref 0), some (.int l1), some (.int l2), some (.int l3), some (.int l4), some (.int s0)], [.int (-1), .int s0], Wd f fl g gl hh v tx)) rfl ?_
  refine WP.br hP_83 (q := s0 = (-1)) (t := 91) (f := 86) (L := [some (.ref 0), some (.int l1), some (.int l2), some (.int l3), some (.int l4), some (.int s0)]) (st := []) (w := Wd f fl g gl hh v tx) rfl (fun c1 => ?_) (fun c1 => ?_)
  · have h2 := h.1 c1
    refine WP.run hP_83 2 (c' := (110, [none, none, none, none, none, some (.int s0)], [.int s0], Wd f fl g gl hh v tx)) rfl ?_
    exact WP.retI hP_83 rfl rfl h2
  · have h3 := h.2 c1
    refine WP.run hP_83 2 (c' := (88, [some (.ref 0), some (.int l1), some (.int l2), some (.int l3), some (.int l4), some (.int s0)], [.int (-1), .int l3], Wd f fl g gl hh v tx)) rfl ?_
    refine WP.br hP_83 (q := ¬ l3 = (-1)) (t := 96) (f := 91) (L := [some (.ref 0), some (.int l1), some (.int l2), some (.int l3), some (.int l4), some (.int s0)]) (st := []) (w := Wd f fl g gl hh v tx) rfl (fun c4 => ?_) (fun c4 => ?_)
    · have h5 := h3.1 c4
      refine WP.run hP_83 6 (c' := (107, [some (.ref 0), none, none, some (.int l3), some (.int l4), none], [.int l3, .int l4, .ref 1, .ref 45], Wd f fl g gl hh v tx)) rfl ?_
      refine WP.call hP_83 hP_22 (as := [.ref 45, .ref 1, .int l4, .int l3]) (pc' := 110) (L' := [some (.ref 0), none, none, some (.int l3), some (.int l4), none]) (st' := []) (w1 := Wd f fl g gl hh v tx) rfl ⟨Nat.le_of_ble_eq_true rfl, Nat.le_of_ble_eq_true rfl⟩ rfl ?_
      refine WP.mono h5 (fun _ _ hq => ?_)
      exact WP.clr hP_83 (pc := 110) rfl hq
    · have h6 := h3.2 (Classical.not_not.mp c4)
      refine WP.run hP_83 2 (c' := (110, [none, none, none, none, none, some (.int s0)], [.int s0], Wd f fl g gl hh v tx)) rfl ?_
      exact WP.retI hP_83 rfl rfl h6

set_option maxRecDepth 20000 in
theorem b_x_plan_110 (X : mm_X) (d : Nat) (f : Nat → Int32) (fl : Nat → Int64) (g : Nat → Nat → Int32) (gl : Nat → Nat → Int64) (hh : Nat → Nat → Option Nat) (v : Nat → Value) (tx : mm_W) (s0 : Int32)  (P : Option Value → mm_W → Prop)
    (h : P (some (.int s0)) (Wd f fl g gl hh v tx)) :
    WP X (d) 83 (110, [none, none, none, none, none, none], [.int s0], Wd f fl g gl hh v tx) P := by
  exact WP.retI hP_83 rfl rfl h

set_option maxRecDepth 20000 in
theorem b_x_mended_0 (X : mm_X) (d : Nat) (f : Nat → Int32) (fl : Nat → Int64) (g : Nat → Nat → Int32) (gl : Nat → Nat → Int64) (hh : Nat → Nat → Option Nat) (v : Nat → Value) (tx : mm_W) (p0 : Int32)  (P : Option Value → mm_W → Prop)
    (h : WP X (d) 8 (0, [some (.ref 38), some (.ref 1), some (.int 1), none, none, none], [], Wd f fl g gl hh v tx) (fun rv w2 => WP X (d + 1) 84 (12, [some (.ref 0), some (.int p0)], rv.toList ++ [], w2) P)) :
    WP X (d + 1) 84 (0, [some (.ref 0), some (.int p0)], [], Wd f fl g gl hh v tx) P := by
  refine WP.run hP_84 5 (c' := (9, [some (.ref 0), some (.int p0)], [.int 1, .ref 1, .ref 38], Wd f fl g gl hh v tx)) rfl ?_
  refine WP.call hP_84 hP_8 (as := [.ref 38, .ref 1, .int 1]) (pc' := 12) (L' := [some (.ref 0), some (.int p0)]) (st' := []) (w1 := Wd f fl g gl hh v tx) rfl ⟨Nat.le_of_ble_eq_true rfl, Nat.le_of_ble_eq_true rfl⟩ rfl ?_
  exact h

set_option maxRecDepth 20000 in
theorem b_x_mended_12 (X : mm_X) (d : Nat) (f : Nat → Int32) (fl : Nat → Int64) (g : Nat → Nat → Int32) (gl : Nat → Nat → Int64) (hh : Nat → Nat → Option Nat) (v : Nat → Value) (tx : mm_W) (l1 : Int32) (s0 : Int32)  (P : Option Value → mm_W → Prop)
    (h : ((s0 = 0) → P (some (.int (-1))) (Wd f fl g gl hh v tx)) ∧
    ((¬ s0 = 0) → (((¬ l1 = (-1)) → (((0 ≤ l1 ∧ l1 < (f 2437)) → ((¬ (l1 < 0 ∨ 12 ≤ l1.toNatClampNeg)) ∧ P (some (.int ((g 44) l1.toNatClampNeg))) (Wd f fl g gl hh v tx))) ∧
        ((¬ (0 ≤ l1 ∧ l1 < (f 2437))) → P (some (.int (-1))) (Wd f fl g gl hh v tx)))) ∧
      ((l1 = (-1)) → P (some (.int (f 2438))) (Wd f fl g gl hh v tx))))) :
    WP X (d + 2) 84 (12, [some (.ref 0), some (.int l1)], [.int s0], Wd f fl g gl hh v tx) P := by
  refine WP.br hP_84 (q := s0 = 0) (t := 33) (f := 15) (L := [some (.ref 0), some (.int l1)]) (st := []) (w := Wd f fl g gl hh v tx) rfl (fun c1 => ?_) (fun c1 => ?_)
  · have h2 := h.1 c1
    refine WP.run hP_84 1 (c' := (34, [none, none], [.int (-1)], Wd f fl g gl hh v tx)) rfl ?_
    exact WP.retI hP_84 rfl rfl h2
  · have h3 := h.2 c1
    refine WP.run hP_84 6 (c' := (27, [some (.ref 0), some (.int l1)], [.int l1, .int (f 2438), .ref 38], Wd f fl g gl hh v tx)) rfl ?_
    refine WP.call hP_84 hP_10 (as := [.ref 38, .int (f 2438), .int l1]) (pc' := 30) (L' := [some (.ref 0), some (.int l1)]) (st' := []) (w1 := Wd f fl g gl hh v tx) rfl ⟨Nat.le_of_ble_eq_true rfl, Nat.le_of_ble_eq_true rfl⟩ rfl (b_yca_told_38_0 X (d) f fl g gl hh v tx (f 2438) l1 _ ?_)
    refine ⟨fun c4 => ?_, fun c4 => ?_⟩
    · have h5 := h3.1 c4
      refine ⟨fun c6 => ?_, fun c6 => ?_⟩
      · have h7 := h5.1 c6
        refine ⟨h7.1, ?_⟩
        have h8 := h7.2
        refine WP.run hP_84 1 (c' := (34, [some (.ref 0), some (.int l1)], [.int ((g 44) l1.toNatClampNeg)], Wd f fl g gl hh v tx)) rfl ?_
        exact WP.retI hP_84 rfl rfl h8
      · have h9 := h5.2 c6
        refine WP.run hP_84 1 (c' := (34, [some (.ref 0), some (.int l1)], [.int (-1)], Wd f fl g gl hh v tx)) rfl ?_
        exact WP.retI hP_84 rfl rfl h9
    · have h10 := h3.2 c4
      refine WP.run hP_84 1 (c' := (34, [some (.ref 0), some (.int l1)], [.int (f 2438)], Wd f fl g gl hh v tx)) rfl ?_
      exact WP.retI hP_84 rfl rfl h10

set_option maxRecDepth 20000 in
theorem b_x_twofold_0 (X : mm_X) (d : Nat) (f : Nat → Int32) (fl : Nat → Int64) (g : Nat → Nat → Int32) (gl : Nat → Nat → Int64) (hh : Nat → Nat → Option Nat) (v : Nat → Value) (tx : mm_W)   (P : Option Value → mm_W → Prop)
    (h : WP X (d) 15 (0, [some (.ref 50), some (.ref 1), some (.int ((((1 : Int32) <<< ((f 64) &&& (31 : Int32))) : Int32) - (1 : Int32))), none, none, none, none], [], Wd f fl g gl hh v tx) (fun rv w2 => WP X (d + 1) 85 (22, [some (.ref 0), none], rv.toList ++ [], w2) P)) :
    WP X (d + 1) 85 (0, [some (.ref 0), none], [], Wd f fl g gl hh v tx) P := by
  refine WP.run hP_85 11 (c' := (19, [some (.ref 0), none], [.int ((((1 : Int32) <<< ((f 64) &&& (31 : Int32))) : Int32) - (1 : Int32)), .ref 1, .ref 50], Wd f fl g gl hh v tx)) rfl ?_
  refine WP.call hP_85 hP_15 (as := [.ref 50, .ref 1, .int ((((1 : Int32) <<< ((f 64) &&& (31 : Int32))) : Int32) - (1 : Int32))]) (pc' := 22) (L' := [some (.ref 0), none]) (st' := []) (w1 := Wd f fl g gl hh v tx) rfl ⟨Nat.le_of_ble_eq_true rfl, Nat.le_of_ble_eq_true rfl⟩ rfl ?_
  exact h

set_option maxRecDepth 20000 in
theorem b_x_twofold_22 (X : mm_X) (d : Nat) (f : Nat → Int32) (fl : Nat → Int64) (g : Nat → Nat → Int32) (gl : Nat → Nat → Int64) (hh : Nat → Nat → Option Nat) (v : Nat → Value) (tx : mm_W) (s0 : Int32)  (P : Option Value → mm_W → Prop)
    (h : ((1000000 ≤ s0) → P (some (.int (-1))) (Wd f fl g gl hh v tx)) ∧
    ((¬ (1000000 ≤ s0)) → P (some (.int s0)) (Wd f fl g gl hh v tx))) :
    WP X (d) 85 (22, [some (.ref 0), none], [.int s0], Wd f fl g gl hh v tx) P := by
  refine WP.run hP_85 3 (c' := (27, [some (.ref 0), some (.int s0)], [.int 1000000, .int s0], Wd f fl g gl hh v tx)) rfl ?_
  refine WP.br hP_85 (q := 1000000 ≤ s0) (t := 34) (f := 30) (L := [some (.ref 0), some (.int s0)]) (st := []) (w := Wd f fl g gl hh v tx) rfl (fun c1 => ?_) (fun c1 => ?_)
  · have h2 := h.1 c1
    refine WP.run hP_85 1 (c' := (35, [none, none], [.int (-1)], Wd f fl g gl hh v tx)) rfl ?_
    exact WP.retI hP_85 rfl rfl h2
  · have h3 := h.2 c1
    refine WP.run hP_85 2 (c' := (35, [some (.ref 0), some (.int s0)], [.int s0], Wd f fl g gl hh v tx)) rfl ?_
    exact WP.retI hP_85 rfl rfl h3

set_option maxRecDepth 20000 in
theorem b_x_struck_0 (X : mm_X) (d : Nat) (f : Nat → Int32) (fl : Nat → Int64) (g : Nat → Nat → Int32) (gl : Nat → Nat → Int64) (hh : Nat → Nat → Option Nat) (v : Nat → Value) (tx : mm_W) (p0 : Int32)  (P : Option Value → mm_W → Prop)
    (h : ((p0 = 0) → WP X (d) 86 (25, [some (.ref 0), some (.int p0), some (.int ((((1 : Int32) <<< ((f 64) &&& (31 : Int32))) : Int32) - (1 : Int32))), some (.int 0), none], [], Wd f fl g gl hh v tx) P) ∧
    ((¬ p0 = 0) → (((p0 = 1) → WP X (d) 86 (25, [some (.ref 0), some (.int p0), some (.int ((((1 : Int32) <<< ((f 64) &&& (31 : Int32))) : Int32) - (1 : Int32))), some (.int 0), none], [], Wd f fl g gl hh v tx) P) ∧
      ((¬ p0 = 1) → P (some (.int (-1))) (Wd f fl g gl hh v tx))))) :
    WP X (d) 86 (0, [some (.ref 0), some (.int p0), none, none, none], [], Wd f fl g gl hh v tx) P := by
  refine WP.run hP_86 1 (c' := (1, [some (.ref 0), some (.int p0), none, none, none], [.int p0], Wd f fl g gl hh v tx)) rfl ?_
  refine WP.br hP_86 (q := p0 = 0) (t := 11) (f := 4) (L := [some (.ref 0), some (.int p0), none, none, none]) (st := []) (w := Wd f fl g gl hh v tx) rfl (fun c1 => ?_) (fun c1 => ?_)
  · have h2 := h.1 c1
    refine WP.run hP_86 7 (c' := (22, [some (.ref 0), some (.int p0), none, none, none], [.int ((((1 : Int32) <<< ((f 64) &&& (31 : Int32))) : Int32) - (1 : Int32))], Wd f fl g gl hh v tx)) rfl ?_
    refine WP.run hP_86 2 (c' := (24, [some (.ref 0), some (.int p0), some (.int ((((1 : Int32) <<< ((f 64) &&& (31 : Int32))) : Int32) - (1 : Int32))), none, none], [.int 0], Wd f fl g gl hh v tx)) rfl ?_
    refine WP.run hP_86 1 (c' := (25, [some (.ref 0), some (.int p0), some (.int ((((1 : Int32) <<< ((f 64) &&& (31 : Int32))) : Int32) - (1 : Int32))), some (.int 0), none], [], Wd f fl g gl hh v tx)) rfl ?_
    exact h2
  · have h3 := h.2 c1
    refine WP.run hP_86 2 (c' := (6, [some (.ref 0), some (.int p0), none, none, none], [.int 1, .int p0], Wd f fl g gl hh v tx)) rfl ?_
    refine WP.br hP_86 (q := p0 = 1) (t := 11) (f := 9) (L := [some (.ref 0), some (.int p0), none, none, none]) (st := []) (w := Wd f fl g gl hh v tx) rfl (fun c4 => ?_) (fun c4 => ?_)
    · have h5 := h3.1 c4
      refine WP.run hP_86 7 (c' := (22, [some (.ref 0), some (.int p0), none, none, none], [.int ((((1 : Int32) <<< ((f 64) &&& (31 : Int32))) : Int32) - (1 : Int32))], Wd f fl g gl hh v tx)) rfl ?_
      refine WP.run hP_86 2 (c' := (24, [some (.ref 0), some (.int p0), some (.int ((((1 : Int32) <<< ((f 64) &&& (31 : Int32))) : Int32) - (1 : Int32))), none, none], [.int 0], Wd f fl g gl hh v tx)) rfl ?_
      refine WP.run hP_86 1 (c' := (25, [some (.ref 0), some (.int p0), some (.int ((((1 : Int32) <<< ((f 64) &&& (31 : Int32))) : Int32) - (1 : Int32))), some (.int 0), none], [], Wd f fl g gl hh v tx)) rfl ?_
      exact h5
    · have h6 := h3.2 c4
      refine WP.run hP_86 1 (c' := (10, [some (.ref 0), some (.int p0), none, none, none], [.int (-1)], Wd f fl g gl hh v tx)) rfl ?_
      exact WP.retI hP_86 rfl rfl h6

set_option maxRecDepth 20000 in
theorem b_x_struck_25 (X : mm_X) (d : Nat) (f : Nat → Int32) (fl : Nat → Int64) (g : Nat → Nat → Int32) (gl : Nat → Nat → Int64) (hh : Nat → Nat → Option Nat) (v : Nat → Value) (tx : mm_W) (l1 : Int32) (l2 : Int32) (l3 : Int32)  (P : Option Value → mm_W → Prop)
    (h : (((f 64) < l3) → P (some (.int (-1))) (Wd f fl g gl hh v tx)) ∧
    ((¬ ((f 64) < l3)) → WP X (d) 86 (39, [some (.ref 0), some (.int l1), some (.int l2), some (.int l3), some (.int 0)], [], Wd f fl g gl hh v tx) P)) :
    WP X (d) 86 (25, [some (.ref 0), some (.int l1), some (.int l2), some (.int l3), none], [], Wd f fl g gl hh v tx) P := by
  refine WP.run hP_86 4 (c' := (33, [some (.ref 0), some (.int l1), some (.int l2), some (.int l3), none], [.int (f 64), .int l3], Wd f fl g gl hh v tx)) rfl ?_
  refine WP.br hP_86 (q := (f 64) < l3) (t := 100) (f := 36) (L := [some (.ref 0), some (.int l1), some (.int l2), some (.int l3), none]) (st := []) (w := Wd f fl g gl hh v tx) rfl (fun c1 => ?_) (fun c1 => ?_)
  · have h2 := h.1 c1
    refine WP.run hP_86 1 (c' := (101, [none, none, none, none, none], [.int (-1)], Wd f fl g gl hh v tx)) rfl ?_
    exact WP.retI hP_86 rfl rfl h2
  · have h3 := h.2 c1
    refine WP.run hP_86 2 (c' := (39, [some (.ref 0), some (.int l1), some (.int l2), some (.int l3), some (.int 0)], [], Wd f fl g gl hh v tx)) rfl ?_
    exact h3

set_option maxRecDepth 20000 in
theorem b_x_struck_39 (X : mm_X) (d : Nat) (f : Nat → Int32) (fl : Nat → Int64) (g : Nat → Nat → Int32) (gl : Nat → Nat → Int64) (hh : Nat → Nat → Option Nat) (v : Nat → Value) (tx : mm_W) (l1 : Int32) (l2 : Int32) (l3 : Int32) (l4 : Int32)  (P : Option Value → mm_W → Prop)
    (h : ((l2 < l4) → WP X (d + 1) 86 (25, [some (.ref 0), some (.int l1), some (.int l2), some (.int (l3 + (1 : Int32))), none], [], Wd f fl g gl hh v tx) P) ∧
    ((¬ (l2 < l4)) → WP X (d) 256 (0, [some (.int l4)], [], Wd f fl g gl hh v tx) (fun rv w2 => WP X (d + 1) 86 (50, [some (.ref 0), some (.int l1), some (.int l2), some (.int l3), some (.int l4)], rv.toList ++ [], w2) P))) :
    WP X (d + 1) 86 (39, [some (.ref 0), some (.int l1), some (.int l2), some (.int l3), some (.int l4)], [], Wd f fl g gl hh v tx) P := by
  refine WP.run hP_86 2 (c' := (42, [some (.ref 0), some (.int l1), some (.int l2), some (.int l3), some (.int l4)], [.int l2, .int l4], Wd f fl g gl hh v tx)) rfl ?_
  refine WP.br hP_86 (q := l2 < l4) (t := 94) (f := 45) (L := [some (.ref 0), some (.int l1), some (.int l2), some (.int l3), some (.int l4)]) (st := []) (w := Wd f fl g gl hh v tx) rfl (fun c1 => ?_) (fun c1 => ?_)
  · have h2 := h.1 c1
    refine WP.run hP_86 2 (c' := (25, [some (.ref 0), some (.int l1), some (.int l2), some (.int (l3 + (1 : Int32))), none], [], Wd f fl g gl hh v tx)) rfl ?_
    exact h2
  · have h3 := h.2 c1
    refine WP.run hP_86 1 (c' := (47, [some (.ref 0), some (.int l1), some (.int l2), some (.int l3), some (.int l4)], [.int l4], Wd f fl g gl hh v tx)) rfl ?_
    refine WP.call hP_86 hP_256 (as := [.int l4]) (pc' := 50) (L' := [some (.ref 0), some (.int l1), some (.int l2), some (.int l3), some (.int l4)]) (st' := []) (w1 := Wd f fl g gl hh v tx) rfl ⟨Nat.le_of_ble_eq_true rfl, Nat.le_of_ble_eq_true rfl⟩ rfl ?_
    exact h3

set_option maxRecDepth 20000 in
theorem b_x_struck_50 (X : mm_X) (d : Nat) (f : Nat → Int32) (fl : Nat → Int64) (g : Nat → Nat → Int32) (gl : Nat → Nat → Int64) (hh : Nat → Nat → Option Nat) (v : Nat → Value) (tx : mm_W) (l1 : Int32) (l2 : Int32) (l3 : Int32) (l4 : Int32) (s0 : Int32)  (P : Option Value → mm_W → Prop)
    (h : ((¬ s0 = l3) → WP X (d + 1) 86 (39, [some (.ref 0), some (.int l1), some (.int l2), some (.int l3), some (.int (l4 + (1 : Int32)))], [], Wd f fl g gl hh v tx) P) ∧
    ((s0 = l3) → WP X (d) 15 (0, [some (.ref 50), some (.ref 1), some (.int (l2 &&& (l4 ^^^ (-1 : Int32)))), none, none, none, none], [], Wd f fl g gl hh v tx) (fun rv w2 => WP X (d + 1) 86 (71, [some (.ref 0), some (.int l1), some (.int l2), some (.int l3), some (.int l4)], rv.toList ++ [], w2) P))) :
    WP X (d + 1) 86 (50, [some (.ref 0), some (.int l1), some (.int l2), some (.int l3), some (.int l4)], [.int s0], Wd f fl g gl hh v tx) P := by
  refine WP.run hP_86 1 (c' := (51, [some (.ref 0), some (.int l1), some (.int l2), some (.int l3), some (.int l4)], [.int l3, .int s0], Wd f fl g gl hh v tx)) rfl ?_
  refine WP.br hP_86 (q := ¬ s0 = l3) (t := 88) (f := 54) (L := [some (.ref 0), some (.int l1), some (.int l2), some (.int l3), some (.int l4)]) (st := []) (w := Wd f fl g gl hh v tx) rfl (fun c1 => ?_) (fun c1 => ?_)
  · have h2 := h.1 c1
    refine WP.run hP_86 2 (c' := (39, [some (.ref 0), some (.int l1), some (.int l2), some (.int l3), some (.int (l4 + (1 : Int32)))], [], Wd f fl g gl hh v tx)) rfl ?_
    exact h2
  · have h3 := h.2 (Classical.not_not.mp c1)
    refine WP.run hP_86 9 (c' := (68, [some (.ref 0), some (.int l1), some (.int l2), some (.int l3), some (.int l4)], [.int (l2 &&& (l4 ^^^ (-1 : Int32))), .ref 1, .ref 50], Wd f fl g gl hh v tx)) rfl ?_
    refine WP.call hP_86 hP_15 (as := [.ref 50, .ref 1, .int (l2 &&& (l4 ^^^ (-1 : Int32)))]) (pc' := 71) (L' := [some (.ref 0), some (.int l1), some (.int l2), some (.int l3), some (.int l4)]) (st' := []) (w1 := Wd f fl g gl hh v tx) rfl ⟨Nat.le_of_ble_eq_true rfl, Nat.le_of_ble_eq_true rfl⟩ rfl ?_
    exact h3

set_option maxRecDepth 20000 in
theorem b_x_struck_71 (X : mm_X) (d : Nat) (f : Nat → Int32) (fl : Nat → Int64) (g : Nat → Nat → Int32) (gl : Nat → Nat → Int64) (hh : Nat → Nat → Option Nat) (v : Nat → Value) (tx : mm_W) (l1 : Int32) (l2 : Int32) (l3 : Int32) (l4 : Int32) (s0 : Int32)  (P : Option Value → mm_W → Prop)
    (h : ((s0 < 1000000) → WP X (d) 86 (39, [some (.ref 0), some (.int l1), some (.int l2), some (.int l3), some (.int (l4 + (1 : Int32)))], [], Wd f fl g gl hh v tx) P) ∧
    ((¬ (s0 < 1000000)) → (((¬ l1 = 0) → P (some (.int l4)) (Wd f fl g gl hh v tx)) ∧
      ((l1 = 0) → P (some (.int l3)) (Wd f fl g gl hh v tx))))) :
    WP X (d) 86 (71, [some (.ref 0), some (.int l1), some (.int l2), some (.int l3), some (.int l4)], [.int s0], Wd f fl g gl hh v tx) P := by
  refine WP.run hP_86 1 (c' := (74, [some (.ref 0), some (.int l1), some (.int l2), some (.int l3), some (.int l4)], [.int 1000000, .int s0], Wd f fl g gl hh v tx)) rfl ?_
  refine WP.br hP_86 (q := s0 < 1000000) (t := 88) (f := 77) (L := [some (.ref 0), some (.int l1), some (.int l2), some (.int l3), some (.int l4)]) (st := []) (w := Wd f fl g gl hh v tx) rfl (fun c1 => ?_) (fun c1 => ?_)
  · have h2 := h.1 c1
    refine WP.run hP_86 2 (c' := (39, [some (.ref 0), some (.int l1), some (.int l2), some (.int l3), some (.int (l4 + (1 : Int32)))], [], Wd f fl g gl hh v tx)) rfl ?_
    exact h2
  · have h3 := h.2 c1
    refine WP.run hP_86 1 (c' := (78, [some (.ref 0), some (.int l1), some (.int l2), some (.int l3), some (.int l4)], [.int l1], Wd f fl g gl hh v tx)) rfl ?_
    refine WP.br hP_86 (q := ¬ l1 = 0) (t := 85) (f := 81) (L := [some (.ref 0), some (.int l1), some (.int l2), some (.int l3), some (.int l4)]) (st := []) (w := Wd f fl g gl hh v tx) rfl (fun c4 => ?_) (fun c4 => ?_)
    · have h5 := h3.1 c4
      refine WP.run hP_86 1 (c' := (87, [none, none, none, none, some (.int l4)], [.int l4], Wd f fl g gl hh v tx)) rfl ?_
      exact WP.retI hP_86 rfl rfl h5
    · have h6 := h3.2 (Classical.not_not.mp c4)
      refine WP.run hP_86 2 (c' := (87, [some (.ref 0), some (.int l1), some (.int l2), some (.int l3), some (.int l4)], [.int l3], Wd f fl g gl hh v tx)) rfl ?_
      exact WP.retI hP_86 rfl rfl h6

set_option maxRecDepth 20000 in
theorem b_x_rows_0 (X : mm_X) (d : Nat) (f : Nat → Int32) (fl : Nat → Int64) (g : Nat → Nat → Int32) (gl : Nat → Nat → Int64) (hh : Nat → Nat → Option Nat) (v : Nat → Value) (tx : mm_W) (p0 : Int32)  (P : Option Value → mm_W → Prop)
    (h : ((p0 < 0) → P (some (.long (-1))) (Wd f fl g gl hh v tx)) ∧
    ((¬ (p0 < 0)) → (((p0 ≤ 20) → WP X (d) 87 (23, [some (.ref 0), some (.int p0), some (.int 1), none, none], [], Wd f fl g (va_up gl 54 (vp_updL (gl 54) 0 1)) hh v tx) P) ∧
      ((¬ (p0 ≤ 20)) → P (some (.long (-1))) (Wd f fl g gl hh v tx))))) :
    WP X (d) 87 (0, [some (.ref 0), some (.int p0), none, none, none], [], Wd f fl g gl hh v tx) P := by
  refine WP.run hP_87 1 (c' := (1, [some (.ref 0), some (.int p0), none, none, none], [.int p0], Wd f fl g gl hh v tx)) rfl ?_
  refine WP.br hP_87 (q := p0 < 0) (t := 10) (f := 4) (L := [some (.ref 0), some (.int p0), none, none, none]) (st := []) (w := Wd f fl g gl hh v tx) rfl (fun c1 => ?_) (fun c1 => ?_)
  · have h2 := h.1 c1
    refine WP.run hP_87 1 (c' := (13, [none, none, none, none, none], [.long (-1)], Wd f fl g gl hh v tx)) rfl ?_
    exact WP.ret hP_87 (r := some (.long (-1))) (w' := Wd f fl g gl hh v tx) rfl h2
  · have h3 := h.2 c1
    refine WP.run hP_87 2 (c' := (7, [some (.ref 0), some (.int p0), none, none, none], [.int 20, .int p0], Wd f fl g gl hh v tx)) rfl ?_
    refine WP.br hP_87 (q := p0 ≤ 20) (t := 14) (f := 10) (L := [some (.ref 0), some (.int p0), none, none, none]) (st := []) (w := Wd f fl g gl hh v tx) rfl (fun c4 => ?_) (fun c4 => ?_)
    · have h5 := h3.1 c4
      refine WP.run hP_87 4 (c' := (20, [some (.ref 0), some (.int p0), none, none, none], [.long 1, .int 0, .ref 54], Wd f fl g gl hh v tx)) rfl ?_
      refine WP.of (fun _ _ => Ex.last hP_87 (w2 := Wd f fl g (va_up gl 54 (vp_updL (gl 54) 0 1)) hh v tx) rfl (Wa_54 _ _ _ _ _ _ _) (by decide) (Ws_54 _ _ _ _ _ _ _ _)) ?_
      refine WP.run hP_87 2 (c' := (23, [some (.ref 0), some (.int p0), some (.int 1), none, none], [], Wd f fl g (va_up gl 54 (vp_updL (gl 54) 0 1)) hh v tx)) rfl ?_
      exact h5
    · have h6 := h3.2 c4
      refine WP.run hP_87 1 (c' := (13, [none, none, none, none, none], [.long (-1)], Wd f fl g gl hh v tx)) rfl ?_
      exact WP.ret hP_87 (r := some (.long (-1))) (w' := Wd f fl g gl hh v tx) rfl h6

set_option maxRecDepth 20000 in
theorem b_x_rows_23 (X : mm_X) (d : Nat) (f : Nat → Int32) (fl : Nat → Int64) (g : Nat → Nat → Int32) (gl : Nat → Nat → Int64) (hh : Nat → Nat → Option Nat) (v : Nat → Value) (tx : mm_W) (l1 : Int32) (l2 : Int32)  (P : Option Value → mm_W → Prop)
    (h : ((l1 < l2) → ((¬ (l1 < 0 ∨ 21 ≤ l1.toNatClampNeg)) ∧ P (some (.long ((gl 54) l1.toNatClampNeg))) (Wd f fl g gl hh v tx))) ∧
    ((¬ (l1 < l2)) → ((¬ (l2 < 0 ∨ 21 ≤ l2.toNatClampNeg)) ∧ WP X (d) 87 (37, [some (.ref 0), some (.int l1), some (.int l2), some (.int 0), none], [], Wd f fl g (va_up gl 54 (vp_updL (gl 54) (l2.toNatClampNeg) 0)) hh v tx) P))) :
    WP X (d) 87 (23, [some (.ref 0), some (.int l1), some (.int l2), none, none], [], Wd f fl g gl hh v tx) P := by
  refine WP.run hP_87 2 (c' := (25, [some (.ref 0), some (.int l1), some (.int l2), none, none], [.int l1, .int l2], Wd f fl g gl hh v tx)) rfl ?_
  refine WP.br hP_87 (q := l1 < l2) (t := 98) (f := 28) (L := [some (.ref 0), some (.int l1), some (.int l2), none, none]) (st := []) (w := Wd f fl g gl hh v tx) rfl (fun c1 => ?_) (fun c1 => ?_)
  · have h2 := h.1 c1
    refine WP.run hP_87 3 (c' := (103, [some (.ref 0), some (.int l1), none, none, none], [.int l1, .ref 54], Wd f fl g gl hh v tx)) rfl ?_
    refine WP.of (fun _ _ => Ex.lald hP_87 rfl (Wa_54 _ _ _ _ _ _ _) h2.1) ?_
    have h3 := h2.2
    exact WP.ret hP_87 (r := some (.long ((gl 54) l1.toNatClampNeg))) (w' := Wd f fl g gl hh v tx) rfl h3
  · have h4 := h.2 c1
    refine WP.run hP_87 4 (c' := (34, [some (.ref 0), some (.int l1), some (.int l2), none, none], [.long 0, .int l2, .ref 54], Wd f fl g gl hh v tx)) rfl ?_
    refine WP.of (fun _ _ => Ex.last hP_87 (w2 := Wd f fl g (va_up gl 54 (vp_updL (gl 54) (l2.toNatClampNeg) 0)) hh v tx) rfl (Wa_54 _ _ _ _ _ _ _) h4.1 (Ws_54 _ _ _ _ _ _ _ _)) ?_
    have h5 := h4.2
    refine WP.run hP_87 2 (c' := (37, [some (.ref 0), some (.int l1), some (.int l2), some (.int 0), none], [], Wd f fl g (va_up gl 54 (vp_updL (gl 54) (l2.toNatClampNeg) 0)) hh v tx)) rfl ?_
    exact h5

set_option maxRecDepth 20000 in
theorem b_x_rows_37 (X : mm_X) (d : Nat) (f : Nat → Int32) (fl : Nat → Int64) (g : Nat → Nat → Int32) (gl : Nat → Nat → Int64) (hh : Nat → Nat → Option Nat) (v : Nat → Value) (tx : mm_W) (l1 : Int32) (l2 : Int32) (l3 : Int32)  (P : Option Value → mm_W → Prop)
    (h : (((f 64) ≤ l3) → WP X (d) 87 (23, [some (.ref 0), some (.int l1), some (.int (l2 + (1 : Int32))), none, none], [], Wd f fl g gl hh v tx) P) ∧
    ((¬ ((f 64) ≤ l3)) → ((¬ (l3 < 0 ∨ 8 ≤ l3.toNatClampNeg)) ∧ ((¬ (l2 < 0 ∨ 21 ≤ l2.toNatClampNeg)) ∧ (((0 ≤ (l2 - ((g 3) l3.toNatClampNeg))) → ((¬ ((l2 - ((g 3) l3.toNatClampNeg)) < 0 ∨ 21 ≤ (l2 - ((g 3) l3.toNatClampNeg)).toNatClampNeg)) ∧ ((¬ (l2 < 0 ∨ 21 ≤ l2.toNatClampNeg)) ∧ WP X (d) 87 (37, [some (.ref 0), some (.int l1), some (.int l2), some (.int (l3 + (1 : Int32))), none], [], Wd f fl g (va_up gl 54 (vp_updL (gl 54) (l2.toNatClampNeg) (((gl 54) l2.toNatClampNeg) + ((gl 54) (l2 - ((g 3) l3.toNatClampNeg)).toNatClampNeg)))) hh v tx) P))) ∧
      ((¬ (0 ≤ (l2 - ((g 3) l3.toNatClampNeg)))) → ((¬ (l2 < 0 ∨ 21 ≤ l2.toNatClampNeg)) ∧ WP X (d) 87 (37, [some (.ref 0), some (.int l1), some (.int l2), some (.int (l3 + (1 : Int32))), none], [], Wd f fl g (va_up gl 54 (vp_updL (gl 54) (l2.toNatClampNeg) (((gl 54) l2.toNatClampNeg) + (0 : Int64)))) hh v tx) P))))))) :
    WP X (d) 87 (37, [some (.ref 0), some (.int l1), some (.int l2), some (.int l3), none], [], Wd f fl g gl hh v tx) P := by
  refine WP.run hP_87 4 (c' := (45, [some (.ref 0), some (.int l1), some (.int l2), some (.int l3), none], [.int (f 64), .int l3], Wd f fl g gl hh v tx)) rfl ?_
  refine WP.br hP_87 (q := (f 64) ≤ l3) (t := 92) (f := 48) (L := [some (.ref 0), some (.int l1), some (.int l2), some (.int l3), none]) (st := []) (w := Wd f fl g gl hh v tx) rfl (fun c1 => ?_) (fun c1 => ?_)
  · have h2 := h.1 c1
    refine WP.run hP_87 2 (c' := (23, [some (.ref 0), some (.int l1), some (.int (l2 + (1 : Int32))), none, none], [], Wd f fl g gl hh v tx)) rfl ?_
    exact h2
  · have h3 := h.2 c1
    refine WP.run hP_87 5 (c' := (57, [some (.ref 0), some (.int l1), some (.int l2), some (.int l3), none], [.int l3, .ref 3, .int l2], Wd f fl g gl hh v tx)) rfl ?_
    refine WP.of (fun _ _ => Ex.iald hP_87 rfl (Wa_3 _ _ _ _ _ _ _) h3.1) ?_
    have h4 := h3.2
    refine WP.run hP_87 6 (c' := (67, [some (.ref 0), some (.int l1), some (.int l2), some (.int l3), some (.int (l2 - ((g 3) l3.toNatClampNeg)))], [.int l2, .ref 54, .int l2, .ref 54], Wd f fl g gl hh v tx)) rfl ?_
    refine WP.of (fun _ _ => Ex.lald hP_87 rfl (Wa_54 _ _ _ _ _ _ _) h4.1) ?_
    have h5 := h4.2
    refine WP.run hP_87 1 (c' := (70, [some (.ref 0), some (.int l1), some (.int l2), some (.int l3), some (.int (l2 - ((g 3) l3.toNatClampNeg)))], [.int (l2 - ((g 3) l3.toNatClampNeg)), .long ((gl 54) l2.toNatClampNeg), .int l2, .ref 54], Wd f fl g gl hh v tx)) rfl ?_
    refine WP.br hP_87 (q := 0 ≤ (l2 - ((g 3) l3.toNatClampNeg))) (t := 77) (f := 73) (L := [some (.ref 0), some (.int l1), some (.int l2), some (.int l3), some (.int (l2 - ((g 3) l3.toNatClampNeg)))]) (st := [.long ((gl 54) l2.toNatClampNeg), .int l2, .ref 54]) (w := Wd f fl g gl hh v tx) rfl (fun c6 => ?_) (fun c6 => ?_)
    · have h7 := h5.1 c6
      refine WP.run hP_87 3 (c' := (83, [some (.ref 0), some (.int l1), some (.int l2), some (.int l3), some (.int (l2 - ((g 3) l3.toNatClampNeg)))], [.int (l2 - ((g 3) l3.toNatClampNeg)), .ref 54, .long ((gl 54) l2.toNatClampNeg), .int l2, .ref 54], Wd f fl g gl hh v tx)) rfl ?_
      refine WP.of (fun _ _ => Ex.lald hP_87 rfl (Wa_54 _ _ _ _ _ _ _) h7.1) ?_
      have h8 := h7.2
      refine WP.run hP_87 1 (c' := (85, [some (.ref 0), some (.int l1), some (.int l2), some (.int l3), none], [.long (((gl 54) l2.toNatClampNeg) + ((gl 54) (l2 - ((g 3) l3.toNatClampNeg)).toNatClampNeg)), .int l2, .ref 54], Wd f fl g gl hh v tx)) rfl ?_
      refine WP.of (fun _ _ => Ex.last hP_87 (w2 := Wd f fl g (va_up gl 54 (vp_updL (gl 54) (l2.toNatClampNeg) (((gl 54) l2.toNatClampNeg) + ((gl 54) (l2 - ((g 3) l3.toNatClampNeg)).toNatClampNeg)))) hh v tx) rfl (Wa_54 _ _ _ _ _ _ _) h8.1 (Ws_54 _ _ _ _ _ _ _ _)) ?_
      have h9 := h8.2
      refine WP.run hP_87 2 (c' := (37, [some (.ref 0), some (.int l1), some (.int l2), some (.int (l3 + (1 : Int32))), none], [], Wd f fl g (va_up gl 54 (vp_updL (gl 54) (l2.toNatClampNeg) (((gl 54) l2.toNatClampNeg) + ((gl 54) (l2 - ((g 3) l3.toNatClampNeg)).toNatClampNeg)))) hh v tx)) rfl ?_
      exact h9
    · have h10 := h5.2 c6
      refine WP.run hP_87 3 (c' := (85, [some (.ref 0), some (.int l1), some (.int l2), some (.int l3), none], [.long (((gl 54) l2.toNatClampNeg) + (0 : Int64)), .int l2, .ref 54], Wd f fl g gl hh v tx)) rfl ?_
      refine WP.of (fun _ _ => Ex.last hP_87 (w2 := Wd f fl g (va_up gl 54 (vp_updL (gl 54) (l2.toNatClampNeg) (((gl 54) l2.toNatClampNeg) + (0 : Int64)))) hh v tx) rfl (Wa_54 _ _ _ _ _ _ _) h10.1 (Ws_54 _ _ _ _ _ _ _ _)) ?_
      have h11 := h10.2
      refine WP.run hP_87 2 (c' := (37, [some (.ref 0), some (.int l1), some (.int l2), some (.int (l3 + (1 : Int32))), none], [], Wd f fl g (va_up gl 54 (vp_updL (gl 54) (l2.toNatClampNeg) (((gl 54) l2.toNatClampNeg) + (0 : Int64)))) hh v tx)) rfl ?_
      exact h11

set_option maxRecDepth 20000 in
theorem b_x_seen_0 (X : mm_X) (d : Nat) (f : Nat → Int32) (fl : Nat → Int64) (g : Nat → Nat → Int32) (gl : Nat → Nat → Int64) (hh : Nat → Nat → Option Nat) (v : Nat → Value) (tx : mm_W) (p0 : Int32)  (P : Option Value → mm_W → Prop)
    (h : ((0 ≤ p0 ∧ p0 < (6 : Int32)) → ((((f 72) < 6) → ((¬ ((f 72) < 0 ∨ 6 ≤ (f 72).toNatClampNeg)) ∧ P (some (.int ((f 72) + (1 : Int32)))) (Wd (va_up (va_up f 72 ((f 72) + (1 : Int32))) 18 0) fl (va_up g 6 (upd (g 6) ((f 72).toNatClampNeg) p0)) gl hh v tx))) ∧
      ((¬ ((f 72) < 6)) → P (some (.int (-5))) (Wd (va_up f 18 (-5 : Int32)) fl (va_up g 55 (upd (g 55) (5) (((g 55) 5) + (1 : Int32)))) gl hh v tx)))) ∧
    ((¬ (0 ≤ p0 ∧ p0 < (6 : Int32))) → P (some (.int (-1))) (Wd (va_up f 18 (-1 : Int32)) fl (va_up g 55 (upd (g 55) (1) (((g 55) 1) + (1 : Int32)))) gl hh v tx))) :
    WP X (d + 2) 88 (0, [some (.ref 0), some (.int p0)], [], Wd f fl g gl hh v tx) P := by
  refine WP.run hP_88 2 (c' := (3, [some (.ref 0), some (.int p0)], [.int 6, .int p0], Wd f fl g gl hh v tx)) rfl ?_
  refine WP.call hP_88 hP_99 (as := [.int p0, .int 6]) (pc' := 6) (L' := [some (.ref 0), some (.int p0)]) (st' := []) (w1 := Wd f fl g gl hh v tx) rfl ⟨Nat.le_of_ble_eq_true rfl, Nat.le_of_ble_eq_true rfl⟩ rfl (b_within_m X (d + 1) f fl g gl hh v tx p0 6 _ ?_)
  refine ⟨fun c1 => ?_, fun c1 => ?_⟩
  · have h2 := h.1 c1
    refine WP.run hP_88 5 (c' := (24, [some (.ref 0), some (.int p0)], [.int 6, .int (f 72)], Wd f fl g gl hh v tx)) rfl ?_
    refine WP.br hP_88 (q := (f 72) < 6) (t := 34) (f := 27) (L := [some (.ref 0), some (.int p0)]) (st := []) (w := Wd f fl g gl hh v tx) rfl (fun c3 => ?_) (fun c3 => ?_)
    · have h4 := h2.1 c3
      refine WP.run hP_88 7 (c' := (49, [some (.ref 0), some (.int p0)], [.int p0, .int (f 72), .ref 6], Wd f fl g gl hh v tx)) rfl ?_
      refine WP.of (fun _ _ => Ex.iast hP_88 (w2 := Wd f fl (va_up g 6 (upd (g 6) ((f 72).toNatClampNeg) p0)) gl hh v tx) rfl (Wa_6 _ _ _ _ _ _ _) h4.1 (Ws_6 _ _ _ _ _ _ _ _)) ?_
      have h5 := h4.2
      refine WP.run hP_88 11 (c' := (71, [some (.ref 0), some (.int p0)], [.int ((f 72) + (1 : Int32)), .ref 0], Wd (va_up f 72 ((f 72) + (1 : Int32))) fl (va_up g 6 (upd (g 6) ((f 72).toNatClampNeg) p0)) gl hh v tx)) rfl ?_
      refine WP.call hP_88 hP_100 (as := [.ref 0, .int ((f 72) + (1 : Int32))]) (pc' := 74) (L' := [some (.ref 0), some (.int p0)]) (st' := []) (w1 := Wd (va_up f 72 ((f 72) + (1 : Int32))) fl (va_up g 6 (upd (g 6) ((f 72).toNatClampNeg) p0)) gl hh v tx) rfl ⟨Nat.le_of_ble_eq_true rfl, Nat.le_of_ble_eq_true rfl⟩ rfl (b_x_accepted_0 X (d + 1) (va_up f 72 ((f 72) + (1 : Int32))) fl (va_up g 6 (upd (g 6) ((f 72).toNatClampNeg) p0)) gl hh v tx ((f 72) + (1 : Int32)) _ ?_)
      exact WP.retI hP_88 rfl rfl h5
    · have h6 := h2.2 c3
      refine WP.run hP_88 2 (c' := (30, [some (.ref 0), some (.int p0)], [.int (-5), .ref 0], Wd f fl g gl hh v tx)) rfl ?_
      refine WP.call hP_88 hP_101 (as := [.ref 0, .int (-5)]) (pc' := 33) (L' := [some (.ref 0), some (.int p0)]) (st' := []) (w1 := Wd f fl g gl hh v tx) rfl ⟨Nat.le_of_ble_eq_true rfl, Nat.le_of_ble_eq_true rfl⟩ rfl (b_x_refused_0 X (d) f fl g gl hh v tx (-5) _ ?_)
      refine ⟨fun c7 => ?_, fun c => absurd c (by decide)⟩
      refine ⟨by decide, ?_⟩
      refine ⟨by decide, ?_⟩
      exact WP.retI hP_88 rfl rfl h6
  · have h8 := h.2 c1
    refine WP.run hP_88 3 (c' := (11, [some (.ref 0), some (.int p0)], [.int (-1), .ref 0], Wd f fl g gl hh v tx)) rfl ?_
    refine WP.call hP_88 hP_101 (as := [.ref 0, .int (-1)]) (pc' := 14) (L' := [some (.ref 0), some (.int p0)]) (st' := []) (w1 := Wd f fl g gl hh v tx) rfl ⟨Nat.le_of_ble_eq_true rfl, Nat.le_of_ble_eq_true rfl⟩ rfl (b_x_refused_0 X (d) f fl g gl hh v tx (-1) _ ?_)
    refine ⟨fun c9 => ?_, fun c => absurd c (by decide)⟩
    refine ⟨by decide, ?_⟩
    refine ⟨by decide, ?_⟩
    exact WP.retI hP_88 rfl rfl h8

set_option maxRecDepth 20000 in
theorem b_x_forget_0 (X : mm_X) (d : Nat) (f : Nat → Int32) (fl : Nat → Int64) (g : Nat → Nat → Int32) (gl : Nat → Nat → Int64) (hh : Nat → Nat → Option Nat) (v : Nat → Value) (tx : mm_W)   (P : Option Value → mm_W → Prop)
    (h : P (some (.int (f 72))) (Wd (va_up f 72 0) fl g gl hh v tx)) :
    WP X (d) 89 (0, [some (.ref 0), none], [], Wd f fl g gl hh v tx) P := by
  refine WP.run hP_89 9 (c' := (17, [some (.ref 0), some (.int (f 72))], [.int (f 72)], Wd (va_up f 72 0) fl g gl hh v tx)) rfl ?_
  exact WP.retI hP_89 rfl rfl h

set_option maxRecDepth 20000 in
theorem b_x_fits_0 (X : mm_X) (d : Nat) (f : Nat → Int32) (fl : Nat → Int64) (g : Nat → Nat → Int32) (gl : Nat → Nat → Int64) (hh : Nat → Nat → Option Nat) (v : Nat → Value) (tx : mm_W)   (P : Option Value → mm_W → Prop)
    (h : WP X (d) 12 (0, [some (.ref 38), some (.ref 1), some (.int (f 72)), none, none], [], Wd f fl g gl hh v tx) (fun rv w2 => WP X (d + 1) 90 (18, [some (.ref 0)], rv.toList ++ [], w2) P)) :
    WP X (d + 1) 90 (0, [some (.ref 0)], [], Wd f fl g gl hh v tx) P := by
  refine WP.run hP_90 7 (c' := (15, [some (.ref 0)], [.int (f 72), .ref 1, .ref 38], Wd f fl g gl hh v tx)) rfl ?_
  refine WP.call hP_90 hP_12 (as := [.ref 38, .ref 1, .int (f 72)]) (pc' := 18) (L' := [some (.ref 0)]) (st' := []) (w1 := Wd f fl g gl hh v tx) rfl ⟨Nat.le_of_ble_eq_true rfl, Nat.le_of_ble_eq_true rfl⟩ rfl ?_
  exact h

set_option maxRecDepth 20000 in
theorem b_x_fits_18 (X : mm_X) (d : Nat) (f : Nat → Int32) (fl : Nat → Int64) (g : Nat → Nat → Int32) (gl : Nat → Nat → Int64) (hh : Nat → Nat → Option Nat) (v : Nat → Value) (tx : mm_W) (s0 : Int32)  (P : Option Value → mm_W → Prop)
    (h : P (some (.int s0)) (Wd f fl g gl hh v tx)) :
    WP X (d) 90 (18, [some (.ref 0)], [.int s0], Wd f fl g gl hh v tx) P := by
  exact WP.retI hP_90 rfl rfl h

set_option maxRecDepth 20000 in
theorem b_x_few_0 (X : mm_X) (d : Nat) (f : Nat → Int32) (fl : Nat → Int64) (g : Nat → Nat → Int32) (gl : Nat → Nat → Int64) (hh : Nat → Nat → Option Nat) (v : Nat → Value) (tx : mm_W) (p0 : Int32) (p1 : Int32)  (P : Option Value → mm_W → Prop)
    (h : ((p0 < 1) → P (some (.long (-1))) (Wd f fl g gl hh v tx)) ∧
    ((¬ (p0 < 1)) → (((20 < p0) → P (some (.long (-1))) (Wd f fl g gl hh v tx)) ∧
      ((¬ (20 < p0)) → (((p1 < 0) → P (some (.long (-1))) (Wd f fl g gl hh v tx)) ∧
        ((¬ (p1 < 0)) → (((p1 ≤ 99) → WP X (d) 257 (0, [some (.ref 54), some (.long 0), none, none, none], [], Wd f fl g gl hh v tx) (fun rv w2 => WP X (d + 1) 91 (43, [some (.ref 0), some (.int p0), some (.int p1), some (.int ((g 8) 1)), none, none, none], rv.toList ++ [], w2) P)) ∧
          ((¬ (p1 ≤ 99)) → P (some (.long (-1))) (Wd f fl g gl hh v tx))))))))) :
    WP X (d + 1) 91 (0, [some (.ref 0), some (.int p0), some (.int p1), none, none, none, none], [], Wd f fl g gl hh v tx) P := by
  refine WP.run hP_91 2 (c' := (2, [some (.ref 0), some (.int p0), some (.int p1), none, none, none, none], [.int 1, .int p0], Wd f fl g gl hh v tx)) rfl ?_
  refine WP.br hP_91 (q := p0 < 1) (t := 21) (f := 5) (L := [some (.ref 0), some (.int p0), some (.int p1), none, none, none, none]) (st := []) (w := Wd f fl g gl hh v tx) rfl (fun c1 => ?_) (fun c1 => ?_)
  · have h2 := h.1 c1
    refine WP.run hP_91 1 (c' := (24, [none, none, none, none, none, none, none], [.long (-1)], Wd f fl g gl hh v tx)) rfl ?_
    exact WP.ret hP_91 (r := some (.long (-1))) (w' := Wd f fl g gl hh v tx) rfl h2
  · have h3 := h.2 c1
    refine WP.run hP_91 2 (c' := (8, [some (.ref 0), some (.int p0), some (.int p1), none, none, none, none], [.int 20, .int p0], Wd f fl g gl hh v tx)) rfl ?_
    refine WP.br hP_91 (q := 20 < p0) (t := 21) (f := 11) (L := [some (.ref 0), some (.int p0), some (.int p1), none, none, none, none]) (st := []) (w := Wd f fl g gl hh v tx) rfl (fun c4 => ?_) (fun c4 => ?_)
    · have h5 := h3.1 c4
      refine WP.run hP_91 1 (c' := (24, [none, none, none, none, none, none, none], [.long (-1)], Wd f fl g gl hh v tx)) rfl ?_
      exact WP.ret hP_91 (r := some (.long (-1))) (w' := Wd f fl g gl hh v tx) rfl h5
    · have h6 := h3.2 c4
      refine WP.run hP_91 1 (c' := (12, [some (.ref 0), some (.int p0), some (.int p1), none, none, none, none], [.int p1], Wd f fl g gl hh v tx)) rfl ?_
      refine WP.br hP_91 (q := p1 < 0) (t := 21) (f := 15) (L := [some (.ref 0), some (.int p0), some (.int p1), none, none, none, none]) (st := []) (w := Wd f fl g gl hh v tx) rfl (fun c7 => ?_) (fun c7 => ?_)
      · have h8 := h6.1 c7
        refine WP.run hP_91 1 (c' := (24, [none, none, none, none, none, none, none], [.long (-1)], Wd f fl g gl hh v tx)) rfl ?_
        exact WP.ret hP_91 (r := some (.long (-1))) (w' := Wd f fl g gl hh v tx) rfl h8
      · have h9 := h6.2 c7
        refine WP.run hP_91 2 (c' := (18, [some (.ref 0), some (.int p0), some (.int p1), none, none, none, none], [.int 99, .int p1], Wd f fl g gl hh v tx)) rfl ?_
        refine WP.br hP_91 (q := p1 ≤ 99) (t := 25) (f := 21) (L := [some (.ref 0), some (.int p0), some (.int p1), none, none, none, none]) (st := []) (w := Wd f fl g gl hh v tx) rfl (fun c10 => ?_) (fun c10 => ?_)
        · have h11 := h9.1 c10
          refine WP.run hP_91 4 (c' := (33, [some (.ref 0), some (.int p0), some (.int p1), none, none, none, none], [.int 1, .ref 8], Wd f fl g gl hh v tx)) rfl ?_
          refine WP.of (fun _ _ => Ex.iald hP_91 rfl (Wa_8 _ _ _ _ _ _ _) (by decide)) ?_
          show WP X _ 91 (34, [some (.ref 0), some (.int p0), some (.int p1), none, none, none, none], [.int ((g 8) 1)], Wd f fl g gl hh v tx) P
          refine WP.run hP_91 4 (c' := (40, [some (.ref 0), some (.int p0), some (.int p1), some (.int ((g 8) 1)), none, none, none], [.long 0, .ref 54], Wd f fl g gl hh v tx)) rfl ?_
          refine WP.call hP_91 hP_257 (as := [.ref 54, .long 0]) (pc' := 43) (L' := [some (.ref 0), some (.int p0), some (.int p1), some (.int ((g 8) 1)), none, none, none]) (st' := []) (w1 := Wd f fl g gl hh v tx) rfl ⟨Nat.le_of_ble_eq_true rfl, Nat.le_of_ble_eq_true rfl⟩ rfl ?_
          exact h11
        · have h12 := h9.2 c10
          refine WP.run hP_91 1 (c' := (24, [none, none, none, none, none, none, none], [.long (-1)], Wd f fl g gl hh v tx)) rfl ?_
          exact WP.ret hP_91 (r := some (.long (-1))) (w' := Wd f fl g gl hh v tx) rfl h12

set_option maxRecDepth 20000 in
theorem b_x_few_43 (X : mm_X) (d : Nat) (f : Nat → Int32) (fl : Nat → Int64) (g : Nat → Nat → Int32) (gl : Nat → Nat → Int64) (hh : Nat → Nat → Option Nat) (v : Nat → Value) (tx : mm_W) (l1 : Int32) (l2 : Int32) (l3 : Int32)  (P : Option Value → mm_W → Prop)
    (h : WP X (d) 91 (55, [some (.ref 0), some (.int l1), some (.int l2), some (.int l3), some (.int 0), none, none], [], Wd f fl g (va_up gl 54 (vp_updL (gl 54) 0 1000000000000)) hh v tx) P) :
    WP X (d) 91 (43, [some (.ref 0), some (.int l1), some (.int l2), some (.int l3), none, none, none], [], Wd f fl g gl hh v tx) P := by
  refine WP.run hP_91 4 (c' := (51, [some (.ref 0), some (.int l1), some (.int l2), some (.int l3), none, none, none], [.long 1000000000000, .int 0, .ref 54], Wd f fl g gl hh v tx)) rfl ?_
  refine WP.of (fun _ _ => Ex.last hP_91 (w2 := Wd f fl g (va_up gl 54 (vp_updL (gl 54) 0 1000000000000)) hh v tx) rfl (Wa_54 _ _ _ _ _ _ _) (by decide) (Ws_54 _ _ _ _ _ _ _ _)) ?_
  refine WP.run hP_91 2 (c' := (55, [some (.ref 0), some (.int l1), some (.int l2), some (.int l3), some (.int 0), none, none], [], Wd f fl g (va_up gl 54 (vp_updL (gl 54) 0 1000000000000)) hh v tx)) rfl ?_
  exact h

set_option maxRecDepth 20000 in
theorem b_x_few_55 (X : mm_X) (d : Nat) (f : Nat → Int32) (fl : Nat → Int64) (g : Nat → Nat → Int32) (gl : Nat → Nat → Int64) (hh : Nat → Nat → Option Nat) (v : Nat → Value) (tx : mm_W) (l1 : Int32) (l2 : Int32) (l3 : Int32) (l4 : Int32)  (P : Option Value → mm_W → Prop)
    (h : ((l2 ≤ l4) → WP X (d) 91 (152, [some (.ref 0), some (.int l1), none, none, some (.long 0), none, some (.int 0)], [], Wd f fl g gl hh v tx) P) ∧
    ((¬ (l2 ≤ l4)) → WP X (d) 91 (66, [some (.ref 0), some (.int l1), some (.int l2), some (.int l3), some (.int l4), some (.int (l1 - (1 : Int32))), none], [], Wd f fl g gl hh v tx) P)) :
    WP X (d) 91 (55, [some (.ref 0), some (.int l1), some (.int l2), some (.int l3), some (.int l4), none, none], [], Wd f fl g gl hh v tx) P := by
  refine WP.run hP_91 2 (c' := (58, [some (.ref 0), some (.int l1), some (.int l2), some (.int l3), some (.int l4), none, none], [.int l2, .int l4], Wd f fl g gl hh v tx)) rfl ?_
  refine WP.br hP_91 (q := l2 ≤ l4) (t := 146) (f := 61) (L := [some (.ref 0), some (.int l1), some (.int l2), some (.int l3), some (.int l4), none, none]) (st := []) (w := Wd f fl g gl hh v tx) rfl (fun c1 => ?_) (fun c1 => ?_)
  · have h2 := h.1 c1
    refine WP.run hP_91 1 (c' := (147, [some (.ref 0), some (.int l1), none, none, none, none, none], [.long 0], Wd f fl g gl hh v tx)) rfl ?_
    refine WP.run hP_91 2 (c' := (150, [some (.ref 0), some (.int l1), none, none, some (.long 0), none, none], [.int 0], Wd f fl g gl hh v tx)) rfl ?_
    refine WP.run hP_91 1 (c' := (152, [some (.ref 0), some (.int l1), none, none, some (.long 0), none, some (.int 0)], [], Wd f fl g gl hh v tx)) rfl ?_
    exact h2
  · have h3 := h.2 c1
    refine WP.run hP_91 4 (c' := (66, [some (.ref 0), some (.int l1), some (.int l2), some (.int l3), some (.int l4), some (.int (l1 - (1 : Int32))), none], [], Wd f fl g gl hh v tx)) rfl ?_
    exact h3

set_option maxRecDepth 20000 in
theorem b_x_few_152 (X : mm_X) (d : Nat) (f : Nat → Int32) (fl : Nat → Int64) (g : Nat → Nat → Int32) (gl : Nat → Nat → Int64) (hh : Nat → Nat → Option Nat) (v : Nat → Value) (tx : mm_W) (l1 : Int32) (l4 : Int64) (l6 : Int32)  (P : Option Value → mm_W → Prop)
    (h : ((l1 ≤ l6) → P (some (.long l4)) (Wd f fl g gl hh v tx)) ∧
    ((¬ (l1 ≤ l6)) → ((¬ (l6 < 0 ∨ 21 ≤ l6.toNatClampNeg)) ∧ WP X (d) 91 (152, [some (.ref 0), some (.int l1), none, none, some (.long (l4 + ((gl 54) l6.toNatClampNeg))), none, some (.int (l6 + (1 : Int32)))], [], Wd f fl g gl hh v tx) P))) :
    WP X (d) 91 (152, [some (.ref 0), some (.int l1), none, none, some (.long l4), none, some (.int l6)], [], Wd f fl g gl hh v tx) P := by
  refine WP.run hP_91 2 (c' := (155, [some (.ref 0), some (.int l1), none, none, some (.long l4), none, some (.int l6)], [.int l1, .int l6], Wd f fl g gl hh v tx)) rfl ?_
  refine WP.br hP_91 (q := l1 ≤ l6) (t := 176) (f := 158) (L := [some (.ref 0), some (.int l1), none, none, some (.long l4), none, some (.int l6)]) (st := []) (w := Wd f fl g gl hh v tx) rfl (fun c1 => ?_) (fun c1 => ?_)
  · have h2 := h.1 c1
    refine WP.run hP_91 1 (c' := (178, [none, none, none, none, some (.long l4), none, none], [.long l4], Wd f fl g gl hh v tx)) rfl ?_
    exact WP.ret hP_91 (r := some (.long l4)) (w' := Wd f fl g gl hh v tx) rfl h2
  · have h3 := h.2 c1
    refine WP.run hP_91 4 (c' := (166, [some (.ref 0), some (.int l1), none, none, some (.long l4), none, some (.int l6)], [.int l6, .ref 54, .long l4], Wd f fl g gl hh v tx)) rfl ?_
    refine WP.of (fun _ _ => Ex.lald hP_91 rfl (Wa_54 _ _ _ _ _ _ _) h3.1) ?_
    have h4 := h3.2
    refine WP.run hP_91 2 (c' := (170, [some (.ref 0), some (.int l1), none, none, some (.long (l4 + ((gl 54) l6.toNatClampNeg))), none, some (.int l6)], [], Wd f fl g gl hh v tx)) rfl ?_
    refine WP.run hP_91 2 (c' := (152, [some (.ref 0), some (.int l1), none, none, some (.long (l4 + ((gl 54) l6.toNatClampNeg))), none, some (.int (l6 + (1 : Int32)))], [], Wd f fl g gl hh v tx)) rfl ?_
    exact h4

set_option maxRecDepth 20000 in
theorem b_x_few_66 (X : mm_X) (d : Nat) (f : Nat → Int32) (fl : Nat → Int64) (g : Nat → Nat → Int32) (gl : Nat → Nat → Int64) (hh : Nat → Nat → Option Nat) (v : Nat → Value) (tx : mm_W) (l1 : Int32) (l2 : Int32) (l3 : Int32) (l4 : Int32) (l5 : Int32)  (P : Option Value → mm_W → Prop)
    (h : ((l5 ≤ 0) → WP X (d) 91 (55, [some (.ref 0), some (.int l1), some (.int l2), some (.int l3), some (.int (l4 + (1 : Int32))), none, none], [], Wd f fl g (va_up gl 54 (vp_updL (gl 54) 0 ((((gl 54) 0) * ((((10 : Int32) - l3) : Int32).toInt64)) / (10 : Int64)))) hh v tx) P) ∧
    ((¬ (l5 ≤ 0)) → ((¬ (l5 < 0 ∨ 21 ≤ l5.toNatClampNeg)) ∧ ((¬ ((l5 - (1 : Int32)) < 0 ∨ 21 ≤ (l5 - (1 : Int32)).toNatClampNeg)) ∧ ((¬ (l5 < 0 ∨ 21 ≤ l5.toNatClampNeg)) ∧ WP X (d) 91 (66, [some (.ref 0), some (.int l1), some (.int l2), some (.int l3), some (.int l4), some (.int (l5 + (-1 : Int32))), none], [], Wd f fl g (va_up gl 54 (vp_updL (gl 54) (l5.toNatClampNeg) (((((gl 54) l5.toNatClampNeg) * ((((10 : Int32) - l3) : Int32).toInt64)) / (10 : Int64)) + ((((gl 54) (l5 - (1 : Int32)).toNatClampNeg) * ((l3 : Int32).toInt64)) / (10 : Int64))))) hh v tx) P))))) :
    WP X (d) 91 (66, [some (.ref 0), some (.int l1), some (.int l2), some (.int l3), some (.int l4), some (.int l5), none], [], Wd f fl g gl hh v tx) P := by
  refine WP.run hP_91 1 (c' := (68, [some (.ref 0), some (.int l1), some (.int l2), some (.int l3), some (.int l4), some (.int l5), none], [.int l5], Wd f fl g gl hh v tx)) rfl ?_
  refine WP.br hP_91 (q := l5 ≤ 0) (t := 118) (f := 71) (L := [some (.ref 0), some (.int l1), some (.int l2), some (.int l3), some (.int l4), some (.int l5), none]) (st := []) (w := Wd f fl g gl hh v tx) rfl (fun c1 => ?_) (fun c1 => ?_)
  · have h2 := h.1 c1
    refine WP.run hP_91 6 (c' := (128, [some (.ref 0), some (.int l1), some (.int l2), some (.int l3), some (.int l4), none, none], [.int 0, .ref 54, .int 0, .ref 54], Wd f fl g gl hh v tx)) rfl ?_
    refine WP.of (fun _ _ => Ex.lald hP_91 rfl (Wa_54 _ _ _ _ _ _ _) (by decide)) ?_
    show WP X _ 91 (129, [some (.ref 0), some (.int l1), some (.int l2), some (.int l3), some (.int l4), none, none], [.long ((gl 54) 0), .int 0, .ref 54], Wd f fl g gl hh v tx) P
    refine WP.run hP_91 7 (c' := (139, [some (.ref 0), some (.int l1), some (.int l2), some (.int l3), some (.int l4), none, none], [.long ((((gl 54) 0) * ((((10 : Int32) - l3) : Int32).toInt64)) / (10 : Int64)), .int 0, .ref 54], Wd f fl g gl hh v tx)) rfl ?_
    refine WP.of (fun _ _ => Ex.last hP_91 (w2 := Wd f fl g (va_up gl 54 (vp_updL (gl 54) 0 ((((gl 54) 0) * ((((10 : Int32) - l3) : Int32).toInt64)) / (10 : Int64)))) hh v tx) rfl (Wa_54 _ _ _ _ _ _ _) (by decide) (Ws_54 _ _ _ _ _ _ _ _)) ?_
    refine WP.run hP_91 2 (c' := (55, [some (.ref 0), some (.int l1), some (.int l2), some (.int l3), some (.int (l4 + (1 : Int32))), none, none], [], Wd f fl g (va_up gl 54 (vp_updL (gl 54) 0 ((((gl 54) 0) * ((((10 : Int32) - l3) : Int32).toInt64)) / (10 : Int64)))) hh v tx)) rfl ?_
    exact h2
  · have h3 := h.2 c1
    refine WP.run hP_91 6 (c' := (83, [some (.ref 0), some (.int l1), some (.int l2), some (.int l3), some (.int l4), some (.int l5), none], [.int l5, .ref 54, .int l5, .ref 54], Wd f fl g gl hh v tx)) rfl ?_
    refine WP.of (fun _ _ => Ex.lald hP_91 rfl (Wa_54 _ _ _ _ _ _ _) h3.1) ?_
    have h4 := h3.2
    refine WP.run hP_91 12 (c' := (102, [some (.ref 0), some (.int l1), some (.int l2), some (.int l3), some (.int l4), some (.int l5), none], [.int (l5 - (1 : Int32)), .ref 54, .long ((((gl 54) l5.toNatClampNeg) * ((((10 : Int32) - l3) : Int32).toInt64)) / (10 : Int64)), .int l5, .ref 54], Wd f fl g gl hh v tx)) rfl ?_
    refine WP.of (fun _ _ => Ex.lald hP_91 rfl (Wa_54 _ _ _ _ _ _ _) h4.1) ?_
    have h5 := h4.2
    refine WP.run hP_91 6 (c' := (111, [some (.ref 0), some (.int l1), some (.int l2), some (.int l3), some (.int l4), some (.int l5), none], [.long (((((gl 54) l5.toNatClampNeg) * ((((10 : Int32) - l3) : Int32).toInt64)) / (10 : Int64)) + ((((gl 54) (l5 - (1 : Int32)).toNatClampNeg) * ((l3 : Int32).toInt64)) / (10 : Int64))), .int l5, .ref 54], Wd f fl g gl hh v tx)) rfl ?_
    refine WP.of (fun _ _ => Ex.last hP_91 (w2 := Wd f fl g (va_up gl 54 (vp_updL (gl 54) (l5.toNatClampNeg) (((((gl 54) l5.toNatClampNeg) * ((((10 : Int32) - l3) : Int32).toInt64)) / (10 : Int64)) + ((((gl 54) (l5 - (1 : Int32)).toNatClampNeg) * ((l3 : Int32).toInt64)) / (10 : Int64))))) hh v tx) rfl (Wa_54 _ _ _ _ _ _ _) h5.1 (Ws_54 _ _ _ _ _ _ _ _)) ?_
    have h6 := h5.2
    refine WP.run hP_91 2 (c' := (66, [some (.ref 0), some (.int l1), some (.int l2), some (.int l3), some (.int l4), some (.int (l5 + (-1 : Int32))), none], [], Wd f fl g (va_up gl 54 (vp_updL (gl 54) (l5.toNatClampNeg) (((((gl 54) l5.toNatClampNeg) * ((((10 : Int32) - l3) : Int32).toInt64)) / (10 : Int64)) + ((((gl 54) (l5 - (1 : Int32)).toNatClampNeg) * ((l3 : Int32).toInt64)) / (10 : Int64))))) hh v tx)) rfl ?_
    exact h6

set_option maxRecDepth 20000 in
theorem b_x_compare_0 (X : mm_X) (d : Nat) (f : Nat → Int32) (fl : Nat → Int64) (g : Nat → Nat → Int32) (gl : Nat → Nat → Int64) (hh : Nat → Nat → Option Nat) (v : Nat → Value) (tx : mm_W) (p0 : Int32) (p1 : Int32)  (P : Option Value → mm_W → Prop)
    (h : ((p0 < (-1)) → P (some (.int (-1))) (Wd f fl g gl hh v tx)) ∧
    ((¬ (p0 < (-1))) → ((((f 74) ≤ p0) → P (some (.int (-1))) (Wd f fl g gl hh v tx)) ∧
      ((¬ ((f 74) ≤ p0)) → (((0 ≤ p1 ∧ p1 < (f 68)) → (((¬ p0 = (-1)) → ((¬ (p0 < 0 ∨ 6 ≤ p0.toNatClampNeg)) ∧ WP X (d) 7 (0, [some (.ref 38), some (.ref 1), some (.int p1), some ((mm_rf ((hh 7) p0.toNatClampNeg))), none], [], Wd f fl g gl hh v tx) (fun rv w2 => WP X (d + 1) 92 (64, [some (.ref 0), none, some (.int p1), some ((mm_rf ((hh 7) p0.toNatClampNeg)))], rv.toList ++ [], w2) P))) ∧
          ((p0 = (-1)) → WP X (d) 7 (0, [some (.ref 38), some (.ref 1), some (.int p1), some (.null), none], [], Wd f fl g gl hh v tx) (fun rv w2 => WP X (d + 1) 92 (64, [some (.ref 0), none, some (.int p1), some (.null)], rv.toList ++ [], w2) P)))) ∧
        ((¬ (0 ≤ p1 ∧ p1 < (f 68))) → P (some (.int (-1))) (Wd f fl g gl hh v tx))))))) :
    WP X (d + 1) 92 (0, [some (.ref 0), some (.int p0), some (.int p1), none], [], Wd f fl g gl hh v tx) P := by
  refine WP.run hP_92 2 (c' := (2, [some (.ref 0), some (.int p0), some (.int p1), none], [.int (-1), .int p0], Wd f fl g gl hh v tx)) rfl ?_
  refine WP.br hP_92 (q := p0 < (-1)) (t := 30) (f := 5) (L := [some (.ref 0), some (.int p0), some (.int p1), none]) (st := []) (w := Wd f fl g gl hh v tx) rfl (fun c1 => ?_) (fun c1 => ?_)
  · have h2 := h.1 c1
    refine WP.run hP_92 1 (c' := (31, [none, none, none, none], [.int (-1)], Wd f fl g gl hh v tx)) rfl ?_
    exact WP.retI hP_92 rfl rfl h2
  · have h3 := h.2 c1
    refine WP.run hP_92 4 (c' := (13, [some (.ref 0), some (.int p0), some (.int p1), none], [.int (f 74), .int p0], Wd f fl g gl hh v tx)) rfl ?_
    refine WP.br hP_92 (q := (f 74) ≤ p0) (t := 30) (f := 16) (L := [some (.ref 0), some (.int p0), some (.int p1), none]) (st := []) (w := Wd f fl g gl hh v tx) rfl (fun c4 => ?_) (fun c4 => ?_)
    · have h5 := h3.1 c4
      refine WP.run hP_92 1 (c' := (31, [none, none, none, none], [.int (-1)], Wd f fl g gl hh v tx)) rfl ?_
      exact WP.retI hP_92 rfl rfl h5
    · have h6 := h3.2 c4
      refine WP.run hP_92 4 (c' := (24, [some (.ref 0), some (.int p0), some (.int p1), none], [.int (f 68), .int p1], Wd f fl g gl hh v tx)) rfl ?_
      refine WP.call hP_92 hP_99 (as := [.int p1, .int (f 68)]) (pc' := 27) (L' := [some (.ref 0), some (.int p0), some (.int p1), none]) (st' := []) (w1 := Wd f fl g gl hh v tx) rfl ⟨Nat.le_of_ble_eq_true rfl, Nat.le_of_ble_eq_true rfl⟩ rfl (b_within_m X (d) f fl g gl hh v tx p1 (f 68) _ ?_)
      refine ⟨fun c7 => ?_, fun c7 => ?_⟩
      · have h8 := h6.1 c7
        refine WP.run hP_92 3 (c' := (34, [some (.ref 0), some (.int p0), some (.int p1), none], [.int (-1), .int p0], Wd f fl g gl hh v tx)) rfl ?_
        refine WP.br hP_92 (q := ¬ p0 = (-1)) (t := 41) (f := 37) (L := [some (.ref 0), some (.int p0), some (.int p1), none]) (st := []) (w := Wd f fl g gl hh v tx) rfl (fun c9 => ?_) (fun c9 => ?_)
        · have h10 := h8.1 c9
          refine WP.run hP_92 4 (c' := (49, [some (.ref 0), some (.int p0), some (.int p1), none], [.int p0, .ref 7], Wd f fl g gl hh v tx)) rfl ?_
          refine WP.of (fun _ _ => Ex.aald4 hP_92 rfl (Wa_7 _ _ _ _ _ _ _) h10.1) ?_
          have h11 := h10.2
          refine WP.run hP_92 7 (c' := (61, [some (.ref 0), none, some (.int p1), some ((mm_rf ((hh 7) p0.toNatClampNeg)))], [(mm_rf ((hh 7) p0.toNatClampNeg)), .int p1, .ref 1, .ref 38], Wd f fl g gl hh v tx)) rfl ?_
          refine WP.call hP_92 hP_7 (as := [.ref 38, .ref 1, .int p1, (mm_rf ((hh 7) p0.toNatClampNeg))]) (pc' := 64) (L' := [some (.ref 0), none, some (.int p1), some ((mm_rf ((hh 7) p0.toNatClampNeg)))]) (st' := []) (w1 := Wd f fl g gl hh v tx) rfl ⟨Nat.le_of_ble_eq_true rfl, Nat.le_of_ble_eq_true rfl⟩ rfl ?_
          exact h11
        · have h12 := h8.2 (Classical.not_not.mp c9)
          refine WP.run hP_92 9 (c' := (61, [some (.ref 0), none, some (.int p1), some (.null)], [.null, .int p1, .ref 1, .ref 38], Wd f fl g gl hh v tx)) rfl ?_
          refine WP.call hP_92 hP_7 (as := [.ref 38, .ref 1, .int p1, .null]) (pc' := 64) (L' := [some (.ref 0), none, some (.int p1), some (.null)]) (st' := []) (w1 := Wd f fl g gl hh v tx) rfl ⟨Nat.le_of_ble_eq_true rfl, Nat.le_of_ble_eq_true rfl⟩ rfl ?_
          exact h12
      · have h13 := h6.2 c7
        refine WP.run hP_92 2 (c' := (31, [none, none, none, none], [.int (-1)], Wd f fl g gl hh v tx)) rfl ?_
        exact WP.retI hP_92 rfl rfl h13

set_option maxRecDepth 20000 in
theorem b_x_compare_64 (X : mm_X) (d : Nat) (f : Nat → Int32) (fl : Nat → Int64) (g : Nat → Nat → Int32) (gl : Nat → Nat → Int64) (hh : Nat → Nat → Option Nat) (v : Nat → Value) (tx : mm_W) (l2 : Int32) (s0 : Int32)  (P : Option Value → mm_W → Prop)
    (h : ((s0 = 0) → P (some (.int (-1))) (Wd f fl g gl hh v tx)) ∧
    ((¬ s0 = 0) → P (some (.int (f 2438))) (Wd f fl g gl hh v tx))) :
    WP X (d) 92 (64, [some (.ref 0), none, some (.int l2), some ((mm_rf ((hh 7) p0.toNatClampNeg)))], [.int s0], Wd f fl g gl hh v tx) P := by
  refine WP.br hP_92 (q := s0 = 0) (t := 77) (f := 67) (L := [some (.ref 0), none, some (.int l2), some ((mm_rf ((hh 7) p0.toNatClampNeg)))]) (st := []) (w := Wd f fl g gl hh v tx) rfl (fun c1 => ?_) (fun c1 => ?_)
  · have h2 := h.1 c1
    refine WP.run hP_92 1 (c' := (78, [none, none, none, none], [.int (-1)], Wd f fl g gl hh v tx)) rfl ?_
    exact WP.retI hP_92 rfl rfl h2
  · have h3 := h.2 c1
    refine WP.run hP_92 4 (c' := (78, [some (.ref 0), none, some (.int l2), some ((mm_rf ((hh 7) p0.toNatClampNeg)))], [.int (f 2438)], Wd f fl g gl hh v tx)) rfl ?_
    exact WP.retI hP_92 rfl rfl h3

set_option maxRecDepth 20000 in
theorem b_x_compare_64a (X : mm_X) (d : Nat) (f : Nat → Int32) (fl : Nat → Int64) (g : Nat → Nat → Int32) (gl : Nat → Nat → Int64) (hh : Nat → Nat → Option Nat) (v : Nat → Value) (tx : mm_W) (l2 : Int32) (s0 : Int32)  (P : Option Value → mm_W → Prop)
    (h : ((s0 = 0) → P (some (.int (-1))) (Wd f fl g gl hh v tx)) ∧
    ((¬ s0 = 0) → P (some (.int (f 2438))) (Wd f fl g gl hh v tx))) :
    WP X (d) 92 (64, [some (.ref 0), none, some (.int l2), some (.null)], [.int s0], Wd f fl g gl hh v tx) P := by
  refine WP.br hP_92 (q := s0 = 0) (t := 77) (f := 67) (L := [some (.ref 0), none, some (.int l2), some (.null)]) (st := []) (w := Wd f fl g gl hh v tx) rfl (fun c1 => ?_) (fun c1 => ?_)
  · have h2 := h.1 c1
    refine WP.run hP_92 1 (c' := (78, [none, none, none, none], [.int (-1)], Wd f fl g gl hh v tx)) rfl ?_
    exact WP.retI hP_92 rfl rfl h2
  · have h3 := h.2 c1
    refine WP.run hP_92 4 (c' := (78, [some (.ref 0), none, some (.int l2), some (.null)], [.int (f 2438)], Wd f fl g gl hh v tx)) rfl ?_
    exact WP.retI hP_92 rfl rfl h3

set_option maxRecDepth 20000 in
theorem b_x_nextDraw_0 (X : mm_X) (d : Nat) (f : Nat → Int32) (fl : Nat → Int64) (g : Nat → Nat → Int32) (gl : Nat → Nat → Int64) (hh : Nat → Nat → Option Nat) (v : Nat → Value) (tx : mm_W) (p0 : Int32)  (P : Option Value → mm_W → Prop)
    (h : P (some (.int (((((((p0 : Int32).toInt64) * (1103 : Int64)) + (12345 : Int64)) - (((((p0 : Int32).toInt64) * (1103 : Int64)) + (12345 : Int64)) / (1000003 : Int64)) * (1000003 : Int64)) : Int64).toInt32))) (Wd f fl g gl hh v tx)) :
    WP X (d) 109 (0, [some (.int p0)], [], Wd f fl g gl hh v tx) P := by
  refine WP.run hP_109 9 (c' := (15, [some (.int p0)], [.int (((((((p0 : Int32).toInt64) * (1103 : Int64)) + (12345 : Int64)) - (((((p0 : Int32).toInt64) * (1103 : Int64)) + (12345 : Int64)) / (1000003 : Int64)) * (1000003 : Int64)) : Int64).toInt32)], Wd f fl g gl hh v tx)) rfl ?_
  exact WP.retI hP_109 rfl rfl h

set_option maxRecDepth 20000 in
theorem b_x_months_0 (X : mm_X) (d : Nat) (f : Nat → Int32) (fl : Nat → Int64) (g : Nat → Nat → Int32) (gl : Nat → Nat → Int64) (hh : Nat → Nat → Option Nat) (v : Nat → Value) (tx : mm_W) (p0 : Int32) (p1 : Int32)  (P : Option Value → mm_W → Prop)
    (h : ((p0 < 0) → P (some (.int (-1))) (Wd (va_up f 18 (-1 : Int32)) fl (va_up g 55 (upd (g 55) (1) (((g 55) 1) + (1 : Int32)))) gl hh v tx)) ∧
    ((¬ (p0 < 0)) → (((1000000 < p0) → P (some (.int (-1))) (Wd (va_up f 18 (-1 : Int32)) fl (va_up g 55 (upd (g 55) (1) (((g 55) 1) + (1 : Int32)))) gl hh v tx)) ∧
      ((¬ (1000000 < p0)) → (((p1 < 1) → P (some (.int (-1))) (Wd (va_up f 18 (-1 : Int32)) fl (va_up g 55 (upd (g 55) (1) (((g 55) 1) + (1 : Int32)))) gl hh v tx)) ∧
        ((¬ (p1 < 1)) → (((p1 ≤ 60) → (((¬ (f 68) = 0) → WP X (d + 1) 45 (0, [some (.ref 19), some (.ref 1), none], [], Wd f fl g gl hh v tx) (fun rv w2 => WP X (d + 2) 93 (56, [some (.ref 0), some (.int p0), some (.int p1), none, none, none, none, none], rv.toList ++ [], w2) P)) ∧
            (((f 68) = 0) → P (some (.int (-3))) (Wd (va_up f 18 (-3 : Int32)) fl (va_up g 55 (upd (g 55) (3) (((g 55) 3) + (1 : Int32)))) gl hh v tx)))) ∧
          ((¬ (p1 ≤ 60)) → P (some (.int (-1))) (Wd (va_up f 18 (-1 : Int32)) fl (va_up g 55 (upd (g 55) (1) (((g 55) 1) + (1 : Int32)))) gl hh v tx))))))))) :
    WP X (d + 2) 93 (0, [some (.ref 0), some (.int p0), some (.int p1), none, none, none, none, none], [], Wd f fl g gl hh v tx) P := by
  refine WP.run hP_93 1 (c' := (1, [some (.ref 0), some (.int p0), some (.int p1), none, none, none, none, none], [.int p0], Wd f fl g gl hh v tx)) rfl ?_
  refine WP.br hP_93 (q := p0 < 0) (t := 22) (f := 4) (L := [some (.ref 0), some (.int p0), some (.int p1), none, none, none, none, none]) (st := []) (w := Wd f fl g gl hh v tx) rfl (fun c1 => ?_) (fun c1 => ?_)
  · have h2 := h.1 c1
    refine WP.run hP_93 2 (c' := (24, [some (.ref 0), none, none, none, none, none, none, none], [.int (-1), .ref 0], Wd f fl g gl hh v tx)) rfl ?_
    refine WP.call hP_93 hP_101 (as := [.ref 0, .int (-1)]) (pc' := 27) (L' := [some (.ref 0), none, none, none, none, none, none, none]) (st' := []) (w1 := Wd f fl g gl hh v tx) rfl ⟨Nat.le_of_ble_eq_true rfl, Nat.le_of_ble_eq_true rfl⟩ rfl (b_x_refused_0 X (d) f fl g gl hh v tx (-1) _ ?_)
    refine ⟨fun c3 => ?_, fun c => absurd c (by decide)⟩
    refine ⟨by decide, ?_⟩
    refine ⟨by decide, ?_⟩
    exact WP.retI hP_93 rfl rfl h2
  · have h4 := h.2 c1
    refine WP.run hP_93 2 (c' := (8, [some (.ref 0), some (.int p0), some (.int p1), none, none, none, none, none], [.int 1000000, .int p0], Wd f fl g gl hh v tx)) rfl ?_
    refine WP.br hP_93 (q := 1000000 < p0) (t := 22) (f := 11) (L := [some (.ref 0), some (.int p0), some (.int p1), none, none, none, none, none]) (st := []) (w := Wd f fl g gl hh v tx) rfl (fun c5 => ?_) (fun c5 => ?_)
    · have h6 := h4.1 c5
      refine WP.run hP_93 2 (c' := (24, [some (.ref 0), none, none, none, none, none, none, none], [.int (-1), .ref 0], Wd f fl g gl hh v tx)) rfl ?_
      refine WP.call hP_93 hP_101 (as := [.ref 0, .int (-1)]) (pc' := 27) (L' := [some (.ref 0), none, none, none, none, none, none, none]) (st' := []) (w1 := Wd f fl g gl hh v tx) rfl ⟨Nat.le_of_ble_eq_true rfl, Nat.le_of_ble_eq_true rfl⟩ rfl (b_x_refused_0 X (d) f fl g gl hh v tx (-1) _ ?_)
      refine ⟨fun c7 => ?_, fun c => absurd c (by decide)⟩
      refine ⟨by decide, ?_⟩
      refine ⟨by decide, ?_⟩
      exact WP.retI hP_93 rfl rfl h6
    · have h8 := h4.2 c5
      refine WP.run hP_93 2 (c' := (13, [some (.ref 0), some (.int p0), some (.int p1), none, none, none, none, none], [.int 1, .int p1], Wd f fl g gl hh v tx)) rfl ?_
      refine WP.br hP_93 (q := p1 < 1) (t := 22) (f := 16) (L := [some (.ref 0), some (.int p0), some (.int p1), none, none, none, none, none]) (st := []) (w := Wd f fl g gl hh v tx) rfl (fun c9 => ?_) (fun c9 => ?_)
      · have h10 := h8.1 c9
        refine WP.run hP_93 2 (c' := (24, [some (.ref 0), none, none, none, none, none, none, none], [.int (-1), .ref 0], Wd f fl g gl hh v tx)) rfl ?_
        refine WP.call hP_93 hP_101 (as := [.ref 0, .int (-1)]) (pc' := 27) (L' := [some (.ref 0), none, none, none, none, none, none, none]) (st' := []) (w1 := Wd f fl g gl hh v tx) rfl ⟨Nat.le_of_ble_eq_true rfl, Nat.le_of_ble_eq_true rfl⟩ rfl (b_x_refused_0 X (d) f fl g gl hh v tx (-1) _ ?_)
        refine ⟨fun c11 => ?_, fun c => absurd c (by decide)⟩
        refine ⟨by decide, ?_⟩
        refine ⟨by decide, ?_⟩
        exact WP.retI hP_93 rfl rfl h10
      · have h12 := h8.2 c9
        refine WP.run hP_93 2 (c' := (19, [some (.ref 0), some (.int p0), some (.int p1), none, none, none, none, none], [.int 60, .int p1], Wd f fl g gl hh v tx)) rfl ?_
        refine WP.br hP_93 (q := p1 ≤ 60) (t := 28) (f := 22) (L := [some (.ref 0), some (.int p0), some (.int p1), none, none, none, none, none]) (st := []) (w := Wd f fl g gl hh v tx) rfl (fun c13 => ?_) (fun c13 => ?_)
        · have h14 := h12.1 c13
          refine WP.run hP_93 3 (c' := (35, [some (.ref 0), some (.int p0), some (.int p1), none, none, none, none, none], [.int (f 68)], Wd f fl g gl hh v tx)) rfl ?_
          refine WP.br hP_93 (q := ¬ (f 68) = 0) (t := 45) (f := 38) (L := [some (.ref 0), some (.int p0), some (.int p1), none, none, none, none, none]) (st := []) (w := Wd f fl g gl hh v tx) rfl (fun c15 => ?_) (fun c15 => ?_)
          · have h16 := h14.1 c15
            refine WP.run hP_93 4 (c' := (53, [some (.ref 0), some (.int p0), some (.int p1), none, none, none, none, none], [.ref 1, .ref 19], Wd f fl g gl hh v tx)) rfl ?_
            refine WP.call hP_93 hP_45 (as := [.ref 19, .ref 1]) (pc' := 56) (L' := [some (.ref 0), some (.int p0), some (.int p1), none, none, none, none, none]) (st' := []) (w1 := Wd f fl g gl hh v tx) rfl ⟨Nat.le_of_ble_eq_true rfl, Nat.le_of_ble_eq_true rfl⟩ rfl ?_
            exact h16
          · have h17 := h14.2 (Classical.not_not.mp c15)
            refine WP.run hP_93 2 (c' := (41, [some (.ref 0), some (.int p0), some (.int p1), none, none, none, none, none], [.int (-3), .ref 0], Wd f fl g gl hh v tx)) rfl ?_
            refine WP.call hP_93 hP_101 (as := [.ref 0, .int (-3)]) (pc' := 44) (L' := [some (.ref 0), some (.int p0), some (.int p1), none, none, none, none, none]) (st' := []) (w1 := Wd f fl g gl hh v tx) rfl ⟨Nat.le_of_ble_eq_true rfl, Nat.le_of_ble_eq_true rfl⟩ rfl (b_x_refused_0 X (d) f fl g gl hh v tx (-3) _ ?_)
            refine ⟨fun c18 => ?_, fun c => absurd c (by decide)⟩
            refine ⟨by decide, ?_⟩
            refine ⟨by decide, ?_⟩
            exact WP.retI hP_93 rfl rfl h17
        · have h19 := h12.2 c13
          refine WP.run hP_93 2 (c' := (24, [some (.ref 0), none, none, none, none, none, none, none], [.int (-1), .ref 0], Wd f fl g gl hh v tx)) rfl ?_
          refine WP.call hP_93 hP_101 (as := [.ref 0, .int (-1)]) (pc' := 27) (L' := [some (.ref 0), none, none, none, none, none, none, none]) (st' := []) (w1 := Wd f fl g gl hh v tx) rfl ⟨Nat.le_of_ble_eq_true rfl, Nat.le_of_ble_eq_true rfl⟩ rfl (b_x_refused_0 X (d) f fl g gl hh v tx (-1) _ ?_)
          refine ⟨fun c20 => ?_, fun c => absurd c (by decide)⟩
          refine ⟨by decide, ?_⟩
          refine ⟨by decide, ?_⟩
          exact WP.retI hP_93 rfl rfl h19

set_option maxRecDepth 20000 in
theorem b_x_months_56 (X : mm_X) (d : Nat) (f : Nat → Int32) (fl : Nat → Int64) (g : Nat → Nat → Int32) (gl : Nat → Nat → Int64) (hh : Nat → Nat → Option Nat) (v : Nat → Value) (tx : mm_W) (l1 : Int32) (l2 : Int32)  (P : Option Value → mm_W → Prop)
    (h : WP X (d) 93 (64, [some (.ref 0), none, some (.int l2), some (.int l1), some (.int 0), some (.int 0), none, none], [], Wd f fl g gl hh v tx) P) :
    WP X (d) 93 (56, [some (.ref 0), some (.int l1), some (.int l2), none, none, none, none, none], [], Wd f fl g gl hh v tx) P := by
  refine WP.run hP_93 3 (c' := (59, [some (.ref 0), some (.int l1), some (.int l2), some (.int l1), none, none, none, none], [.int 0], Wd f fl g gl hh v tx)) rfl ?_
  refine WP.run hP_93 2 (c' := (62, [some (.ref 0), some (.int l1), some (.int l2), some (.int l1), some (.int 0), none, none, none], [.int 0], Wd f fl g gl hh v tx)) rfl ?_
  refine WP.run hP_93 1 (c' := (64, [some (.ref 0), some (.int l1), some (.int l2), some (.int l1), some (.int 0), some (.int 0), none, none], [], Wd f fl g gl hh v tx)) rfl ?_
  refine WP.clr hP_93 (pc := 64) rfl ?_
  exact h

set_option maxRecDepth 20000 in
theorem b_x_months_64 (X : mm_X) (d : Nat) (f : Nat → Int32) (fl : Nat → Int64) (g : Nat → Nat → Int32) (gl : Nat → Nat → Int64) (hh : Nat → Nat → Option Nat) (v : Nat → Value) (tx : mm_W) (l2 : Int32) (l3 : Int32) (l4 : Int32) (l5 : Int32)  (P : Option Value → mm_W → Prop)
    (h : ((l2 ≤ l5) → P (some (.int l4)) (Wd (va_up f 18 0) fl g gl hh v tx)) ∧
    ((¬ (l2 ≤ l5)) → (((999 ≤ ((g 26) 0)) → P (some (.int l4)) (Wd (va_up f 18 0) fl g gl hh v tx)) ∧
      ((¬ (999 ≤ ((g 26) 0))) → (((12 ≤ (f 1222)) → WP X (d + 1) 93 (112, [some (.ref 0), none, some (.int l2), some (.int (((((((l3 : Int32).toInt64) * (1103 : Int64)) + (12345 : Int64)) - (((((l3 : Int32).toInt64) * (1103 : Int64)) + (12345 : Int64)) / (1000003 : Int64)) * (1000003 : Int64)) : Int64).toInt32)), some (.int l4), some (.int l5), none, none], [], Wd f fl g gl hh v tx) P) ∧
        ((¬ (12 ≤ (f 1222))) → WP X (d + 1) 93 (112, [some (.ref 0), none, some (.int l2), some (.int (((((((l3 : Int32).toInt64) * (1103 : Int64)) + (12345 : Int64)) - (((((l3 : Int32).toInt64) * (1103 : Int64)) + (12345 : Int64)) / (1000003 : Int64)) * (1000003 : Int64)) : Int64).toInt32)), some (.int l4), some (.int l5), none, none], [], Wd (va_up (va_up f 1223 ((((f 1223) <<< ((2 : Int32) &&& (31 : Int32))) : Int32) ||| ((((((((l3 : Int32).toInt64) * (1103 : Int64)) + (12345 : Int64)) - (((((l3 : Int32).toInt64) * (1103 : Int64)) + (12345 : Int64)) / (1000003 : Int64)) * (1000003 : Int64)) : Int64).toInt32) - ((((((((l3 : Int32).toInt64) * (1103 : Int64)) + (12345 : Int64)) - (((((l3 : Int32).toInt64) * (1103 : Int64)) + (12345 : Int64)) / (1000003 : Int64)) * (1000003 : Int64)) : Int64).toInt32) / (4 : Int32)) * (4 : Int32)))) 1222 ((f 1222) + (1 : Int32))) fl g gl hh v tx) P)))))) :
    WP X (d + 1) 93 (64, [some (.ref 0), none, some (.int l2), some (.int l3), some (.int l4), some (.int l5), none, none], [], Wd f fl g gl hh v tx) P := by
  refine WP.run hP_93 2 (c' := (67, [some (.ref 0), none, some (.int l2), some (.int l3), some (.int l4), some (.int l5), none, none], [.int l2, .int l5], Wd f fl g gl hh v tx)) rfl ?_
  refine WP.br hP_93 (q := l2 ≤ l5) (t := 238) (f := 70) (L := [some (.ref 0), none, some (.int l2), some (.int l3), some (.int l4), some (.int l5), none, none]) (st := []) (w := Wd f fl g gl hh v tx) rfl (fun c1 => ?_) (fun c1 => ?_)
  · have h2 := h.1 c1
    refine WP.run hP_93 2 (c' := (241, [some (.ref 0), none, none, none, some (.int l4), none, none, none], [.int l4, .ref 0], Wd f fl g gl hh v tx)) rfl ?_
    refine WP.call hP_93 hP_100 (as := [.ref 0, .int l4]) (pc' := 244) (L' := [some (.ref 0), none, none, none, some (.int l4), none, none, none]) (st' := []) (w1 := Wd f fl g gl hh v tx) rfl ⟨Nat.le_of_ble_eq_true rfl, Nat.le_of_ble_eq_true rfl⟩ rfl (b_x_accepted_0 X (d) f fl g gl hh v tx l4 _ ?_)
    exact WP.retI hP_93 rfl rfl h2
  · have h3 := h.2 c1
    refine WP.run hP_93 4 (c' := (78, [some (.ref 0), none, some (.int l2), some (.int l3), some (.int l4), some (.int l5), none, none], [.int 0, .ref 26], Wd f fl g gl hh v tx)) rfl ?_
    refine WP.of (fun _ _ => Ex.iald hP_93 rfl (Wa_26 _ _ _ _ _ _ _) (by decide)) ?_
    show WP X _ 93 (79, [some (.ref 0), none, some (.int l2), some (.int l3), some (.int l4), some (.int l5), none, none], [.int ((g 26) 0)], Wd f fl g gl hh v tx) P
    refine WP.run hP_93 1 (c' := (82, [some (.ref 0), none, some (.int l2), some (.int l3), some (.int l4), some (.int l5), none, none], [.int 999, .int ((g 26) 0)], Wd f fl g gl hh v tx)) rfl ?_
    refine WP.br hP_93 (q := 999 ≤ ((g 26) 0)) (t := 238) (f := 85) (L := [some (.ref 0), none, some (.int l2), some (.int l3), some (.int l4), some (.int l5), none, none]) (st := []) (w := Wd f fl g gl hh v tx) rfl (fun c4 => ?_) (fun c4 => ?_)
    · have h5 := h3.1 c4
      refine WP.run hP_93 2 (c' := (241, [some (.ref 0), none, none, none, some (.int l4), none, none, none], [.int l4, .ref 0], Wd f fl g gl hh v tx)) rfl ?_
      refine WP.call hP_93 hP_100 (as := [.ref 0, .int l4]) (pc' := 244) (L' := [some (.ref 0), none, none, none, some (.int l4), none, none, none]) (st' := []) (w1 := Wd f fl g gl hh v tx) rfl ⟨Nat.le_of_ble_eq_true rfl, Nat.le_of_ble_eq_true rfl⟩ rfl (b_x_accepted_0 X (d) f fl g gl hh v tx l4 _ ?_)
      exact WP.retI hP_93 rfl rfl h5
    · have h6 := h3.2 c4
      refine WP.run hP_93 1 (c' := (86, [some (.ref 0), none, some (.int l2), some (.int l3), some (.int l4), some (.int l5), none, none], [.int l3], Wd f fl g gl hh v tx)) rfl ?_
      refine WP.call hP_93 hP_109 (as := [.int l3]) (pc' := 89) (L' := [some (.ref 0), none, some (.int l2), some (.int l3), some (.int l4), some (.int l5), none, none]) (st' := []) (w1 := Wd f fl g gl hh v tx) rfl ⟨Nat.le_of_ble_eq_true rfl, Nat.le_of_ble_eq_true rfl⟩ rfl (b_x_nextDraw_0 X (d) f fl g gl hh v tx l3 _ ?_)
      refine WP.run hP_93 5 (c' := (99, [some (.ref 0), none, some (.int l2), some (.int (((((((l3 : Int32).toInt64) * (1103 : Int64)) + (12345 : Int64)) - (((((l3 : Int32).toInt64) * (1103 : Int64)) + (12345 : Int64)) / (1000003 : Int64)) * (1000003 : Int64)) : Int64).toInt32)), some (.int l4), some (.int l5), none, none], [.int 12, .int (f 1222)], Wd f fl g gl hh v tx)) rfl ?_
      refine WP.br hP_93 (q := 12 ≤ (f 1222)) (t := 112) (f := 102) (L := [some (.ref 0), none, some (.int l2), some (.int (((((((l3 : Int32).toInt64) * (1103 : Int64)) + (12345 : Int64)) - (((((l3 : Int32).toInt64) * (1103 : Int64)) + (12345 : Int64)) / (1000003 : Int64)) * (1000003 : Int64)) : Int64).toInt32)), some (.int l4), some (.int l5), none, none]) (st := []) (w := Wd f fl g gl hh v tx) rfl (fun c7 => ?_) (fun c7 => ?_)
      · have h8 := h6.1 c7
        exact h8
      · have h9 := h6.2 c7
        refine WP.run hP_93 5 (c' := (109, [some (.ref 0), none, some (.int l2), some (.int (((((((l3 : Int32).toInt64) * (1103 : Int64)) + (12345 : Int64)) - (((((l3 : Int32).toInt64) * (1103 : Int64)) + (12345 : Int64)) / (1000003 : Int64)) * (1000003 : Int64)) : Int64).toInt32)), some (.int l4), some (.int l5), none, none], [.int ((((((((l3 : Int32).toInt64) * (1103 : Int64)) + (12345 : Int64)) - (((((l3 : Int32).toInt64) * (1103 : Int64)) + (12345 : Int64)) / (1000003 : Int64)) * (1000003 : Int64)) : Int64).toInt32) - ((((((((l3 : Int32).toInt64) * (1103 : Int64)) + (12345 : Int64)) - (((((l3 : Int32).toInt64) * (1103 : Int64)) + (12345 : Int64)) / (1000003 : Int64)) * (1000003 : Int64)) : Int64).toInt32) / (4 : Int32)) * (4 : Int32)), .ref 19], Wd f fl g gl hh v tx)) rfl ?_
        refine WP.call hP_93 hP_49 (as := [.ref 19, .int ((((((((l3 : Int32).toInt64) * (1103 : Int64)) + (12345 : Int64)) - (((((l3 : Int32).toInt64) * (1103 : Int64)) + (12345 : Int64)) / (1000003 : Int64)) * (1000003 : Int64)) : Int64).toInt32) - ((((((((l3 : Int32).toInt64) * (1103 : Int64)) + (12345 : Int64)) - (((((l3 : Int32).toInt64) * (1103 : Int64)) + (12345 : Int64)) / (1000003 : Int64)) * (1000003 : Int64)) : Int64).toInt32) / (4 : Int32)) * (4 : Int32))]) (pc' := 112) (L' := [some (.ref 0), none, some (.int l2), some (.int (((((((l3 : Int32).toInt64) * (1103 : Int64)) + (12345 : Int64)) - (((((l3 : Int32).toInt64) * (1103 : Int64)) + (12345 : Int64)) / (1000003 : Int64)) * (1000003 : Int64)) : Int64).toInt32)), some (.int l4), some (.int l5), none, none]) (st' := []) (w1 := Wd f fl g gl hh v tx) rfl ⟨Nat.le_of_ble_eq_true rfl, Nat.le_of_ble_eq_true rfl⟩ rfl (b_yst_add_19_0 X (d) f fl g gl hh v tx ((((((((l3 : Int32).toInt64) * (1103 : Int64)) + (12345 : Int64)) - (((((l3 : Int32).toInt64) * (1103 : Int64)) + (12345 : Int64)) / (1000003 : Int64)) * (1000003 : Int64)) : Int64).toInt32) - ((((((((l3 : Int32).toInt64) * (1103 : Int64)) + (12345 : Int64)) - (((((l3 : Int32).toInt64) * (1103 : Int64)) + (12345 : Int64)) / (1000003 : Int64)) * (1000003 : Int64)) : Int64).toInt32) / (4 : Int32)) * (4 : Int32)) _ ?_)
        exact h9

set_option maxRecDepth 20000 in
theorem b_x_months_112 (X : mm_X) (d : Nat) (f : Nat → Int32) (fl : Nat → Int64) (g : Nat → Nat → Int32) (gl : Nat → Nat → Int64) (hh : Nat → Nat → Option Nat) (v : Nat → Value) (tx : mm_W) (l2 : Int32) (l3 : Int32) (l4 : Int32) (l5 : Int32)  (P : Option Value → mm_W → Prop)
    (h : (¬ (f 68) = 0) ∧ (((0 ≤ (f 1228) ∧ (f 1228) < (f 1226)) → ((¬ ((f 1228) < 0 ∨ 6 ≤ (f 1228).toNatClampNeg)) ∧ WP X (d + 1) 7 (0, [some (.ref 38), some (.ref 19), some (.int ((((((((l3 : Int32).toInt64) * (1103 : Int64)) + (12345 : Int64)) - (((((l3 : Int32).toInt64) * (1103 : Int64)) + (12345 : Int64)) / (1000003 : Int64)) * (1000003 : Int64)) : Int64).toInt32) - ((((((((l3 : Int32).toInt64) * (1103 : Int64)) + (12345 : Int64)) - (((((l3 : Int32).toInt64) * (1103 : Int64)) + (12345 : Int64)) / (1000003 : Int64)) * (1000003 : Int64)) : Int64).toInt32) / (f 68)) * (f 68))), some ((mm_rf ((hh 25) (f 1228).toNatClampNeg))), none], [], Wd f fl g gl hh v tx) (fun rv w2 => WP X (d + 2) 93 (148, [some (.ref 0), none, some (.int l2), some (.int (((((((l3 : Int32).toInt64) * (1103 : Int64)) + (12345 : Int64)) - (((((l3 : Int32).toInt64) * (1103 : Int64)) + (12345 : Int64)) / (1000003 : Int64)) * (1000003 : Int64)) : Int64).toInt32)), some (.int l4), some (.int l5), some (.int ((((((((l3 : Int32).toInt64) * (1103 : Int64)) + (12345 : Int64)) - (((((l3 : Int32).toInt64) * (1103 : Int64)) + (12345 : Int64)) / (1000003 : Int64)) * (1000003 : Int64)) : Int64).toInt32) - ((((((((l3 : Int32).toInt64) * (1103 : Int64)) + (12345 : Int64)) - (((((l3 : Int32).toInt64) * (1103 : Int64)) + (12345 : Int64)) / (1000003 : Int64)) * (1000003 : Int64)) : Int64).toInt32) / (f 68)) * (f 68))), none], rv.toList ++ [], w2) P))) ∧
    ((¬ (0 ≤ (f 1228) ∧ (f 1228) < (f 1226))) → WP X (d + 1) 7 (0, [some (.ref 38), some (.ref 19), some (.int ((((((((l3 : Int32).toInt64) * (1103 : Int64)) + (12345 : Int64)) - (((((l3 : Int32).toInt64) * (1103 : Int64)) + (12345 : Int64)) / (1000003 : Int64)) * (1000003 : Int64)) : Int64).toInt32) - ((((((((l3 : Int32).toInt64) * (1103 : Int64)) + (12345 : Int64)) - (((((l3 : Int32).toInt64) * (1103 : Int64)) + (12345 : Int64)) / (1000003 : Int64)) * (1000003 : Int64)) : Int64).toInt32) / (f 68)) * (f 68))), some (.null), none], [], Wd f fl g gl hh v tx) (fun rv w2 => WP X (d + 2) 93 (148, [some (.ref 0), none, some (.int l2), some (.int (((((((l3 : Int32).toInt64) * (1103 : Int64)) + (12345 : Int64)) - (((((l3 : Int32).toInt64) * (1103 : Int64)) + (12345 : Int64)) / (1000003 : Int64)) * (1000003 : Int64)) : Int64).toInt32)), some (.int l4), some (.int l5), some (.int ((((((((l3 : Int32).toInt64) * (1103 : Int64)) + (12345 : Int64)) - (((((l3 : Int32).toInt64) * (1103 : Int64)) + (12345 : Int64)) / (1000003 : Int64)) * (1000003 : Int64)) : Int64).toInt32) - ((((((((l3 : Int32).toInt64) * (1103 : Int64)) + (12345 : Int64)) - (((((l3 : Int32).toInt64) * (1103 : Int64)) + (12345 : Int64)) / (1000003 : Int64)) * (1000003 : Int64)) : Int64).toInt32) / (f 68)) * (f 68))), none], rv.toList ++ [], w2) P)))) :
    WP X (d + 2) 93 (112, [some (.ref 0), none, some (.int l2), some (.int l3), some (.int l4), some (.int l5), none, none], [], Wd f fl g gl hh v tx) P := by
  refine WP.run hP_93 1 (c' := (113, [some (.ref 0), none, some (.int l2), some (.int l3), some (.int l4), some (.int l5), none, none], [.int l3], Wd f fl g gl hh v tx)) rfl ?_
  refine WP.call hP_93 hP_109 (as := [.int l3]) (pc' := 116) (L' := [some (.ref 0), none, some (.int l2), some (.int l3), some (.int l4), some (.int l5), none, none]) (st' := []) (w1 := Wd f fl g gl hh v tx) rfl ⟨Nat.le_of_ble_eq_true rfl, Nat.le_of_ble_eq_true rfl⟩ rfl (b_x_nextDraw_0 X (d + 1) f fl g gl hh v tx l3 _ ?_)
  refine WP.run hP_93 5 (c' := (125, [some (.ref 0), none, some (.int l2), some (.int (((((((l3 : Int32).toInt64) * (1103 : Int64)) + (12345 : Int64)) - (((((l3 : Int32).toInt64) * (1103 : Int64)) + (12345 : Int64)) / (1000003 : Int64)) * (1000003 : Int64)) : Int64).toInt32)), some (.int l4), some (.int l5), none, none], [.int (f 68), .int (((((((l3 : Int32).toInt64) * (1103 : Int64)) + (12345 : Int64)) - (((((l3 : Int32).toInt64) * (1103 : Int64)) + (12345 : Int64)) / (1000003 : Int64)) * (1000003 : Int64)) : Int64).toInt32)], Wd f fl g gl hh v tx)) rfl ?_
  refine WP.of (fun _ _ => Ex.irem hP_93 rfl h.1) ?_
  have h1 := h.2
  refine WP.run hP_93 8 (c' := (142, [some (.ref 0), none, some (.int l2), some (.int (((((((l3 : Int32).toInt64) * (1103 : Int64)) + (12345 : Int64)) - (((((l3 : Int32).toInt64) * (1103 : Int64)) + (12345 : Int64)) / (1000003 : Int64)) * (1000003 : Int64)) : Int64).toInt32)), some (.int l4), some (.int l5), some (.int ((((((((l3 : Int32).toInt64) * (1103 : Int64)) + (12345 : Int64)) - (((((l3 : Int32).toInt64) * (1103 : Int64)) + (12345 : Int64)) / (1000003 : Int64)) * (1000003 : Int64)) : Int64).toInt32) - ((((((((l3 : Int32).toInt64) * (1103 : Int64)) + (12345 : Int64)) - (((((l3 : Int32).toInt64) * (1103 : Int64)) + (12345 : Int64)) / (1000003 : Int64)) * (1000003 : Int64)) : Int64).toInt32) / (f 68)) * (f 68))), none], [.ref 19, .int ((((((((l3 : Int32).toInt64) * (1103 : Int64)) + (12345 : Int64)) - (((((l3 : Int32).toInt64) * (1103 : Int64)) + (12345 : Int64)) / (1000003 : Int64)) * (1000003 : Int64)) : Int64).toInt32) - ((((((((l3 : Int32).toInt64) * (1103 : Int64)) + (12345 : Int64)) - (((((l3 : Int32).toInt64) * (1103 : Int64)) + (12345 : Int64)) / (1000003 : Int64)) * (1000003 : Int64)) : Int64).toInt32) / (f 68)) * (f 68)), .ref 19, .ref 38], Wd f fl g gl hh v tx)) rfl ?_
  refine WP.call hP_93 hP_46 (as := [.ref 19]) (pc' := 145) (L' := [some (.ref 0), none, some (.int l2), some (.int (((((((l3 : Int32).toInt64) * (1103 : Int64)) + (12345 : Int64)) - (((((l3 : Int32).toInt64) * (1103 : Int64)) + (12345 : Int64)) / (1000003 : Int64)) * (1000003 : Int64)) : Int64).toInt32)), some (.int l4), some (.int l5), some (.int ((((((((l3 : Int32).toInt64) * (1103 : Int64)) + (12345 : Int64)) - (((((l3 : Int32).toInt64) * (1103 : Int64)) + (12345 : Int64)) / (1000003 : Int64)) * (1000003 : Int64)) : Int64).toInt32) - ((((((((l3 : Int32).toInt64) * (1103 : Int64)) + (12345 : Int64)) - (((((l3 : Int32).toInt64) * (1103 : Int64)) + (12345 : Int64)) / (1000003 : Int64)) * (1000003 : Int64)) : Int64).toInt32) / (f 68)) * (f 68))), none]) (st' := [.int ((((((((l3 : Int32).toInt64) * (1103 : Int64)) + (12345 : Int64)) - (((((l3 : Int32).toInt64) * (1103 : Int64)) + (12345 : Int64)) / (1000003 : Int64)) * (1000003 : Int64)) : Int64).toInt32) - ((((((((l3 : Int32).toInt64) * (1103 : Int64)) + (12345 : Int64)) - (((((l3 : Int32).toInt64) * (1103 : Int64)) + (12345 : Int64)) / (1000003 : Int64)) * (1000003 : Int64)) : Int64).toInt32) / (f 68)) * (f 68)), .ref 19, .ref 38]) (w1 := Wd f fl g gl hh v tx) rfl ⟨Nat.le_of_ble_eq_true rfl, Nat.le_of_ble_eq_true rfl⟩ rfl (b_yst_lawInForce_19_0 X (d) f fl g gl hh v tx  _ ?_)
  refine ⟨fun c2 => ?_, fun c2 => ?_⟩
  · have h3 := h1.1 c2
    refine ⟨h3.1, ?_⟩
    have h4 := h3.2
    refine WP.call hP_93 hP_7 (as := [.ref 38, .ref 19, .int ((((((((l3 : Int32).toInt64) * (1103 : Int64)) + (12345 : Int64)) - (((((l3 : Int32).toInt64) * (1103 : Int64)) + (12345 : Int64)) / (1000003 : Int64)) * (1000003 : Int64)) : Int64).toInt32) - ((((((((l3 : Int32).toInt64) * (1103 : Int64)) + (12345 : Int64)) - (((((l3 : Int32).toInt64) * (1103 : Int64)) + (12345 : Int64)) / (1000003 : Int64)) * (1000003 : Int64)) : Int64).toInt32) / (f 68)) * (f 68)), (mm_rf ((hh 25) (f 1228).toNatClampNeg))]) (pc' := 148) (L' := [some (.ref 0), none, some (.int l2), some (.int (((((((l3 : Int32).toInt64) * (1103 : Int64)) + (12345 : Int64)) - (((((l3 : Int32).toInt64) * (1103 : Int64)) + (12345 : Int64)) / (1000003 : Int64)) * (1000003 : Int64)) : Int64).toInt32)), some (.int l4), some (.int l5), some (.int ((((((((l3 : Int32).toInt64) * (1103 : Int64)) + (12345 : Int64)) - (((((l3 : Int32).toInt64) * (1103 : Int64)) + (12345 : Int64)) / (1000003 : Int64)) * (1000003 : Int64)) : Int64).toInt32) - ((((((((l3 : Int32).toInt64) * (1103 : Int64)) + (12345 : Int64)) - (((((l3 : Int32).toInt64) * (1103 : Int64)) + (12345 : Int64)) / (1000003 : Int64)) * (1000003 : Int64)) : Int64).toInt32) / (f 68)) * (f 68))), none]) (st' := []) (w1 := Wd f fl g gl hh v tx) rfl ⟨Nat.le_of_ble_eq_true rfl, Nat.le_of_ble_eq_true rfl⟩ rfl ?_
    exact h4
  · have h5 := h1.2 c2
    refine WP.call hP_93 hP_7 (as := [.ref 38, .ref 19, .int ((((((((l3 : Int32).toInt64) * (1103 : Int64)) + (12345 : Int64)) - (((((l3 : Int32).toInt64) * (1103 : Int64)) + (12345 : Int64)) / (1000003 : Int64)) * (1000003 : Int64)) : Int64).toInt32) - ((((((((l3 : Int32).toInt64) * (1103 : Int64)) + (12345 : Int64)) - (((((l3 : Int32).toInt64) * (1103 : Int64)) + (12345 : Int64)) / (1000003 : Int64)) * (1000003 : Int64)) : Int64).toInt32) / (f 68)) * (f 68)), .null]) (pc' := 148) (L' := [some (.ref 0), none, some (.int l2), some (.int (((((((l3 : Int32).toInt64) * (1103 : Int64)) + (12345 : Int64)) - (((((l3 : Int32).toInt64) * (1103 : Int64)) + (12345 : Int64)) / (1000003 : Int64)) * (1000003 : Int64)) : Int64).toInt32)), some (.int l4), some (.int l5), some (.int ((((((((l3 : Int32).toInt64) * (1103 : Int64)) + (12345 : Int64)) - (((((l3 : Int32).toInt64) * (1103 : Int64)) + (12345 : Int64)) / (1000003 : Int64)) * (1000003 : Int64)) : Int64).toInt32) - ((((((((l3 : Int32).toInt64) * (1103 : Int64)) + (12345 : Int64)) - (((((l3 : Int32).toInt64) * (1103 : Int64)) + (12345 : Int64)) / (1000003 : Int64)) * (1000003 : Int64)) : Int64).toInt32) / (f 68)) * (f 68))), none]) (st' := []) (w1 := Wd f fl g gl hh v tx) rfl ⟨Nat.le_of_ble_eq_true rfl, Nat.le_of_ble_eq_true rfl⟩ rfl ?_
    exact h5

set_option maxRecDepth 20000 in
theorem b_x_months_148 (X : mm_X) (d : Nat) (f : Nat → Int32) (fl : Nat → Int64) (g : Nat → Nat → Int32) (gl : Nat → Nat → Int64) (hh : Nat → Nat → Option Nat) (v : Nat → Value) (tx : mm_W) (l2 : Int32) (l3 : Int32) (l4 : Int32) (l5 : Int32) (l6 : Int32) (s0 : Int32)  (P : Option Value → mm_W → Prop)
    (h : ((s0 = 0) → WP X (d + 1) 93 (186, [some (.ref 0), none, some (.int l2), some (.int l3), some (.int l4), some (.int l5), none, some (.int s0)], [], Wd f fl g gl hh v tx) P) ∧
    ((¬ s0 = 0) → WP X (d) 11 (0, [some (.ref 38), some (.ref 19), none, none], [], Wd f fl g gl hh v tx) (fun rv w2 => WP X (d + 1) 93 (166, [some (.ref 0), none, some (.int l2), some (.int l3), some (.int l4), some (.int l5), some (.int l6), some (.int s0)], rv.toList ++ [], w2) P))) :
    WP X (d + 1) 93 (148, [some (.ref 0), none, some (.int l2), some (.int l3), some (.int l4), some (.int l5), some (.int l6), none], [.int s0], Wd f fl g gl hh v tx) P := by
  refine WP.run hP_93 2 (c' := (152, [some (.ref 0), none, some (.int l2), some (.int l3), some (.int l4), some (.int l5), some (.int l6), some (.int s0)], [.int s0], Wd f fl g gl hh v tx)) rfl ?_
  refine WP.br hP_93 (q := s0 = 0) (t := 186) (f := 155) (L := [some (.ref 0), none, some (.int l2), some (.int l3), some (.int l4), some (.int l5), some (.int l6), some (.int s0)]) (st := []) (w := Wd f fl g gl hh v tx) rfl (fun c1 => ?_) (fun c1 => ?_)
  · have h2 := h.1 c1
    refine WP.clr hP_93 (pc := 186) rfl ?_
    exact h2
  · have h3 := h.2 c1
    refine WP.run hP_93 4 (c' := (163, [some (.ref 0), none, some (.int l2), some (.int l3), some (.int l4), some (.int l5), some (.int l6), some (.int s0)], [.ref 19, .ref 38], Wd f fl g gl hh v tx)) rfl ?_
    refine WP.call hP_93 hP_11 (as := [.ref 38, .ref 19]) (pc' := 166) (L' := [some (.ref 0), none, some (.int l2), some (.int l3), some (.int l4), some (.int l5), some (.int l6), some (.int s0)]) (st' := []) (w1 := Wd f fl g gl hh v tx) rfl ⟨Nat.le_of_ble_eq_true rfl, Nat.le_of_ble_eq_true rfl⟩ rfl ?_
    exact h3

set_option maxRecDepth 20000 in
theorem b_x_months_186 (X : mm_X) (d : Nat) (f : Nat → Int32) (fl : Nat → Int64) (g : Nat → Nat → Int32) (gl : Nat → Nat → Int64) (hh : Nat → Nat → Option Nat) (v : Nat → Value) (tx : mm_W) (l2 : Int32) (l3 : Int32) (l4 : Int32) (l5 : Int32) (l7 : Int32)  (P : Option Value → mm_W → Prop)
    (h : ((¬ l7 = 0) → WP X (d) 93 (203, [some (.ref 0), none, some (.int l2), some (.int l3), some (.int l4), some (.int l5), none, none], [], Wd f fl g gl hh v tx) P) ∧
    ((l7 = 0) → ((((f 1222) < 12) → WP X (d) 93 (64, [some (.ref 0), none, some (.int l2), some (.int l3), some (.int l4), some (.int (l5 + (1 : Int32))), none, none], [], Wd f fl (va_up g 26 (upd (g 26) 0 (((g 26) 0) + (1 : Int32)))) gl hh v tx) P) ∧
      ((¬ ((f 1222) < 12)) → WP X (d) 93 (203, [some (.ref 0), none, some (.int l2), some (.int l3), some (.int l4), some (.int l5), none, none], [], Wd f fl g gl hh v tx) P)))) :
    WP X (d) 93 (186, [some (.ref 0), none, some (.int l2), some (.int l3), some (.int l4), some (.int l5), none, some (.int l7)], [], Wd f fl g gl hh v tx) P := by
  refine WP.run hP_93 1 (c' := (188, [some (.ref 0), none, some (.int l2), some (.int l3), some (.int l4), some (.int l5), none, some (.int l7)], [.int l7], Wd f fl g gl hh v tx)) rfl ?_
  refine WP.br hP_93 (q := ¬ l7 = 0) (t := 203) (f := 191) (L := [some (.ref 0), none, some (.int l2), some (.int l3), some (.int l4), some (.int l5), none, some (.int l7)]) (st := []) (w := Wd f fl g gl hh v tx) rfl (fun c1 => ?_) (fun c1 => ?_)
  · have h2 := h.1 c1
    refine WP.clr hP_93 (pc := 203) rfl ?_
    exact h2
  · have h3 := h.2 (Classical.not_not.mp c1)
    refine WP.run hP_93 4 (c' := (200, [some (.ref 0), none, some (.int l2), some (.int l3), some (.int l4), some (.int l5), none, some (.int l7)], [.int 12, .int (f 1222)], Wd f fl g gl hh v tx)) rfl ?_
    refine WP.br hP_93 (q := (f 1222) < 12) (t := 219) (f := 203) (L := [some (.ref 0), none, some (.int l2), some (.int l3), some (.int l4), some (.int l5), none, some (.int l7)]) (st := []) (w := Wd f fl g gl hh v tx) rfl (fun c4 => ?_) (fun c4 => ?_)
    · have h5 := h3.1 c4
      refine WP.run hP_93 5 (c' := (228, [some (.ref 0), none, some (.int l2), some (.int l3), some (.int l4), some (.int l5), none, none], [.int 0, .ref 26, .int 0, .ref 26], Wd f fl g gl hh v tx)) rfl ?_
      refine WP.of (fun _ _ => Ex.iald hP_93 rfl (Wa_26 _ _ _ _ _ _ _) (by decide)) ?_
      show WP X _ 93 (229, [some (.ref 0), none, some (.int l2), some (.int l3), some (.int l4), some (.int l5), none, none], [.int ((g 26) 0), .int 0, .ref 26], Wd f fl g gl hh v tx) P
      refine WP.run hP_93 2 (c' := (231, [some (.ref 0), none, some (.int l2), some (.int l3), some (.int l4), some (.int l5), none, none], [.int (((g 26) 0) + (1 : Int32)), .int 0, .ref 26], Wd f fl g gl hh v tx)) rfl ?_
      refine WP.of (fun _ _ => Ex.iast hP_93 (w2 := Wd f fl (va_up g 26 (upd (g 26) 0 (((g 26) 0) + (1 : Int32)))) gl hh v tx) rfl (Wa_26 _ _ _ _ _ _ _) (by decide) (Ws_26 _ _ _ _ _ _ _ _)) ?_
      refine WP.run hP_93 2 (c' := (64, [some (.ref 0), none, some (.int l2), some (.int l3), some (.int l4), some (.int (l5 + (1 : Int32))), none, none], [], Wd f fl (va_up g 26 (upd (g 26) 0 (((g 26) 0) + (1 : Int32)))) gl hh v tx)) rfl ?_
      exact h5
    · have h6 := h3.2 c4
      refine WP.clr hP_93 (pc := 203) rfl ?_
      exact h6

set_option maxRecDepth 20000 in
theorem b_x_months_166 (X : mm_X) (d : Nat) (f : Nat → Int32) (fl : Nat → Int64) (g : Nat → Nat → Int32) (gl : Nat → Nat → Int64) (hh : Nat → Nat → Option Nat) (v : Nat → Value) (tx : mm_W) (l2 : Int32) (l3 : Int32) (l4 : Int32) (l5 : Int32) (l6 : Int32) (l7 : Int32)  (P : Option Value → mm_W → Prop)
    (h : (¬ (l6 < 0 ∨ 3 ≤ l6.toNatClampNeg)) ∧ WP X (d) 93 (186, [some (.ref 0), none, some (.int l2), some (.int l3), some (.int (l4 + (1 : Int32))), some (.int l5), none, some (.int l7)], [], Wd f fl (va_up g 23 (upd (g 23) (l6.toNatClampNeg) (f 2440))) gl hh v tx) P) :
    WP X (d) 93 (166, [some (.ref 0), none, some (.int l2), some (.int l3), some (.int l4), some (.int l5), some (.int l6), some (.int l7)], [], Wd f fl g gl hh v tx) P := by
  refine WP.run hP_93 7 (c' := (182, [some (.ref 0), none, some (.int l2), some (.int l3), some (.int l4), some (.int l5), some (.int l6), some (.int l7)], [.int (f 2440), .int l6, .ref 23], Wd f fl g gl hh v tx)) rfl ?_
  refine WP.of (fun _ _ => Ex.iast hP_93 (w2 := Wd f fl (va_up g 23 (upd (g 23) (l6.toNatClampNeg) (f 2440))) gl hh v tx) rfl (Wa_23 _ _ _ _ _ _ _) h.1 (Ws_23 _ _ _ _ _ _ _ _)) ?_
  have h1 := h.2
  refine WP.run hP_93 1 (c' := (186, [some (.ref 0), none, some (.int l2), some (.int l3), some (.int (l4 + (1 : Int32))), some (.int l5), some (.int l6), some (.int l7)], [], Wd f fl (va_up g 23 (upd (g 23) (l6.toNatClampNeg) (f 2440))) gl hh v tx)) rfl ?_
  refine WP.clr hP_93 (pc := 186) rfl ?_
  exact h1

set_option maxRecDepth 20000 in
theorem b_x_months_203 (X : mm_X) (d : Nat) (f : Nat → Int32) (fl : Nat → Int64) (g : Nat → Nat → Int32) (gl : Nat → Nat → Int64) (hh : Nat → Nat → Option Nat) (v : Nat → Value) (tx : mm_W) (l2 : Int32) (l3 : Int32) (l4 : Int32) (l5 : Int32)  (P : Option Value → mm_W → Prop)
    (h : WP X (d) 93 (64, [some (.ref 0), none, some (.int l2), some (.int l3), some (.int l4), some (.int (l5 + (1 : Int32))), none, none], [], Wd (va_up (va_up f 1222 0) 1223 0) fl (va_up g 26 (upd (g 26) 0 (((g 26) 0) + (1 : Int32)))) gl hh v tx) P) :
    WP X (d) 93 (203, [some (.ref 0), none, some (.int l2), some (.int l3), some (.int l4), some (.int l5), none, none], [], Wd f fl g gl hh v tx) P := by
  refine WP.run hP_93 8 (c' := (219, [some (.ref 0), none, some (.int l2), some (.int l3), some (.int l4), some (.int l5), none, none], [], Wd (va_up (va_up f 1222 0) 1223 0) fl g gl hh v tx)) rfl ?_
  refine WP.run hP_93 5 (c' := (228, [some (.ref 0), none, some (.int l2), some (.int l3), some (.int l4), some (.int l5), none, none], [.int 0, .ref 26, .int 0, .ref 26], Wd (va_up (va_up f 1222 0) 1223 0) fl g gl hh v tx)) rfl ?_
  refine WP.of (fun _ _ => Ex.iald hP_93 rfl (Wa_26 _ _ _ _ _ _ _) (by decide)) ?_
  show WP X _ 93 (229, [some (.ref 0), none, some (.int l2), some (.int l3), some (.int l4), some (.int l5), none, none], [.int ((g 26) 0), .int 0, .ref 26], Wd (va_up (va_up f 1222 0) 1223 0) fl g gl hh v tx) P
  refine WP.run hP_93 2 (c' := (231, [some (.ref 0), none, some (.int l2), some (.int l3), some (.int l4), some (.int l5), none, none], [.int (((g 26) 0) + (1 : Int32)), .int 0, .ref 26], Wd (va_up (va_up f 1222 0) 1223 0) fl g gl hh v tx)) rfl ?_
  refine WP.of (fun _ _ => Ex.iast hP_93 (w2 := Wd (va_up (va_up f 1222 0) 1223 0) fl (va_up g 26 (upd (g 26) 0 (((g 26) 0) + (1 : Int32)))) gl hh v tx) rfl (Wa_26 _ _ _ _ _ _ _) (by decide) (Ws_26 _ _ _ _ _ _ _ _)) ?_
  refine WP.run hP_93 2 (c' := (64, [some (.ref 0), none, some (.int l2), some (.int l3), some (.int l4), some (.int (l5 + (1 : Int32))), none, none], [], Wd (va_up (va_up f 1222 0) 1223 0) fl (va_up g 26 (upd (g 26) 0 (((g 26) 0) + (1 : Int32)))) gl hh v tx)) rfl ?_
  exact h

set_option maxRecDepth 20000 in
theorem b_x_drawn_0 (X : mm_X) (d : Nat) (f : Nat → Int32) (fl : Nat → Int64) (g : Nat → Nat → Int32) (gl : Nat → Nat → Int64) (hh : Nat → Nat → Option Nat) (v : Nat → Value) (tx : mm_W) (p0 : Int32) (p1 : Int32)  (P : Option Value → mm_W → Prop)
    (h : ((0 ≤ p0 ∧ p0 < (f 1220)) → ((¬ (p0 < 0 ∨ 3 ≤ p0.toNatClampNeg)) ∧ (((p1 = 0) → P (some (.int (((g 23) p0.toNatClampNeg) / (40 : Int32)))) (Wd f fl g gl hh v tx)) ∧
      ((¬ p1 = 0) → (((p1 = 1) → P (some (.int ((((g 23) p0.toNatClampNeg) / (10 : Int32)) - ((((g 23) p0.toNatClampNeg) / (10 : Int32)) / (4 : Int32)) * (4 : Int32)))) (Wd f fl g gl hh v tx)) ∧
        ((¬ p1 = 1) → (((p1 = 2) → P (some (.int (((g 23) p0.toNatClampNeg) - (((g 23) p0.toNatClampNeg) / (10 : Int32)) * (10 : Int32)))) (Wd f fl g gl hh v tx)) ∧
          ((¬ p1 = 2) → P (some (.int (-1))) (Wd f fl g gl hh v tx))))))))) ∧
    ((¬ (0 ≤ p0 ∧ p0 < (f 1220))) → P (some (.int (-1))) (Wd f fl g gl hh v tx))) :
    WP X (d + 2) 94 (0, [some (.ref 0), some (.int p0), some (.int p1)], [], Wd f fl g gl hh v tx) P := by
  refine WP.run hP_94 4 (c' := (8, [some (.ref 0), some (.int p0), some (.int p1)], [.int (f 1220), .int p0], Wd f fl g gl hh v tx)) rfl ?_
  refine WP.call hP_94 hP_99 (as := [.int p0, .int (f 1220)]) (pc' := 11) (L' := [some (.ref 0), some (.int p0), some (.int p1)]) (st' := []) (w1 := Wd f fl g gl hh v tx) rfl ⟨Nat.le_of_ble_eq_true rfl, Nat.le_of_ble_eq_true rfl⟩ rfl (b_within_m X (d + 1) f fl g gl hh v tx p0 (f 1220) _ ?_)
  refine ⟨fun c1 => ?_, fun c1 => ?_⟩
  · have h2 := h.1 c1
    refine WP.run hP_94 5 (c' := (22, [some (.ref 0), some (.int p0), some (.int p1)], [.int p0, .ref 23], Wd f fl g gl hh v tx)) rfl ?_
    refine WP.of (fun _ _ => Ex.iald hP_94 rfl (Wa_23 _ _ _ _ _ _ _) h2.1) ?_
    have h3 := h2.2
    refine WP.run hP_94 1 (c' := (24, [some (.ref 0), some (.int p0), some (.int p1)], [.int p1, .int ((g 23) p0.toNatClampNeg)], Wd f fl g gl hh v tx)) rfl ?_
    refine WP.call hP_94 hP_113 (as := [.int ((g 23) p0.toNatClampNeg), .int p1]) (pc' := 27) (L' := [some (.ref 0), some (.int p0), some (.int p1)]) (st' := []) (w1 := Wd f fl g gl hh v tx) rfl ⟨Nat.le_of_ble_eq_true rfl, Nat.le_of_ble_eq_true rfl⟩ rfl (b_x_detail_0 X (d) f fl g gl hh v tx ((g 23) p0.toNatClampNeg) p1 _ ?_)
    refine ⟨fun c4 => ?_, fun c4 => ?_⟩
    · have h5 := h3.1 c4
      refine WP.run hP_94 1 (c' := (31, [some (.ref 0), some (.int p0), some (.int p1)], [.int (((g 23) p0.toNatClampNeg) / (40 : Int32))], Wd f fl g gl hh v tx)) rfl ?_
      exact WP.retI hP_94 rfl rfl h5
    · have h6 := h3.2 c4
      refine ⟨fun c7 => ?_, fun c7 => ?_⟩
      · have h8 := h6.1 c7
        refine WP.run hP_94 1 (c' := (31, [some (.ref 0), some (.int p0), some (.int p1)], [.int ((((g 23) p0.toNatClampNeg) / (10 : Int32)) - ((((g 23) p0.toNatClampNeg) / (10 : Int32)) / (4 : Int32)) * (4 : Int32))], Wd f fl g gl hh v tx)) rfl ?_
        exact WP.retI hP_94 rfl rfl h8
      · have h9 := h6.2 c7
        refine ⟨fun c10 => ?_, fun c10 => ?_⟩
        · have h11 := h9.1 c10
          refine WP.run hP_94 1 (c' := (31, [some (.ref 0), some (.int p0), some (.int p1)], [.int (((g 23) p0.toNatClampNeg) - (((g 23) p0.toNatClampNeg) / (10 : Int32)) * (10 : Int32))], Wd f fl g gl hh v tx)) rfl ?_
          exact WP.retI hP_94 rfl rfl h11
        · have h12 := h9.2 c10
          refine WP.run hP_94 1 (c' := (31, [some (.ref 0), some (.int p0), some (.int p1)], [.int (-1)], Wd f fl g gl hh v tx)) rfl ?_
          exact WP.retI hP_94 rfl rfl h12
  · have h13 := h.2 c1
    refine WP.run hP_94 2 (c' := (31, [none, none, none], [.int (-1)], Wd f fl g gl hh v tx)) rfl ?_
    exact WP.retI hP_94 rfl rfl h13

set_option maxRecDepth 20000 in
theorem b_x_count_0 (X : mm_X) (d : Nat) (f : Nat → Int32) (fl : Nat → Int64) (g : Nat → Nat → Int32) (gl : Nat → Nat → Int64) (hh : Nat → Nat → Option Nat) (v : Nat → Value) (tx : mm_W) (p0 : Int32)  (P : Option Value → mm_W → Prop)
    (h : ((p0 = 0) → P (some (.int (f 64))) (Wd f fl g gl hh v tx)) ∧
    ((¬ p0 = 0) → (((p0 = 1) → P (some (.int (f 68))) (Wd f fl g gl hh v tx)) ∧
      ((¬ p0 = 1) → (((p0 = 2) → P (some (.int (f 70))) (Wd f fl g gl hh v tx)) ∧
        ((¬ p0 = 2) → (((p0 = 3) → P (some (.int (f 72))) (Wd f fl g gl hh v tx)) ∧
          ((¬ p0 = 3) → (((p0 = 4) → P (some (.int (f 74))) (Wd f fl g gl hh v tx)) ∧
            ((¬ p0 = 4) → (((p0 = 5) → P (some (.int (f 78))) (Wd f fl g gl hh v tx)) ∧
              ((¬ p0 = 5) → (((p0 = 6) → P (some (.int (f 6))) (Wd f fl g gl hh v tx)) ∧
                ((¬ p0 = 6) → (((p0 = 7) → P (some (.int ((g 55) 1))) (Wd f fl g gl hh v tx)) ∧
                  ((¬ p0 = 7) → (((p0 = 8) → P (some (.int ((g 55) 2))) (Wd f fl g gl hh v tx)) ∧
                    ((¬ p0 = 8) → (((p0 = 9) → P (some (.int ((g 55) 3))) (Wd f fl g gl hh v tx)) ∧
                      ((¬ p0 = 9) → (((p0 = 10) → P (some (.int ((g 55) 5))) (Wd f fl g gl hh v tx)) ∧
                        ((¬ p0 = 10) → (((p0 = 11) → P (some (.int ((g 55) 6))) (Wd f fl g gl hh v tx)) ∧
                          ((¬ p0 = 11) → (((p0 = 12) → P (some (.int (f 76))) (Wd f fl g gl hh v tx)) ∧
                            ((¬ p0 = 12) → (((p0 = 13) → P (some (.int ((g 8) 0))) (Wd f fl g gl hh v tx)) ∧
                              ((¬ p0 = 13) → (((p0 = 14) → P (some (.int ((g 8) 1))) (Wd f fl g gl hh v tx)) ∧
                                ((¬ p0 = 14) → (((p0 = 15) → P (some (.int ((g 8) 2))) (Wd f fl g gl hh v tx)) ∧
                                  ((¬ p0 = 15) → P (some (.int (-1))) (Wd f fl g gl hh v tx))))))))))))))))))))))))))))))))) :
    WP X (d) 97 (0, [some (.ref 0), some (.int p0)], [], Wd f fl g gl hh v tx) P := by
  refine WP.run hP_97 1 (c' := (1, [some (.ref 0), some (.int p0)], [.int p0], Wd f fl g gl hh v tx)) rfl ?_
  refine WP.run hP_97 1 (c' := (mm_sw p0 0 [80, 88, 96, 104, 112, 120, 128, 133, 140, 147, 154, 161, 169, 177, 187, 197] 207, [some (.ref 0), some (.int p0)], [], Wd f fl g gl hh v tx)) rfl ?_
  refine WP.sw (lo' := 1) rfl (fun c1 => ?_) (fun c1 => ?_)
  · have h2 := h.1 c1
    refine WP.run hP_97 3 (c' := (87, [some (.ref 0), none], [.int (f 64)], Wd f fl g gl hh v tx)) rfl ?_
    exact WP.retI hP_97 rfl rfl h2
  · have h3 := h.2 c1
    refine WP.sw (lo' := 2) rfl (fun c4 => ?_) (fun c4 => ?_)
    · have h5 := h3.1 c4
      refine WP.run hP_97 3 (c' := (95, [some (.ref 0), none], [.int (f 68)], Wd f fl g gl hh v tx)) rfl ?_
      exact WP.retI hP_97 rfl rfl h5
    · have h6 := h3.2 c4
      refine WP.sw (lo' := 3) rfl (fun c7 => ?_) (fun c7 => ?_)
      · have h8 := h6.1 c7
        refine WP.run hP_97 3 (c' := (103, [some (.ref 0), none], [.int (f 70)], Wd f fl g gl hh v tx)) rfl ?_
        exact WP.retI hP_97 rfl rfl h8
      · have h9 := h6.2 c7
        refine WP.sw (lo' := 4) rfl (fun c10 => ?_) (fun c10 => ?_)
        · have h11 := h9.1 c10
          refine WP.run hP_97 3 (c' := (111, [some (.ref 0), none], [.int (f 72)], Wd f fl g gl hh v tx)) rfl ?_
          exact WP.retI hP_97 rfl rfl h11
        · have h12 := h9.2 c10
          refine WP.sw (lo' := 5) rfl (fun c13 => ?_) (fun c13 => ?_)
          · have h14 := h12.1 c13
            refine WP.run hP_97 3 (c' := (119, [some (.ref 0), none], [.int (f 74)], Wd f fl g gl hh v tx)) rfl ?_
            exact WP.retI hP_97 rfl rfl h14
          · have h15 := h12.2 c13
            refine WP.sw (lo' := 6) rfl (fun c16 => ?_) (fun c16 => ?_)
            · have h17 := h15.1 c16
              refine WP.run hP_97 3 (c' := (127, [some (.ref 0), none], [.int (f 78)], Wd f fl g gl hh v tx)) rfl ?_
              exact WP.retI hP_97 rfl rfl h17
            · have h18 := h15.2 c16
              refine WP.sw (lo' := 7) rfl (fun c19 => ?_) (fun c19 => ?_)
              · have h20 := h18.1 c19
                refine WP.run hP_97 2 (c' := (132, [some (.ref 0), none], [.int (f 6)], Wd f fl g gl hh v tx)) rfl ?_
                exact WP.retI hP_97 rfl rfl h20
              · have h21 := h18.2 c19
                refine WP.sw (lo' := 8) rfl (fun c22 => ?_) (fun c22 => ?_)
                · have h23 := h21.1 c22
                  refine WP.run hP_97 3 (c' := (138, [some (.ref 0), none], [.int 1, .ref 55], Wd f fl g gl hh v tx)) rfl ?_
                  refine WP.of (fun _ _ => Ex.iald hP_97 rfl (Wa_55 _ _ _ _ _ _ _) (by decide)) ?_
                  show WP X _ 97 (139, [some (.ref 0), none], [.int ((g 55) 1)], Wd f fl g gl hh v tx) P
                  exact WP.retI hP_97 rfl rfl h23
                · have h24 := h21.2 c22
                  refine WP.sw (lo' := 9) rfl (fun c25 => ?_) (fun c25 => ?_)
                  · have h26 := h24.1 c25
                    refine WP.run hP_97 3 (c' := (145, [some (.ref 0), none], [.int 2, .ref 55], Wd f fl g gl hh v tx)) rfl ?_
                    refine WP.of (fun _ _ => Ex.iald hP_97 rfl (Wa_55 _ _ _ _ _ _ _) (by decide)) ?_
                    show WP X _ 97 (146, [some (.ref 0), none], [.int ((g 55) 2)], Wd f fl g gl hh v tx) P
                    exact WP.retI hP_97 rfl rfl h26
                  · have h27 := h24.2 c25
                    refine WP.sw (lo' := 10) rfl (fun c28 => ?_) (fun c28 => ?_)
                    · have h29 := h27.1 c28
                      refine WP.run hP_97 3 (c' := (152, [some (.ref 0), none], [.int 3, .ref 55], Wd f fl g gl hh v tx)) rfl ?_
                      refine WP.of (fun _ _ => Ex.iald hP_97 rfl (Wa_55 _ _ _ _ _ _ _) (by decide)) ?_
                      show WP X _ 97 (153, [some (.ref 0), none], [.int ((g 55) 3)], Wd f fl g gl hh v tx) P
                      exact WP.retI hP_97 rfl rfl h29
                    · have h30 := h27.2 c28
                      refine WP.sw (lo' := 11) rfl (fun c31 => ?_) (fun c31 => ?_)
                      · have h32 := h30.1 c31
                        refine WP.run hP_97 3 (c' := (159, [some (.ref 0), none], [.int 5, .ref 55], Wd f fl g gl hh v tx)) rfl ?_
                        refine WP.of (fun _ _ => Ex.iald hP_97 rfl (Wa_55 _ _ _ _ _ _ _) (by decide)) ?_
                        show WP X _ 97 (160, [some (.ref 0), none], [.int ((g 55) 5)], Wd f fl g gl hh v tx) P
                        exact WP.retI hP_97 rfl rfl h32
                      · have h33 := h30.2 c31
                        refine WP.sw (lo' := 12) rfl (fun c34 => ?_) (fun c34 => ?_)
                        · have h35 := h33.1 c34
                          refine WP.run hP_97 3 (c' := (167, [some (.ref 0), none], [.int 6, .ref 55], Wd f fl g gl hh v tx)) rfl ?_
                          refine WP.of (fun _ _ => Ex.iald hP_97 rfl (Wa_55 _ _ _ _ _ _ _) (by decide)) ?_
                          show WP X _ 97 (168, [some (.ref 0), none], [.int ((g 55) 6)], Wd f fl g gl hh v tx) P
                          exact WP.retI hP_97 rfl rfl h35
                        · have h36 := h33.2 c34
                          refine WP.sw (lo' := 13) rfl (fun c37 => ?_) (fun c37 => ?_)
                          · have h38 := h36.1 c37
                            refine WP.run hP_97 3 (c' := (176, [some (.ref 0), none], [.int (f 76)], Wd f fl g gl hh v tx)) rfl ?_
                            exact WP.retI hP_97 rfl rfl h38
                          · have h39 := h36.2 c37
                            refine WP.sw (lo' := 14) rfl (fun c40 => ?_) (fun c40 => ?_)
                            · have h41 := h39.1 c40
                              refine WP.run hP_97 4 (c' := (185, [some (.ref 0), none], [.int 0, .ref 8], Wd f fl g gl hh v tx)) rfl ?_
                              refine WP.of (fun _ _ => Ex.iald hP_97 rfl (Wa_8 _ _ _ _ _ _ _) (by decide)) ?_
                              show WP X _ 97 (186, [some (.ref 0), none], [.int ((g 8) 0)], Wd f fl g gl hh v tx) P
                              exact WP.retI hP_97 rfl rfl h41
                            · have h42 := h39.2 c40
                              refine WP.sw (lo' := 15) rfl (fun c43 => ?_) (fun c43 => ?_)
                              · have h44 := h42.1 c43
                                refine WP.run hP_97 4 (c' := (195, [some (.ref 0), none], [.int 1, .ref 8], Wd f fl g gl hh v tx)) rfl ?_
                                refine WP.of (fun _ _ => Ex.iald hP_97 rfl (Wa_8 _ _ _ _ _ _ _) (by decide)) ?_
                                show WP X _ 97 (196, [some (.ref 0), none], [.int ((g 8) 1)], Wd f fl g gl hh v tx) P
                                exact WP.retI hP_97 rfl rfl h44
                              · have h45 := h42.2 c43
                                refine WP.sw (lo' := 16) rfl (fun c46 => ?_) (fun c46 => ?_)
                                · have h47 := h45.1 c46
                                  refine WP.run hP_97 4 (c' := (205, [some (.ref 0), none], [.int 2, .ref 8], Wd f fl g gl hh v tx)) rfl ?_
                                  refine WP.of (fun _ _ => Ex.iald hP_97 rfl (Wa_8 _ _ _ _ _ _ _) (by decide)) ?_
                                  show WP X _ 97 (206, [some (.ref 0), none], [.int ((g 8) 2)], Wd f fl g gl hh v tx) P
                                  exact WP.retI hP_97 rfl rfl h47
                                · have h48 := h45.2 c46
                                  show WP X _ 97 (207, [some (.ref 0), some (.int p0)], [], Wd f fl g gl hh v tx) P
                                  refine WP.run hP_97 1 (c' := (208, [none, none], [.int (-1)], Wd f fl g gl hh v tx)) rfl ?_
                                  exact WP.retI hP_97 rfl rfl h48

set_option maxRecDepth 20000 in
theorem b_x_status_0 (X : mm_X) (d : Nat) (f : Nat → Int32) (fl : Nat → Int64) (g : Nat → Nat → Int32) (gl : Nat → Nat → Int64) (hh : Nat → Nat → Option Nat) (v : Nat → Value) (tx : mm_W)   (P : Option Value → mm_W → Prop)
    (h : P (some (.int (f 18))) (Wd f fl g gl hh v tx)) :
    WP X (d) 98 (0, [some (.ref 0)], [], Wd f fl g gl hh v tx) P := by
  refine WP.run hP_98 2 (c' := (4, [some (.ref 0)], [.int (f 18)], Wd f fl g gl hh v tx)) rfl ?_
  exact WP.retI hP_98 rfl rfl h
