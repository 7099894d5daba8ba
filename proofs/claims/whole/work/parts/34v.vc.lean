set_option maxRecDepth 20000 in
theorem b_yst_add_1_0 (X : mm_X) (d : Nat) (f : Nat → Int32) (fl : Nat → Int64) (g : Nat → Nat → Int32) (gl : Nat → Nat → Int64) (hh : Nat → Nat → Option Nat) (v : Nat → Value) (tx : mm_W) (p0 : Int32)  (P : Option Value → mm_W → Prop)
    (h : P none (Wd (va_up (va_up f 71 ((((f 71) <<< ((2 : Int32) &&& (31 : Int32))) : Int32) ||| p0)) 70 ((f 70) + (1 : Int32))) fl g gl hh v tx)) :
    WP X (d) 49 (0, [some (.ref 1), some (.int p0)], [], Wd f fl g gl hh v tx) P := by
  refine WP.run hP_49 14 (c' := (22, [some (.ref 1), some (.int p0)], [], Wd (va_up (va_up f 71 ((((f 71) <<< ((2 : Int32) &&& (31 : Int32))) : Int32) ||| p0)) 70 ((f 70) + (1 : Int32))) fl g gl hh v tx)) rfl ?_
  exact WP.ret hP_49 (r := none) (w' := Wd (va_up (va_up f 71 ((((f 71) <<< ((2 : Int32) &&& (31 : Int32))) : Int32) ||| p0)) 70 ((f 70) + (1 : Int32))) fl g gl hh v tx) rfl h

set_option maxRecDepth 20000 in
theorem b_yst_dropLast_1_0 (X : mm_X) (d : Nat) (f : Nat → Int32) (fl : Nat → Int64) (g : Nat → Nat → Int32) (gl : Nat → Nat → Int64) (hh : Nat → Nat → Option Nat) (v : Nat → Value) (tx : mm_W)   (P : Option Value → mm_W → Prop)
    (h : P none (Wd (va_up (va_up f 71 (((f 71) >>> ((2 : Int32) &&& (31 : Int32))) : Int32)) 70 ((f 70) - (1 : Int32))) fl g gl hh v tx)) :
    WP X (d) 50 (0, [some (.ref 1)], [], Wd f fl g gl hh v tx) P := by
  refine WP.run hP_50 12 (c' := (20, [some (.ref 1)], [], Wd (va_up (va_up f 71 (((f 71) >>> ((2 : Int32) &&& (31 : Int32))) : Int32)) 70 ((f 70) - (1 : Int32))) fl g gl hh v tx)) rfl ?_
  exact WP.ret hP_50 (r := none) (w' := Wd (va_up (va_up f 71 (((f 71) >>> ((2 : Int32) &&& (31 : Int32))) : Int32)) 70 ((f 70) - (1 : Int32))) fl g gl hh v tx) rfl h

set_option maxRecDepth 20000 in
theorem b_yst_remember_1_0 (X : mm_X) (d : Nat) (f : Nat → Int32) (fl : Nat → Int64) (g : Nat → Nat → Int32) (gl : Nat → Nat → Int64) (hh : Nat → Nat → Option Nat) (v : Nat → Value) (tx : mm_W) (p0 : Int32)  (P : Option Value → mm_W → Prop)
    (h : (((f 78) < 16) → ((¬ ((f 78) < 0 ∨ 16 ≤ (f 78).toNatClampNeg)) ∧ P none (Wd (va_up f 78 ((f 78) + (1 : Int32))) fl (va_up g 9 (upd (g 9) ((f 78).toNatClampNeg) p0)) gl hh v tx))) ∧
    ((¬ ((f 78) < 16)) → P none (Wd (va_up f 78 16) fl (va_up (va_up g 9 (va_cpy (g 9) (g 9) 1 0 15)) 9 (upd (va_cpy (g 9) (g 9) 1 0 15) 15 p0)) gl hh v tx))) :
    WP X (d) 51 (0, [some (.ref 1), some (.int p0)], [], Wd f fl g gl hh v tx) P := by
  refine WP.run hP_51 3 (c' := (6, [some (.ref 1), some (.int p0)], [.int 16, .int (f 78)], Wd f fl g gl hh v tx)) rfl ?_
  refine WP.br hP_51 (q := (f 78) < 16) (t := 30) (f := 9) (L := [some (.ref 1), some (.int p0)]) (st := []) (w := Wd f fl g gl hh v tx) rfl (fun c1 => ?_) (fun c1 => ?_)
  · have h2 := h.1 c1
    refine WP.run hP_51 5 (c' := (39, [some (.ref 1), some (.int p0)], [.int p0, .int (f 78), .ref 9], Wd f fl g gl hh v tx)) rfl ?_
    refine WP.of (fun _ _ => Ex.iast hP_51 (w2 := Wd f fl (va_up g 9 (upd (g 9) ((f 78).toNatClampNeg) p0)) gl hh v tx) rfl (Wa_9 _ _ _ _ _ _ _) h2.1 (Ws_9 _ _ _ _ _ _ _ _)) ?_
    have h3 := h2.2
    refine WP.run hP_51 6 (c' := (50, [some (.ref 1), some (.int p0)], [], Wd (va_up f 78 ((f 78) + (1 : Int32))) fl (va_up g 9 (upd (g 9) ((f 78).toNatClampNeg) p0)) gl hh v tx)) rfl ?_
    exact WP.ret hP_51 (r := none) (w' := Wd (va_up f 78 ((f 78) + (1 : Int32))) fl (va_up g 9 (upd (g 9) ((f 78).toNatClampNeg) p0)) gl hh v tx) rfl h3
  · have h4 := h.2 c1
    refine WP.run hP_51 7 (c' := (21, [some (.ref 1), some (.int p0)], [.int 15, .int 0, .ref 9, .int 1, .ref 9], Wd f fl g gl hh v tx)) rfl ?_
    refine WP.of (fun _ _ => Ex.acopy hP_51 (w2 := Wd f fl (va_up g 9 (va_cpy (g 9) (g 9) 1 0 15)) gl hh v tx) rfl rfl (Wa_9 _ _ _ _ _ _ _) (Wa_9 _ _ _ _ _ _ _) (by decide) (Ws_9 _ _ _ _ _ _ _ _)) ?_
    refine WP.run hP_51 8 (c' := (39, [some (.ref 1), some (.int p0)], [.int p0, .int 15, .ref 9], Wd (va_up f 78 15) fl (va_up g 9 (va_cpy (g 9) (g 9) 1 0 15)) gl hh v tx)) rfl ?_
    refine WP.of (fun _ _ => Ex.iast hP_51 (w2 := Wd (va_up f 78 15) fl (va_up (va_up g 9 (va_cpy (g 9) (g 9) 1 0 15)) 9 (upd (va_cpy (g 9) (g 9) 1 0 15) 15 p0)) gl hh v tx) rfl (Wa_9 _ _ _ _ _ _ _) (by decide) (Ws_9 _ _ _ _ _ _ _ _)) ?_
    refine WP.run hP_51 6 (c' := (50, [some (.ref 1), some (.int p0)], [], Wd (va_up f 78 16) fl (va_up (va_up g 9 (va_cpy (g 9) (g 9) 1 0 15)) 9 (upd (va_cpy (g 9) (g 9) 1 0 15) 15 p0)) gl hh v tx)) rfl ?_
    exact WP.ret hP_51 (r := none) (w' := Wd (va_up f 78 16) fl (va_up (va_up g 9 (va_cpy (g 9) (g 9) 1 0 15)) 9 (upd (va_cpy (g 9) (g 9) 1 0 15) 15 p0)) gl hh v tx) rfl h4

set_option maxRecDepth 20000 in
theorem b_yst_unwind_1_0 (X : mm_X) (d : Nat) (f : Nat → Int32) (fl : Nat → Int64) (g : Nat → Nat → Int32) (gl : Nat → Nat → Int64) (hh : Nat → Nat → Option Nat) (v : Nat → Value) (tx : mm_W)   (P : Option Value → mm_W → Prop)
    (h : ((0 < (f 78)) → ((¬ (((f 78) - (1 : Int32)) < 0 ∨ 16 ≤ ((f 78) - (1 : Int32)).toNatClampNeg)) ∧ ((¬ (((f 78) - (1 : Int32)) < 0 ∨ 16 ≤ ((f 78) - (1 : Int32)).toNatClampNeg)) ∧ ((((((g 9) ((f 78) - (1 : Int32)).toNatClampNeg) &&& (3 : Int32)) = 0) → P (some (.int (((g 9) ((f 78) - (1 : Int32)).toNatClampNeg) &&& (3 : Int32)))) (Wd (va_up (va_up (va_up f 78 ((f 78) - (1 : Int32))) 71 (((f 71) >>> ((2 : Int32) &&& (31 : Int32))) : Int32)) 70 ((f 70) - (1 : Int32))) fl g gl hh v tx)) ∧
      ((¬ (((g 9) ((f 78) - (1 : Int32)).toNatClampNeg) &&& (3 : Int32)) = 0) → ((((((g 9) ((f 78) - (1 : Int32)).toNatClampNeg) &&& (3 : Int32)) = 1) → P (some (.int (((g 9) ((f 78) - (1 : Int32)).toNatClampNeg) &&& (3 : Int32)))) (Wd (va_up (va_up (va_up f 78 ((f 78) - (1 : Int32))) 71 ((((f 71) <<< ((2 : Int32) &&& (31 : Int32))) : Int32) ||| ((((g 9) ((f 78) - (1 : Int32)).toNatClampNeg) >>> ((2 : Int32) &&& (31 : Int32))) : Int32))) 70 ((f 70) + (1 : Int32))) fl g gl hh v tx)) ∧
        ((¬ (((g 9) ((f 78) - (1 : Int32)).toNatClampNeg) &&& (3 : Int32)) = 1) → ((((((g 9) ((f 78) - (1 : Int32)).toNatClampNeg) &&& (3 : Int32)) = 2) → (((0 ≤ (((((g 9) ((f 78) - (1 : Int32)).toNatClampNeg) >>> ((2 : Int32) &&& (31 : Int32))) : Int32) &&& (3 : Int32)) ∧ (((((g 9) ((f 78) - (1 : Int32)).toNatClampNeg) >>> ((2 : Int32) &&& (31 : Int32))) : Int32) &&& (3 : Int32)) < (f 68)) → ((¬ ((((((g 9) ((f 78) - (1 : Int32)).toNatClampNeg) >>> ((2 : Int32) &&& (31 : Int32))) : Int32) &&& (3 : Int32)) < 0 ∨ 3 ≤ (((((g 9) ((f 78) - (1 : Int32)).toNatClampNeg) >>> ((2 : Int32) &&& (31 : Int32))) : Int32) &&& (3 : Int32)).toNatClampNeg)) ∧ P (some (.int (((g 9) ((f 78) - (1 : Int32)).toNatClampNeg) &&& (3 : Int32)))) (Wd (va_up f 78 ((f 78) - (1 : Int32))) fl (va_up g 5 (upd (g 5) ((((((g 9) ((f 78) - (1 : Int32)).toNatClampNeg) >>> ((2 : Int32) &&& (31 : Int32))) : Int32) &&& (3 : Int32)).toNatClampNeg) ((((((g 9) ((f 78) - (1 : Int32)).toNatClampNeg) >>> ((2 : Int32) &&& (31 : Int32))) : Int32) >>> ((2 : Int32) &&& (31 : Int32))) : Int32))) gl hh v tx))) ∧
            ((¬ (0 ≤ (((((g 9) ((f 78) - (1 : Int32)).toNatClampNeg) >>> ((2 : Int32) &&& (31 : Int32))) : Int32) &&& (3 : Int32)) ∧ (((((g 9) ((f 78) - (1 : Int32)).toNatClampNeg) >>> ((2 : Int32) &&& (31 : Int32))) : Int32) &&& (3 : Int32)) < (f 68))) → P (some (.int (((g 9) ((f 78) - (1 : Int32)).toNatClampNeg) &&& (3 : Int32)))) (Wd (va_up f 78 ((f 78) - (1 : Int32))) fl g gl hh v tx)))) ∧
          ((¬ (((g 9) ((f 78) - (1 : Int32)).toNatClampNeg) &&& (3 : Int32)) = 2) → P (some (.int (((g 9) ((f 78) - (1 : Int32)).toNatClampNeg) &&& (3 : Int32)))) (Wd (va_up f 78 ((f 78) - (1 : Int32))) fl (va_up g 8 (upd (g 8) 0 (((g 8) 0) - (1 : Int32)))) gl hh v tx)))))))))) ∧
    ((¬ (0 < (f 78))) → P (some (.int (-3))) (Wd f fl g gl hh v tx))) :
    WP X (d + 1) 52 (0, [some (.ref 1), none, none], [], Wd f fl g gl hh v tx) P := by
  refine WP.run hP_52 2 (c' := (4, [some (.ref 1), none, none], [.int (f 78)], Wd f fl g gl hh v tx)) rfl ?_
  refine WP.br hP_52 (q := 0 < (f 78)) (t := 10) (f := 7) (L := [some (.ref 1), none, none]) (st := []) (w := Wd f fl g gl hh v tx) rfl (fun c1 => ?_) (fun c1 => ?_)
  · have h2 := h.1 c1
    refine WP.run hP_52 10 (c' := (28, [some (.ref 1), none, none], [.int ((f 78) - (1 : Int32)), .ref 9], Wd (va_up f 78 ((f 78) - (1 : Int32))) fl g gl hh v tx)) rfl ?_
    refine WP.of (fun _ _ => Ex.iald hP_52 rfl (Wa_9 _ _ _ _ _ _ _) h2.1) ?_
    have h3 := h2.2
    refine WP.run hP_52 7 (c' := (40, [some (.ref 1), some (.int (((g 9) ((f 78) - (1 : Int32)).toNatClampNeg) &&& (3 : Int32))), none], [.int ((f 78) - (1 : Int32)), .ref 9], Wd (va_up f 78 ((f 78) - (1 : Int32))) fl g gl hh v tx)) rfl ?_
    refine WP.of (fun _ _ => Ex.iald hP_52 rfl (Wa_9 _ _ _ _ _ _ _) h3.1) ?_
    have h4 := h3.2
    refine WP.run hP_52 4 (c' := (45, [some (.ref 1), some (.int (((g 9) ((f 78) - (1 : Int32)).toNatClampNeg) &&& (3 : Int32))), some (.int ((((g 9) ((f 78) - (1 : Int32)).toNatClampNeg) >>> ((2 : Int32) &&& (31 : Int32))) : Int32))], [.int (((g 9) ((f 78) - (1 : Int32)).toNatClampNeg) &&& (3 : Int32))], Wd (va_up f 78 ((f 78) - (1 : Int32))) fl g gl hh v tx)) rfl ?_
    refine WP.run hP_52 1 (c' := (mm_sw (((g 9) ((f 78) - (1 : Int32)).toNatClampNeg) &&& (3 : Int32)) 0 [72, 79, 87] 114, [some (.ref 1), some (.int (((g 9) ((f 78) - (1 : Int32)).toNatClampNeg) &&& (3 : Int32))), some (.int ((((g 9) ((f 78) - (1 : Int32)).toNatClampNeg) >>> ((2 : Int32) &&& (31 : Int32))) : Int32))], [], Wd (va_up f 78 ((f 78) - (1 : Int32))) fl g gl hh v tx)) rfl ?_
    refine WP.sw (lo' := 1) rfl (fun c5 => ?_) (fun c5 => ?_)
    · have h6 := h4.1 c5
      refine WP.run hP_52 1 (c' := (73, [some (.ref 1), some (.int (((g 9) ((f 78) - (1 : Int32)).toNatClampNeg) &&& (3 : Int32))), none], [.ref 1], Wd (va_up f 78 ((f 78) - (1 : Int32))) fl g gl hh v tx)) rfl ?_
      refine WP.call hP_52 hP_50 (as := [.ref 1]) (pc' := 76) (L' := [some (.ref 1), some (.int (((g 9) ((f 78) - (1 : Int32)).toNatClampNeg) &&& (3 : Int32))), none]) (st' := []) (w1 := Wd (va_up f 78 ((f 78) - (1 : Int32))) fl g gl hh v tx) rfl ⟨Nat.le_of_ble_eq_true rfl, Nat.le_of_ble_eq_true rfl⟩ rfl (b_yst_dropLast_1_0 X (d) (va_up f 78 ((f 78) - (1 : Int32))) fl g gl hh v tx  _ ?_)
      refine WP.run hP_52 2 (c' := (125, [none, some (.int (((g 9) ((f 78) - (1 : Int32)).toNatClampNeg) &&& (3 : Int32))), none], [.int (((g 9) ((f 78) - (1 : Int32)).toNatClampNeg) &&& (3 : Int32))], Wd (va_up (va_up (va_up f 78 ((f 78) - (1 : Int32))) 71 (((f 71) >>> ((2 : Int32) &&& (31 : Int32))) : Int32)) 70 ((f 70) - (1 : Int32))) fl g gl hh v tx)) rfl ?_
      exact WP.retI hP_52 rfl rfl h6
    · have h7 := h4.2 c5
      refine WP.sw (lo' := 2) rfl (fun c8 => ?_) (fun c8 => ?_)
      · have h9 := h7.1 c8
        refine WP.run hP_52 2 (c' := (81, [some (.ref 1), some (.int (((g 9) ((f 78) - (1 : Int32)).toNatClampNeg) &&& (3 : Int32))), some (.int ((((g 9) ((f 78) - (1 : Int32)).toNatClampNeg) >>> ((2 : Int32) &&& (31 : Int32))) : Int32))], [.int ((((g 9) ((f 78) - (1 : Int32)).toNatClampNeg) >>> ((2 : Int32) &&& (31 : Int32))) : Int32), .ref 1], Wd (va_up f 78 ((f 78) - (1 : Int32))) fl g gl hh v tx)) rfl ?_
        refine WP.call hP_52 hP_49 (as := [.ref 1, .int ((((g 9) ((f 78) - (1 : Int32)).toNatClampNeg) >>> ((2 : Int32) &&& (31 : Int32))) : Int32)]) (pc' := 84) (L' := [some (.ref 1), some (.int (((g 9) ((f 78) - (1 : Int32)).toNatClampNeg) &&& (3 : Int32))), some (.int ((((g 9) ((f 78) - (1 : Int32)).toNatClampNeg) >>> ((2 : Int32) &&& (31 : Int32))) : Int32))]) (st' := []) (w1 := Wd (va_up f 78 ((f 78) - (1 : Int32))) fl g gl hh v tx) rfl ⟨Nat.le_of_ble_eq_true rfl, Nat.le_of_ble_eq_true rfl⟩ rfl (b_yst_add_1_0 X (d) (va_up f 78 ((f 78) - (1 : Int32))) fl g gl hh v tx ((((g 9) ((f 78) - (1 : Int32)).toNatClampNeg) >>> ((2 : Int32) &&& (31 : Int32))) : Int32) _ ?_)
        refine WP.run hP_52 2 (c' := (125, [none, some (.int (((g 9) ((f 78) - (1 : Int32)).toNatClampNeg) &&& (3 : Int32))), none], [.int (((g 9) ((f 78) - (1 : Int32)).toNatClampNeg) &&& (3 : Int32))], Wd (va_up (va_up (va_up f 78 ((f 78) - (1 : Int32))) 71 ((((f 71) <<< ((2 : Int32) &&& (31 : Int32))) : Int32) ||| ((((g 9) ((f 78) - (1 : Int32)).toNatClampNeg) >>> ((2 : Int32) &&& (31 : Int32))) : Int32))) 70 ((f 70) + (1 : Int32))) fl g gl hh v tx)) rfl ?_
        exact WP.retI hP_52 rfl rfl h9
      · have h10 := h7.2 c8
        refine WP.sw (lo' := 3) rfl (fun c11 => ?_) (fun c11 => ?_)
        · have h12 := h10.1 c11
          refine WP.run hP_52 5 (c' := (94, [some (.ref 1), some (.int (((g 9) ((f 78) - (1 : Int32)).toNatClampNeg) &&& (3 : Int32))), some (.int ((((g 9) ((f 78) - (1 : Int32)).toNatClampNeg) >>> ((2 : Int32) &&& (31 : Int32))) : Int32))], [.int (f 68), .int (((((g 9) ((f 78) - (1 : Int32)).toNatClampNeg) >>> ((2 : Int32) &&& (31 : Int32))) : Int32) &&& (3 : Int32))], Wd (va_up f 78 ((f 78) - (1 : Int32))) fl g gl hh v tx)) rfl ?_
          refine WP.call hP_52 hP_99 (as := [.int (((((g 9) ((f 78) - (1 : Int32)).toNatClampNeg) >>> ((2 : Int32) &&& (31 : Int32))) : Int32) &&& (3 : Int32)), .int (f 68)]) (pc' := 97) (L' := [some (.ref 1), some (.int (((g 9) ((f 78) - (1 : Int32)).toNatClampNeg) &&& (3 : Int32))), some (.int ((((g 9) ((f 78) - (1 : Int32)).toNatClampNeg) >>> ((2 : Int32) &&& (31 : Int32))) : Int32))]) (st' := []) (w1 := Wd (va_up f 78 ((f 78) - (1 : Int32))) fl g gl hh v tx) rfl ⟨Nat.le_of_ble_eq_true rfl, Nat.le_of_ble_eq_true rfl⟩ rfl (b_within_m X (d) (va_up f 78 ((f 78) - (1 : Int32))) fl g gl hh v tx (((((g 9) ((f 78) - (1 : Int32)).toNatClampNeg) >>> ((2 : Int32) &&& (31 : Int32))) : Int32) &&& (3 : Int32)) (f 68) _ ?_)
          refine ⟨fun c13 => ?_, fun c13 => ?_⟩
          · have h14 := h12.1 c13
            refine WP.run hP_52 9 (c' := (110, [some (.ref 1), some (.int (((g 9) ((f 78) - (1 : Int32)).toNatClampNeg) &&& (3 : Int32))), some (.int ((((g 9) ((f 78) - (1 : Int32)).toNatClampNeg) >>> ((2 : Int32) &&& (31 : Int32))) : Int32))], [.int ((((((g 9) ((f 78) - (1 : Int32)).toNatClampNeg) >>> ((2 : Int32) &&& (31 : Int32))) : Int32) >>> ((2 : Int32) &&& (31 : Int32))) : Int32), .int (((((g 9) ((f 78) - (1 : Int32)).toNatClampNeg) >>> ((2 : Int32) &&& (31 : Int32))) : Int32) &&& (3 : Int32)), .ref 5], Wd (va_up f 78 ((f 78) - (1 : Int32))) fl g gl hh v tx)) rfl ?_
            refine WP.of (fun _ _ => Ex.iast hP_52 (w2 := Wd (va_up f 78 ((f 78) - (1 : Int32))) fl (va_up g 5 (upd (g 5) ((((((g 9) ((f 78) - (1 : Int32)).toNatClampNeg) >>> ((2 : Int32) &&& (31 : Int32))) : Int32) &&& (3 : Int32)).toNatClampNeg) ((((((g 9) ((f 78) - (1 : Int32)).toNatClampNeg) >>> ((2 : Int32) &&& (31 : Int32))) : Int32) >>> ((2 : Int32) &&& (31 : Int32))) : Int32))) gl hh v tx) rfl (Wa_5 _ _ _ _ _ _ _) h14.1 (Ws_5 _ _ _ _ _ _ _ _)) ?_
            have h15 := h14.2
            refine WP.run hP_52 2 (c' := (125, [none, some (.int (((g 9) ((f 78) - (1 : Int32)).toNatClampNeg) &&& (3 : Int32))), none], [.int (((g 9) ((f 78) - (1 : Int32)).toNatClampNeg) &&& (3 : Int32))], Wd (va_up f 78 ((f 78) - (1 : Int32))) fl (va_up g 5 (upd (g 5) ((((((g 9) ((f 78) - (1 : Int32)).toNatClampNeg) >>> ((2 : Int32) &&& (31 : Int32))) : Int32) &&& (3 : Int32)).toNatClampNeg) ((((((g 9) ((f 78) - (1 : Int32)).toNatClampNeg) >>> ((2 : Int32) &&& (31 : Int32))) : Int32) >>> ((2 : Int32) &&& (31 : Int32))) : Int32))) gl hh v tx)) rfl ?_
            exact WP.retI hP_52 rfl rfl h15
          · have h16 := h12.2 c13
            refine WP.run hP_52 2 (c' := (125, [none, some (.int (((g 9) ((f 78) - (1 : Int32)).toNatClampNeg) &&& (3 : Int32))), none], [.int (((g 9) ((f 78) - (1 : Int32)).toNatClampNeg) &&& (3 : Int32))], Wd (va_up f 78 ((f 78) - (1 : Int32))) fl g gl hh v tx)) rfl ?_
            exact WP.retI hP_52 rfl rfl h16
        · have h17 := h10.2 c11
          show WP X _ 52 (114, [some (.ref 1), some (.int (((g 9) ((f 78) - (1 : Int32)).toNatClampNeg) &&& (3 : Int32))), some (.int ((((g 9) ((f 78) - (1 : Int32)).toNatClampNeg) >>> ((2 : Int32) &&& (31 : Int32))) : Int32))], [], Wd (va_up f 78 ((f 78) - (1 : Int32))) fl g gl hh v tx) P
          refine WP.run hP_52 4 (c' := (120, [some (.ref 1), some (.int (((g 9) ((f 78) - (1 : Int32)).toNatClampNeg) &&& (3 : Int32))), none], [.int 0, .ref 8, .int 0, .ref 8], Wd (va_up f 78 ((f 78) - (1 : Int32))) fl g gl hh v tx)) rfl ?_
          refine WP.of (fun _ _ => Ex.iald hP_52 rfl (Wa_8 _ _ _ _ _ _ _) (by decide)) ?_
          show WP X _ 52 (121, [some (.ref 1), some (.int (((g 9) ((f 78) - (1 : Int32)).toNatClampNeg) &&& (3 : Int32))), none], [.int ((g 8) 0), .int 0, .ref 8], Wd (va_up f 78 ((f 78) - (1 : Int32))) fl g gl hh v tx) P
          refine WP.run hP_52 2 (c' := (123, [some (.ref 1), some (.int (((g 9) ((f 78) - (1 : Int32)).toNatClampNeg) &&& (3 : Int32))), none], [.int (((g 8) 0) - (1 : Int32)), .int 0, .ref 8], Wd (va_up f 78 ((f 78) - (1 : Int32))) fl g gl hh v tx)) rfl ?_
          refine WP.of (fun _ _ => Ex.iast hP_52 (w2 := Wd (va_up f 78 ((f 78) - (1 : Int32))) fl (va_up g 8 (upd (g 8) 0 (((g 8) 0) - (1 : Int32)))) gl hh v tx) rfl (Wa_8 _ _ _ _ _ _ _) (by decide) (Ws_8 _ _ _ _ _ _ _ _)) ?_
          refine WP.run hP_52 1 (c' := (125, [none, some (.int (((g 9) ((f 78) - (1 : Int32)).toNatClampNeg) &&& (3 : Int32))), none], [.int (((g 9) ((f 78) - (1 : Int32)).toNatClampNeg) &&& (3 : Int32))], Wd (va_up f 78 ((f 78) - (1 : Int32))) fl (va_up g 8 (upd (g 8) 0 (((g 8) 0) - (1 : Int32)))) gl hh v tx)) rfl ?_
          exact WP.retI hP_52 rfl rfl h17
  · have h18 := h.2 c1
    refine WP.run hP_52 1 (c' := (9, [some (.ref 1), none, none], [.int (-3)], Wd f fl g gl hh v tx)) rfl ?_
    exact WP.retI hP_52 rfl rfl h18

set_option maxRecDepth 20000 in
theorem b_x_settled_0 (X : mm_X) (d : Nat) (f : Nat → Int32) (fl : Nat → Int64) (g : Nat → Nat → Int32) (gl : Nat → Nat → Int64) (hh : Nat → Nat → Option Nat) (v : Nat → Value) (tx : mm_W) (p0 : Int32)  (P : Option Value → mm_W → Prop)
    (h : ((0 ≤ p0) → P (some (.int p0)) (Wd (va_up f 18 0) fl g gl hh v tx)) ∧
    ((¬ (0 ≤ p0)) → (((0 ≤ (-p0) ∧ (-p0) < (7 : Int32)) → ((¬ ((-p0) < 0 ∨ 7 ≤ (-p0).toNatClampNeg)) ∧ ((¬ ((-p0) < 0 ∨ 7 ≤ (-p0).toNatClampNeg)) ∧ P (some (.int p0)) (Wd (va_up f 18 p0) fl (va_up g 55 (upd (g 55) ((-p0).toNatClampNeg) (((g 55) (-p0).toNatClampNeg) + (1 : Int32)))) gl hh v tx)))) ∧
      ((¬ (0 ≤ (-p0) ∧ (-p0) < (7 : Int32))) → P (some (.int p0)) (Wd (va_up f 18 p0) fl g gl hh v tx))))) :
    WP X (d + 2) 102 (0, [some (.ref 0), some (.int p0)], [], Wd f fl g gl hh v tx) P := by
  refine WP.run hP_102 1 (c' := (1, [some (.ref 0), some (.int p0)], [.int p0], Wd f fl g gl hh v tx)) rfl ?_
  refine WP.br hP_102 (q := 0 ≤ p0) (t := 12) (f := 4) (L := [some (.ref 0), some (.int p0)]) (st := []) (w := Wd f fl g gl hh v tx) rfl (fun c1 => ?_) (fun c1 => ?_)
  · have h2 := h.1 c1
    refine WP.run hP_102 2 (c' := (14, [some (.ref 0), some (.int p0)], [.int p0, .ref 0], Wd f fl g gl hh v tx)) rfl ?_
    refine WP.call hP_102 hP_100 (as := [.ref 0, .int p0]) (pc' := 17) (L' := [some (.ref 0), some (.int p0)]) (st' := []) (w1 := Wd f fl g gl hh v tx) rfl ⟨Nat.le_of_ble_eq_true rfl, Nat.le_of_ble_eq_true rfl⟩ rfl (b_x_accepted_0 X (d + 1) f fl g gl hh v tx p0 _ ?_)
    exact WP.retI hP_102 rfl rfl h2
  · have h3 := h.2 c1
    refine WP.run hP_102 2 (c' := (6, [some (.ref 0), some (.int p0)], [.int p0, .ref 0], Wd f fl g gl hh v tx)) rfl ?_
    refine WP.call hP_102 hP_101 (as := [.ref 0, .int p0]) (pc' := 9) (L' := [some (.ref 0), some (.int p0)]) (st' := []) (w1 := Wd f fl g gl hh v tx) rfl ⟨Nat.le_of_ble_eq_true rfl, Nat.le_of_ble_eq_true rfl⟩ rfl (b_x_refused_0 X (d) f fl g gl hh v tx p0 _ ?_)
    refine ⟨fun c4 => ?_, fun c4 => ?_⟩
    · have h5 := h3.1 c4
      refine ⟨h5.1, ?_⟩
      have h6 := h5.2
      refine ⟨h6.1, ?_⟩
      have h7 := h6.2
      refine WP.run hP_102 1 (c' := (17, [some (.ref 0), some (.int p0)], [.int p0], Wd (va_up f 18 p0) fl (va_up g 55 (upd (g 55) ((-p0).toNatClampNeg) (((g 55) (-p0).toNatClampNeg) + (1 : Int32)))) gl hh v tx)) rfl ?_
      exact WP.retI hP_102 rfl rfl h7
    · have h8 := h3.2 c4
      refine WP.run hP_102 1 (c' := (17, [some (.ref 0), some (.int p0)], [.int p0], Wd (va_up f 18 p0) fl g gl hh v tx)) rfl ?_
      exact WP.retI hP_102 rfl rfl h8

set_option maxRecDepth 20000 in
theorem b_x_at_0 (X : mm_X) (d : Nat) (f : Nat → Int32) (fl : Nat → Int64) (g : Nat → Nat → Int32) (gl : Nat → Nat → Int64) (hh : Nat → Nat → Option Nat) (v : Nat → Value) (tx : mm_W) (p0 : Int32) (p1 : Int32)  (P : Option Value → mm_W → Prop)
    (h : ((p0 < 0) → P (some (.int (-1))) (Wd f fl g gl hh v tx)) ∧
    ((¬ (p0 < 0)) → ((((f 64) ≤ p0) → P (some (.int (-1))) (Wd f fl g gl hh v tx)) ∧
      ((¬ ((f 64) ≤ p0)) → (((p1 < 0) → P (some (.int (-1))) (Wd f fl g gl hh v tx)) ∧
        ((¬ (p1 < 0)) → (((p1 ≤ 5) → ((¬ (p0 < 0 ∨ 8 ≤ p0.toNatClampNeg)) ∧ (((¬ p1 = 0) → (((¬ p1 = 1) → (((0 ≤ ((((g 3) p0.toNatClampNeg) - (1 : Int32)) - (p1 - (2 : Int32)))) → ((¬ (p0 < 0 ∨ 8 ≤ p0.toNatClampNeg)) ∧ P (some (.int (((((g 2) p0.toNatClampNeg) >>> (((2 : Int32) * ((((g 3) p0.toNatClampNeg) - (1 : Int32)) - (p1 - (2 : Int32)))) &&& (31 : Int32))) : Int32) &&& (3 : Int32)))) (Wd f fl g gl hh v tx))) ∧
                ((¬ (0 ≤ ((((g 3) p0.toNatClampNeg) - (1 : Int32)) - (p1 - (2 : Int32))))) → P (some (.int (-1))) (Wd f fl g gl hh v tx)))) ∧
              ((p1 = 1) → ((¬ (p0 < 0 ∨ 8 ≤ p0.toNatClampNeg)) ∧ P (some (.int ((g 4) p0.toNatClampNeg))) (Wd f fl g gl hh v tx))))) ∧
            ((p1 = 0) → P (some (.int ((g 3) p0.toNatClampNeg))) (Wd f fl g gl hh v tx))))) ∧
          ((¬ (p1 ≤ 5)) → P (some (.int (-1))) (Wd f fl g gl hh v tx))))))))) :
    WP X (d) 59 (0, [some (.ref 0), some (.int p0), some (.int p1), none, none], [], Wd f fl g gl hh v tx) P := by
  refine WP.run hP_59 1 (c' := (1, [some (.ref 0), some (.int p0), some (.int p1), none, none], [.int p0], Wd f fl g gl hh v tx)) rfl ?_
  refine WP.br hP_59 (q := p0 < 0) (t := 24) (f := 4) (L := [some (.ref 0), some (.int p0), some (.int p1), none, none]) (st := []) (w := Wd f fl g gl hh v tx) rfl (fun c1 => ?_) (fun c1 => ?_)
  · have h2 := h.1 c1
    refine WP.run hP_59 1 (c' := (25, [none, none, none, none, none], [.int (-1)], Wd f fl g gl hh v tx)) rfl ?_
    exact WP.retI hP_59 rfl rfl h2
  · have h3 := h.2 c1
    refine WP.run hP_59 4 (c' := (12, [some (.ref 0), some (.int p0), some (.int p1), none, none], [.int (f 64), .int p0], Wd f fl g gl hh v tx)) rfl ?_
    refine WP.br hP_59 (q := (f 64) ≤ p0) (t := 24) (f := 15) (L := [some (.ref 0), some (.int p0), some (.int p1), none, none]) (st := []) (w := Wd f fl g gl hh v tx) rfl (fun c4 => ?_) (fun c4 => ?_)
    · have h5 := h3.1 c4
      refine WP.run hP_59 1 (c' := (25, [none, none, none, none, none], [.int (-1)], Wd f fl g gl hh v tx)) rfl ?_
      exact WP.retI hP_59 rfl rfl h5
    · have h6 := h3.2 c4
      refine WP.run hP_59 1 (c' := (16, [some (.ref 0), some (.int p0), some (.int p1), none, none], [.int p1], Wd f fl g gl hh v tx)) rfl ?_
      refine WP.br hP_59 (q := p1 < 0) (t := 24) (f := 19) (L := [some (.ref 0), some (.int p0), some (.int p1), none, none]) (st := []) (w := Wd f fl g gl hh v tx) rfl (fun c7 => ?_) (fun c7 => ?_)
      · have h8 := h6.1 c7
        refine WP.run hP_59 1 (c' := (25, [none, none, none, none, none], [.int (-1)], Wd f fl g gl hh v tx)) rfl ?_
        exact WP.retI hP_59 rfl rfl h8
      · have h9 := h6.2 c7
        refine WP.run hP_59 2 (c' := (21, [some (.ref 0), some (.int p0), some (.int p1), none, none], [.int 5, .int p1], Wd f fl g gl hh v tx)) rfl ?_
        refine WP.br hP_59 (q := p1 ≤ 5) (t := 26) (f := 24) (L := [some (.ref 0), some (.int p0), some (.int p1), none, none]) (st := []) (w := Wd f fl g gl hh v tx) rfl (fun c10 => ?_) (fun c10 => ?_)
        · have h11 := h9.1 c10
          refine WP.run hP_59 4 (c' := (34, [some (.ref 0), some (.int p0), some (.int p1), none, none], [.int p0, .ref 3], Wd f fl g gl hh v tx)) rfl ?_
          refine WP.of (fun _ _ => Ex.iald hP_59 rfl (Wa_3 _ _ _ _ _ _ _) h11.1) ?_
          have h12 := h11.2
          refine WP.run hP_59 2 (c' := (37, [some (.ref 0), some (.int p0), some (.int p1), some (.int ((g 3) p0.toNatClampNeg)), none], [.int p1], Wd f fl g gl hh v tx)) rfl ?_
          refine WP.br hP_59 (q := ¬ p1 = 0) (t := 42) (f := 40) (L := [some (.ref 0), some (.int p0), some (.int p1), some (.int ((g 3) p0.toNatClampNeg)), none]) (st := []) (w := Wd f fl g gl hh v tx) rfl (fun c13 => ?_) (fun c13 => ?_)
          · have h14 := h12.1 c13
            refine WP.run hP_59 2 (c' := (44, [some (.ref 0), some (.int p0), some (.int p1), some (.int ((g 3) p0.toNatClampNeg)), none], [.int 1, .int p1], Wd f fl g gl hh v tx)) rfl ?_
            refine WP.br hP_59 (q := ¬ p1 = 1) (t := 57) (f := 47) (L := [some (.ref 0), some (.int p0), some (.int p1), some (.int ((g 3) p0.toNatClampNeg)), none]) (st := []) (w := Wd f fl g gl hh v tx) rfl (fun c15 => ?_) (fun c15 => ?_)
            · have h16 := h14.1 c15
              refine WP.run hP_59 7 (c' := (64, [some (.ref 0), some (.int p0), some (.int p1), some (.int ((g 3) p0.toNatClampNeg)), none], [.int ((((g 3) p0.toNatClampNeg) - (1 : Int32)) - (p1 - (2 : Int32)))], Wd f fl g gl hh v tx)) rfl ?_
              refine WP.run hP_59 2 (c' := (68, [some (.ref 0), some (.int p0), some (.int p1), some (.int ((g 3) p0.toNatClampNeg)), some (.int ((((g 3) p0.toNatClampNeg) - (1 : Int32)) - (p1 - (2 : Int32))))], [.int ((((g 3) p0.toNatClampNeg) - (1 : Int32)) - (p1 - (2 : Int32)))], Wd f fl g gl hh v tx)) rfl ?_
              refine WP.br hP_59 (q := 0 ≤ ((((g 3) p0.toNatClampNeg) - (1 : Int32)) - (p1 - (2 : Int32)))) (t := 75) (f := 71) (L := [some (.ref 0), some (.int p0), some (.int p1), some (.int ((g 3) p0.toNatClampNeg)), some (.int ((((g 3) p0.toNatClampNeg) - (1 : Int32)) - (p1 - (2 : Int32))))]) (st := []) (w := Wd f fl g gl hh v tx) rfl (fun c17 => ?_) (fun c17 => ?_)
              · have h18 := h16.1 c17
                refine WP.run hP_59 4 (c' := (83, [some (.ref 0), some (.int p0), none, none, some (.int ((((g 3) p0.toNatClampNeg) - (1 : Int32)) - (p1 - (2 : Int32))))], [.int p0, .ref 2], Wd f fl g gl hh v tx)) rfl ?_
                refine WP.of (fun _ _ => Ex.iald hP_59 rfl (Wa_2 _ _ _ _ _ _ _) h18.1) ?_
                have h19 := h18.2
                refine WP.run hP_59 6 (c' := (91, [some (.ref 0), some (.int p0), none, none, some (.int ((((g 3) p0.toNatClampNeg) - (1 : Int32)) - (p1 - (2 : Int32))))], [.int (((((g 2) p0.toNatClampNeg) >>> (((2 : Int32) * ((((g 3) p0.toNatClampNeg) - (1 : Int32)) - (p1 - (2 : Int32)))) &&& (31 : Int32))) : Int32) &&& (3 : Int32))], Wd f fl g gl hh v tx)) rfl ?_
                exact WP.retI hP_59 rfl rfl h19
              · have h20 := h16.2 c17
                refine WP.run hP_59 2 (c' := (91, [some (.ref 0), some (.int p0), some (.int p1), some (.int ((g 3) p0.toNatClampNeg)), some (.int ((((g 3) p0.toNatClampNeg) - (1 : Int32)) - (p1 - (2 : Int32))))], [.int (-1)], Wd f fl g gl hh v tx)) rfl ?_
                exact WP.retI hP_59 rfl rfl h20
            · have h21 := h14.2 (Classical.not_not.mp c15)
              refine WP.run hP_59 4 (c' := (55, [some (.ref 0), some (.int p0), some (.int p1), some (.int ((g 3) p0.toNatClampNeg)), none], [.int p0, .ref 4], Wd f fl g gl hh v tx)) rfl ?_
              refine WP.of (fun _ _ => Ex.iald hP_59 rfl (Wa_4 _ _ _ _ _ _ _) h21.1) ?_
              have h22 := h21.2
              exact WP.retI hP_59 rfl rfl h22
          · have h23 := h12.2 (Classical.not_not.mp c13)
            refine WP.run hP_59 1 (c' := (41, [some (.ref 0), some (.int p0), some (.int p1), some (.int ((g 3) p0.toNatClampNeg)), none], [.int ((g 3) p0.toNatClampNeg)], Wd f fl g gl hh v tx)) rfl ?_
            exact WP.retI hP_59 rfl rfl h23
        · have h24 := h9.2 c10
          refine WP.run hP_59 1 (c' := (25, [none, none, none, none, none], [.int (-1)], Wd f fl g gl hh v tx)) rfl ?_
          exact WP.retI hP_59 rfl rfl h24

set_option maxRecDepth 20000 in
theorem b_x_end_0 (X : mm_X) (d : Nat) (f : Nat → Int32) (fl : Nat → Int64) (g : Nat → Nat → Int32) (gl : Nat → Nat → Int64) (hh : Nat → Nat → Option Nat) (v : Nat → Value) (tx : mm_W) (p0 : Int32)  (P : Option Value → mm_W → Prop)
    (h : ((p0 < 0) → P (some (.int (-1))) (Wd f fl g gl hh v tx)) ∧
    ((¬ (p0 < 0)) → (((p0 ≤ (f 6)) → P (some (.int p0)) (Wd (va_up f 6 p0) fl g gl hh v tx)) ∧
      ((¬ (p0 ≤ (f 6))) → P (some (.int (-1))) (Wd f fl g gl hh v tx))))) :
    WP X (d) 66 (0, [some (.ref 0), some (.int p0)], [], Wd f fl g gl hh v tx) P := by
  refine WP.run hP_66 1 (c' := (1, [some (.ref 0), some (.int p0)], [.int p0], Wd f fl g gl hh v tx)) rfl ?_
  refine WP.br hP_66 (q := p0 < 0) (t := 12) (f := 4) (L := [some (.ref 0), some (.int p0)]) (st := []) (w := Wd f fl g gl hh v tx) rfl (fun c1 => ?_) (fun c1 => ?_)
  · have h2 := h.1 c1
    refine WP.run hP_66 1 (c' := (13, [none, none], [.int (-1)], Wd f fl g gl hh v tx)) rfl ?_
    exact WP.retI hP_66 rfl rfl h2
  · have h3 := h.2 c1
    refine WP.run hP_66 3 (c' := (9, [some (.ref 0), some (.int p0)], [.int (f 6), .int p0], Wd f fl g gl hh v tx)) rfl ?_
    refine WP.br hP_66 (q := p0 ≤ (f 6)) (t := 14) (f := 12) (L := [some (.ref 0), some (.int p0)]) (st := []) (w := Wd f fl g gl hh v tx) rfl (fun c4 => ?_) (fun c4 => ?_)
    · have h5 := h3.1 c4
      refine WP.run hP_66 4 (c' := (20, [some (.ref 0), some (.int p0)], [.int p0], Wd (va_up f 6 p0) fl g gl hh v tx)) rfl ?_
      exact WP.retI hP_66 rfl rfl h5
    · have h6 := h3.2 c4
      refine WP.run hP_66 1 (c' := (13, [none, none], [.int (-1)], Wd f fl g gl hh v tx)) rfl ?_
      exact WP.retI hP_66 rfl rfl h6

set_option maxRecDepth 20000 in
theorem b_x_hang_0 (X : mm_X) (d : Nat) (f : Nat → Int32) (fl : Nat → Int64) (g : Nat → Nat → Int32) (gl : Nat → Nat → Int64) (hh : Nat → Nat → Option Nat) (v : Nat → Value) (tx : mm_W) (p0 : Int32)  (P : Option Value → mm_W → Prop)
    (h : WP X (d) 105 (0, [some (.ref 0), some (.long ((p0 : Int32).toInt64)), none], [], Wd f fl g gl hh v tx) (fun rv w2 => WP X (d + 1) 74 (7, [some (.ref 0), some (.int p0)], rv.toList ++ [.ref 0], w2) P)) :
    WP X (d + 1) 74 (0, [some (.ref 0), some (.int p0)], [], Wd f fl g gl hh v tx) P := by
  refine WP.run hP_74 4 (c' := (4, [some (.ref 0), some (.int p0)], [.long ((p0 : Int32).toInt64), .ref 0, .ref 0], Wd f fl g gl hh v tx)) rfl ?_
  refine WP.call hP_74 hP_105 (as := [.ref 0, .long ((p0 : Int32).toInt64)]) (pc' := 7) (L' := [some (.ref 0), some (.int p0)]) (st' := [.ref 0]) (w1 := Wd f fl g gl hh v tx) rfl ⟨Nat.le_of_ble_eq_true rfl, Nat.le_of_ble_eq_true rfl⟩ rfl ?_
  exact h

set_option maxRecDepth 20000 in
theorem b_x_hang_7 (X : mm_X) (d : Nat) (f : Nat → Int32) (fl : Nat → Int64) (g : Nat → Nat → Int32) (gl : Nat → Nat → Int64) (hh : Nat → Nat → Option Nat) (v : Nat → Value) (tx : mm_W) (l1 : Int32) (s0 : Int32)  (P : Option Value → mm_W → Prop)
    (h : ((0 ≤ s0) → P (some (.int s0)) (Wd (va_up f 18 0) fl g gl hh v tx)) ∧
    ((¬ (0 ≤ s0)) → (((0 ≤ (-s0) ∧ (-s0) < (7 : Int32)) → ((¬ ((-s0) < 0 ∨ 7 ≤ (-s0).toNatClampNeg)) ∧ ((¬ ((-s0) < 0 ∨ 7 ≤ (-s0).toNatClampNeg)) ∧ P (some (.int s0)) (Wd (va_up f 18 s0) fl (va_up g 55 (upd (g 55) ((-s0).toNatClampNeg) (((g 55) (-s0).toNatClampNeg) + (1 : Int32)))) gl hh v tx)))) ∧
      ((¬ (0 ≤ (-s0) ∧ (-s0) < (7 : Int32))) → P (some (.int s0)) (Wd (va_up f 18 s0) fl g gl hh v tx))))) :
    WP X (d + 3) 74 (7, [some (.ref 0), some (.int l1)], [.int s0, .ref 0], Wd f fl g gl hh v tx) P := by
  refine WP.call hP_74 hP_102 (as := [.ref 0, .int s0]) (pc' := 10) (L' := [some (.ref 0), some (.int l1)]) (st' := []) (w1 := Wd f fl g gl hh v tx) rfl ⟨Nat.le_of_ble_eq_true rfl, Nat.le_of_ble_eq_true rfl⟩ rfl (b_x_settled_0 X (d) f fl g gl hh v tx s0 _ ?_)
  refine ⟨fun c1 => ?_, fun c1 => ?_⟩
  · have h2 := h.1 c1
    exact WP.retI hP_74 rfl rfl h2
  · have h3 := h.2 c1
    refine ⟨fun c4 => ?_, fun c4 => ?_⟩
    · have h5 := h3.1 c4
      refine ⟨h5.1, ?_⟩
      have h6 := h5.2
      refine ⟨h6.1, ?_⟩
      have h7 := h6.2
      exact WP.retI hP_74 rfl rfl h7
    · have h8 := h3.2 c4
      exact WP.retI hP_74 rfl rfl h8

set_option maxRecDepth 20000 in
theorem b_x_take_0 (X : mm_X) (d : Nat) (f : Nat → Int32) (fl : Nat → Int64) (g : Nat → Nat → Int32) (gl : Nat → Nat → Int64) (hh : Nat → Nat → Option Nat) (v : Nat → Value) (tx : mm_W)   (P : Option Value → mm_W → Prop)
    (h : WP X (d) 106 (0, [some (.ref 0), none], [], Wd f fl g gl hh v tx) (fun rv w2 => WP X (d + 1) 75 (5, [some (.ref 0)], rv.toList ++ [.ref 0], w2) P)) :
    WP X (d + 1) 75 (0, [some (.ref 0)], [], Wd f fl g gl hh v tx) P := by
  refine WP.run hP_75 2 (c' := (2, [some (.ref 0)], [.ref 0, .ref 0], Wd f fl g gl hh v tx)) rfl ?_
  refine WP.call hP_75 hP_106 (as := [.ref 0]) (pc' := 5) (L' := [some (.ref 0)]) (st' := [.ref 0]) (w1 := Wd f fl g gl hh v tx) rfl ⟨Nat.le_of_ble_eq_true rfl, Nat.le_of_ble_eq_true rfl⟩ rfl ?_
  exact h

set_option maxRecDepth 20000 in
theorem b_x_take_5 (X : mm_X) (d : Nat) (f : Nat → Int32) (fl : Nat → Int64) (g : Nat → Nat → Int32) (gl : Nat → Nat → Int64) (hh : Nat → Nat → Option Nat) (v : Nat → Value) (tx : mm_W) (s0 : Int32)  (P : Option Value → mm_W → Prop)
    (h : ((0 ≤ s0) → P (some (.int s0)) (Wd (va_up f 18 0) fl g gl hh v tx)) ∧
    ((¬ (0 ≤ s0)) → (((0 ≤ (-s0) ∧ (-s0) < (7 : Int32)) → ((¬ ((-s0) < 0 ∨ 7 ≤ (-s0).toNatClampNeg)) ∧ ((¬ ((-s0) < 0 ∨ 7 ≤ (-s0).toNatClampNeg)) ∧ P (some (.int s0)) (Wd (va_up f 18 s0) fl (va_up g 55 (upd (g 55) ((-s0).toNatClampNeg) (((g 55) (-s0).toNatClampNeg) + (1 : Int32)))) gl hh v tx)))) ∧
      ((¬ (0 ≤ (-s0) ∧ (-s0) < (7 : Int32))) → P (some (.int s0)) (Wd (va_up f 18 s0) fl g gl hh v tx))))) :
    WP X (d + 3) 75 (5, [some (.ref 0)], [.int s0, .ref 0], Wd f fl g gl hh v tx) P := by
  refine WP.call hP_75 hP_102 (as := [.ref 0, .int s0]) (pc' := 8) (L' := [some (.ref 0)]) (st' := []) (w1 := Wd f fl g gl hh v tx) rfl ⟨Nat.le_of_ble_eq_true rfl, Nat.le_of_ble_eq_true rfl⟩ rfl (b_x_settled_0 X (d) f fl g gl hh v tx s0 _ ?_)
  refine ⟨fun c1 => ?_, fun c1 => ?_⟩
  · have h2 := h.1 c1
    exact WP.retI hP_75 rfl rfl h2
  · have h3 := h.2 c1
    refine ⟨fun c4 => ?_, fun c4 => ?_⟩
    · have h5 := h3.1 c4
      refine ⟨h5.1, ?_⟩
      have h6 := h5.2
      refine ⟨h6.1, ?_⟩
      have h7 := h6.2
      exact WP.retI hP_75 rfl rfl h7
    · have h8 := h3.2 c4
      exact WP.retI hP_75 rfl rfl h8

set_option maxRecDepth 20000 in
theorem b_x_pass_0 (X : mm_X) (d : Nat) (f : Nat → Int32) (fl : Nat → Int64) (g : Nat → Nat → Int32) (gl : Nat → Nat → Int64) (hh : Nat → Nat → Option Nat) (v : Nat → Value) (tx : mm_W)   (P : Option Value → mm_W → Prop)
    (h : WP X (d) 108 (0, [some (.ref 0)], [], Wd f fl g gl hh v tx) (fun rv w2 => WP X (d + 1) 77 (5, [some (.ref 0)], rv.toList ++ [.ref 0], w2) P)) :
    WP X (d + 1) 77 (0, [some (.ref 0)], [], Wd f fl g gl hh v tx) P := by
  refine WP.run hP_77 2 (c' := (2, [some (.ref 0)], [.ref 0, .ref 0], Wd f fl g gl hh v tx)) rfl ?_
  refine WP.call hP_77 hP_108 (as := [.ref 0]) (pc' := 5) (L' := [some (.ref 0)]) (st' := [.ref 0]) (w1 := Wd f fl g gl hh v tx) rfl ⟨Nat.le_of_ble_eq_true rfl, Nat.le_of_ble_eq_true rfl⟩ rfl ?_
  exact h

set_option maxRecDepth 20000 in
theorem b_x_pass_5 (X : mm_X) (d : Nat) (f : Nat → Int32) (fl : Nat → Int64) (g : Nat → Nat → Int32) (gl : Nat → Nat → Int64) (hh : Nat → Nat → Option Nat) (v : Nat → Value) (tx : mm_W) (s0 : Int32)  (P : Option Value → mm_W → Prop)
    (h : ((0 ≤ s0) → P (some (.int s0)) (Wd (va_up f 18 0) fl g gl hh v tx)) ∧
    ((¬ (0 ≤ s0)) → (((0 ≤ (-s0) ∧ (-s0) < (7 : Int32)) → ((¬ ((-s0) < 0 ∨ 7 ≤ (-s0).toNatClampNeg)) ∧ ((¬ ((-s0) < 0 ∨ 7 ≤ (-s0).toNatClampNeg)) ∧ P (some (.int s0)) (Wd (va_up f 18 s0) fl (va_up g 55 (upd (g 55) ((-s0).toNatClampNeg) (((g 55) (-s0).toNatClampNeg) + (1 : Int32)))) gl hh v tx)))) ∧
      ((¬ (0 ≤ (-s0) ∧ (-s0) < (7 : Int32))) → P (some (.int s0)) (Wd (va_up f 18 s0) fl g gl hh v tx))))) :
    WP X (d + 3) 77 (5, [some (.ref 0)], [.int s0, .ref 0], Wd f fl g gl hh v tx) P := by
  refine WP.call hP_77 hP_102 (as := [.ref 0, .int s0]) (pc' := 8) (L' := [some (.ref 0)]) (st' := []) (w1 := Wd f fl g gl hh v tx) rfl ⟨Nat.le_of_ble_eq_true rfl, Nat.le_of_ble_eq_true rfl⟩ rfl (b_x_settled_0 X (d) f fl g gl hh v tx s0 _ ?_)
  refine ⟨fun c1 => ?_, fun c1 => ?_⟩
  · have h2 := h.1 c1
    exact WP.retI hP_77 rfl rfl h2
  · have h3 := h.2 c1
    refine ⟨fun c4 => ?_, fun c4 => ?_⟩
    · have h5 := h3.1 c4
      refine ⟨h5.1, ?_⟩
      have h6 := h5.2
      refine ⟨h6.1, ?_⟩
      have h7 := h6.2
      exact WP.retI hP_77 rfl rfl h7
    · have h8 := h3.2 c4
      exact WP.retI hP_77 rfl rfl h8

set_option maxRecDepth 20000 in
theorem b_x_undo_0 (X : mm_X) (d : Nat) (f : Nat → Int32) (fl : Nat → Int64) (g : Nat → Nat → Int32) (gl : Nat → Nat → Int64) (hh : Nat → Nat → Option Nat) (v : Nat → Value) (tx : mm_W)   (P : Option Value → mm_W → Prop)
    (h : WP X (d) 52 (0, [some (.ref 1), none, none], [], Wd f fl g gl hh v tx) (fun rv w2 => WP X (d + 1) 78 (8, [some (.ref 0)], rv.toList ++ [.ref 0], w2) P)) :
    WP X (d + 1) 78 (0, [some (.ref 0)], [], Wd f fl g gl hh v tx) P := by
  refine WP.run hP_78 3 (c' := (5, [some (.ref 0)], [.ref 1, .ref 0], Wd f fl g gl hh v tx)) rfl ?_
  refine WP.call hP_78 hP_52 (as := [.ref 1]) (pc' := 8) (L' := [some (.ref 0)]) (st' := [.ref 0]) (w1 := Wd f fl g gl hh v tx) rfl ⟨Nat.le_of_ble_eq_true rfl, Nat.le_of_ble_eq_true rfl⟩ rfl ?_
  exact h

set_option maxRecDepth 20000 in
theorem b_x_undo_8 (X : mm_X) (d : Nat) (f : Nat → Int32) (fl : Nat → Int64) (g : Nat → Nat → Int32) (gl : Nat → Nat → Int64) (hh : Nat → Nat → Option Nat) (v : Nat → Value) (tx : mm_W) (s0 : Int32)  (P : Option Value → mm_W → Prop)
    (h : ((0 ≤ s0) → P (some (.int s0)) (Wd (va_up f 18 0) fl g gl hh v tx)) ∧
    ((¬ (0 ≤ s0)) → (((0 ≤ (-s0) ∧ (-s0) < (7 : Int32)) → ((¬ ((-s0) < 0 ∨ 7 ≤ (-s0).toNatClampNeg)) ∧ ((¬ ((-s0) < 0 ∨ 7 ≤ (-s0).toNatClampNeg)) ∧ P (some (.int s0)) (Wd (va_up f 18 s0) fl (va_up g 55 (upd (g 55) ((-s0).toNatClampNeg) (((g 55) (-s0).toNatClampNeg) + (1 : Int32)))) gl hh v tx)))) ∧
      ((¬ (0 ≤ (-s0) ∧ (-s0) < (7 : Int32))) → P (some (.int s0)) (Wd (va_up f 18 s0) fl g gl hh v tx))))) :
    WP X (d + 3) 78 (8, [some (.ref 0)], [.int s0, .ref 0], Wd f fl g gl hh v tx) P := by
  refine WP.call hP_78 hP_102 (as := [.ref 0, .int s0]) (pc' := 11) (L' := [some (.ref 0)]) (st' := []) (w1 := Wd f fl g gl hh v tx) rfl ⟨Nat.le_of_ble_eq_true rfl, Nat.le_of_ble_eq_true rfl⟩ rfl (b_x_settled_0 X (d) f fl g gl hh v tx s0 _ ?_)
  refine ⟨fun c1 => ?_, fun c1 => ?_⟩
  · have h2 := h.1 c1
    exact WP.retI hP_78 rfl rfl h2
  · have h3 := h.2 c1
    refine ⟨fun c4 => ?_, fun c4 => ?_⟩
    · have h5 := h3.1 c4
      refine ⟨h5.1, ?_⟩
      have h6 := h5.2
      refine ⟨h6.1, ?_⟩
      have h7 := h6.2
      exact WP.retI hP_78 rfl rfl h7
    · have h8 := h3.2 c4
      exact WP.retI hP_78 rfl rfl h8

set_option maxRecDepth 20000 in
theorem b_x_rows_0 (X : mm_X) (d : Nat) (f : Nat → Int32) (fl : Nat → Int64) (g : Nat → Nat → Int32) (gl : Nat → Nat → Int64) (hh : Nat → Nat → Option Nat) (v : Nat → Value) (tx : mm_W) (p0 : Int32)  (P : Option Value → mm_W → Prop)
    (h : ((p0 < 0) → P (some (.long (-1))) (Wd f fl g gl hh v tx)) ∧
    ((¬ (p0 < 0)) → (((p0 ≤ 20) → WP X (d) 87 (23, [some (.ref 0), some (.int p0), some (.int 1), none, none], [], Wd f fl g (va_up gl 54 (vp_updL (gl 54) 0 1)) hh v tx) P) ∧
      ((¬ (p0 ≤ 20)) → P (some (.long (-1))) (Wd f fl g gl hh v tx))))) :
    WP X (d) 87 (0, [some (.ref 0), some (.int p0), none, none, none], [], Wd f fl g gl hh v tx) P := by
  refine WP.run hP_87 1 (c' := (1, [some (.ref 0), some (.int p0), none, none, none], [.int p0], Wd f fl g gl hh v tx)) rfl ?_
  refine WP.br hP_87 (q := p0 < 0) (t := 10) (f := 4) (L := [some (.ref 0), some (.int p0), none, none, none]) (st := []) (w := Wd f fl g gl hh v tx) rfl (fun c1 => ?_) (fun c1 => ?_)
  · have h2 := h.1 c1
    refine WP.run hP_87 1 (c' := (13, [none, none, none, none, none], [.long (-1)], Wd f fl g gl hh v tx)) rfl ?_
    exact WP.ret hP_87 (r := some (.long (-1))) (w' := Wd f fl g gl hh v tx) rfl h2
  · have h3 := h.2 c1
    refine WP.run hP_87 2 (c' := (7, [some (.ref 0), some (.int p0), none, none, none], [.int 20, .int p0], Wd f fl g gl hh v tx)) rfl ?_
    refine WP.br hP_87 (q := p0 ≤ 20) (t := 14) (f := 10) (L := [some (.ref 0), some (.int p0), none, none, none]) (st := []) (w := Wd f fl g gl hh v tx) rfl (fun c4 => ?_) (fun c4 => ?_)
    · have h5 := h3.1 c4
      refine WP.run hP_87 4 (c' := (20, [some (.ref 0), some (.int p0), none, none, none], [.long 1, .int 0, .ref 54], Wd f fl g gl hh v tx)) rfl ?_
      refine WP.of (fun _ _ => Ex.last hP_87 (w2 := Wd f fl g (va_up gl 54 (vp_updL (gl 54) 0 1)) hh v tx) rfl (Wa_54 _ _ _ _ _ _ _) (by decide) (Ws_54 _ _ _ _ _ _ _ _)) ?_
      refine WP.run hP_87 2 (c' := (23, [some (.ref 0), some (.int p0), some (.int 1), none, none], [], Wd f fl g (va_up gl 54 (vp_updL (gl 54) 0 1)) hh v tx)) rfl ?_
      exact h5
    · have h6 := h3.2 c4
      refine WP.run hP_87 1 (c' := (13, [none, none, none, none, none], [.long (-1)], Wd f fl g gl hh v tx)) rfl ?_
      exact WP.ret hP_87 (r := some (.long (-1))) (w' := Wd f fl g gl hh v tx) rfl h6

set_option maxRecDepth 20000 in
theorem b_x_rows_23 (X : mm_X) (d : Nat) (f : Nat → Int32) (fl : Nat → Int64) (g : Nat → Nat → Int32) (gl : Nat → Nat → Int64) (hh : Nat → Nat → Option Nat) (v : Nat → Value) (tx : mm_W) (l1 : Int32) (l2 : Int32)  (P : Option Value → mm_W → Prop)
    (h : ((l1 < l2) → ((¬ (l1 < 0 ∨ 21 ≤ l1.toNatClampNeg)) ∧ P (some (.long ((gl 54) l1.toNatClampNeg))) (Wd f fl g gl hh v tx))) ∧
    ((¬ (l1 < l2)) → ((¬ (l2 < 0 ∨ 21 ≤ l2.toNatClampNeg)) ∧ WP X (d) 87 (37, [some (.ref 0), some (.int l1), some (.int l2), some (.int 0), none], [], Wd f fl g (va_up gl 54 (vp_updL (gl 54) (l2.toNatClampNeg) 0)) hh v tx) P))) :
    WP X (d) 87 (23, [some (.ref 0), some (.int l1), some (.int l2), none, none], [], Wd f fl g gl hh v tx) P := by
  refine WP.run hP_87 2 (c' := (25, [some (.ref 0), some (.int l1), some (.int l2), none, none], [.int l1, .int l2], Wd f fl g gl hh v tx)) rfl ?_
  refine WP.br hP_87 (q := l1 < l2) (t := 98) (f := 28) (L := [some (.ref 0), some (.int l1), some (.int l2), none, none]) (st := []) (w := Wd f fl g gl hh v tx) rfl (fun c1 => ?_) (fun c1 => ?_)
  · have h2 := h.1 c1
    refine WP.run hP_87 3 (c' := (103, [some (.ref 0), some (.int l1), none, none, none], [.int l1, .ref 54], Wd f fl g gl hh v tx)) rfl ?_
    refine WP.of (fun _ _ => Ex.lald hP_87 rfl (Wa_54 _ _ _ _ _ _ _) h2.1) ?_
    have h3 := h2.2
    exact WP.ret hP_87 (r := some (.long ((gl 54) l1.toNatClampNeg))) (w' := Wd f fl g gl hh v tx) rfl h3
  · have h4 := h.2 c1
    refine WP.run hP_87 4 (c' := (34, [some (.ref 0), some (.int l1), some (.int l2), none, none], [.long 0, .int l2, .ref 54], Wd f fl g gl hh v tx)) rfl ?_
    refine WP.of (fun _ _ => Ex.last hP_87 (w2 := Wd f fl g (va_up gl 54 (vp_updL (gl 54) (l2.toNatClampNeg) 0)) hh v tx) rfl (Wa_54 _ _ _ _ _ _ _) h4.1 (Ws_54 _ _ _ _ _ _ _ _)) ?_
    have h5 := h4.2
    refine WP.run hP_87 2 (c' := (37, [some (.ref 0), some (.int l1), some (.int l2), some (.int 0), none], [], Wd f fl g (va_up gl 54 (vp_updL (gl 54) (l2.toNatClampNeg) 0)) hh v tx)) rfl ?_
    exact h5

set_option maxRecDepth 20000 in
theorem b_x_rows_37 (X : mm_X) (d : Nat) (f : Nat → Int32) (fl : Nat → Int64) (g : Nat → Nat → Int32) (gl : Nat → Nat → Int64) (hh : Nat → Nat → Option Nat) (v : Nat → Value) (tx : mm_W) (l1 : Int32) (l2 : Int32) (l3 : Int32)  (P : Option Value → mm_W → Prop)
    (h : (((f 64) ≤ l3) → WP X (d) 87 (23, [some (.ref 0), some (.int l1), some (.int (l2 + (1 : Int32))), none, none], [], Wd f fl g gl hh v tx) P) ∧
    ((¬ ((f 64) ≤ l3)) → ((¬ (l3 < 0 ∨ 8 ≤ l3.toNatClampNeg)) ∧ ((¬ (l2 < 0 ∨ 21 ≤ l2.toNatClampNeg)) ∧ (((0 ≤ (l2 - ((g 3) l3.toNatClampNeg))) → ((¬ ((l2 - ((g 3) l3.toNatClampNeg)) < 0 ∨ 21 ≤ (l2 - ((g 3) l3.toNatClampNeg)).toNatClampNeg)) ∧ ((¬ (l2 < 0 ∨ 21 ≤ l2.toNatClampNeg)) ∧ WP X (d) 87 (37, [some (.ref 0), some (.int l1), some (.int l2), some (.int (l3 + (1 : Int32))), none], [], Wd f fl g (va_up gl 54 (vp_updL (gl 54) (l2.toNatClampNeg) (((gl 54) l2.toNatClampNeg) + ((gl 54) (l2 - ((g 3) l3.toNatClampNeg)).toNatClampNeg)))) hh v tx) P))) ∧
      ((¬ (0 ≤ (l2 - ((g 3) l3.toNatClampNeg)))) → ((¬ (l2 < 0 ∨ 21 ≤ l2.toNatClampNeg)) ∧ WP X (d) 87 (37, [some (.ref 0), some (.int l1), some (.int l2), some (.int (l3 + (1 : Int32))), none], [], Wd f fl g (va_up gl 54 (vp_updL (gl 54) (l2.toNatClampNeg) (((gl 54) l2.toNatClampNeg) + (0 : Int64)))) hh v tx) P))))))) :
    WP X (d) 87 (37, [some (.ref 0), some (.int l1), some (.int l2), some (.int l3), none], [], Wd f fl g gl hh v tx) P := by
  refine WP.run hP_87 4 (c' := (45, [some (.ref 0), some (.int l1), some (.int l2), some (.int l3), none], [.int (f 64), .int l3], Wd f fl g gl hh v tx)) rfl ?_
  refine WP.br hP_87 (q := (f 64) ≤ l3) (t := 92) (f := 48) (L := [some (.ref 0), some (.int l1), some (.int l2), some (.int l3), none]) (st := []) (w := Wd f fl g gl hh v tx) rfl (fun c1 => ?_) (fun c1 => ?_)
  · have h2 := h.1 c1
    refine WP.run hP_87 2 (c' := (23, [some (.ref 0), some (.int l1), some (.int (l2 + (1 : Int32))), none, none], [], Wd f fl g gl hh v tx)) rfl ?_
    exact h2
  · have h3 := h.2 c1
    refine WP.run hP_87 5 (c' := (57, [some (.ref 0), some (.int l1), some (.int l2), some (.int l3), none], [.int l3, .ref 3, .int l2], Wd f fl g gl hh v tx)) rfl ?_
    refine WP.of (fun _ _ => Ex.iald hP_87 rfl (Wa_3 _ _ _ _ _ _ _) h3.1) ?_
    have h4 := h3.2
    refine WP.run hP_87 6 (c' := (67, [some (.ref 0), some (.int l1), some (.int l2), some (.int l3), some (.int (l2 - ((g 3) l3.toNatClampNeg)))], [.int l2, .ref 54, .int l2, .ref 54], Wd f fl g gl hh v tx)) rfl ?_
    refine WP.of (fun _ _ => Ex.lald hP_87 rfl (Wa_54 _ _ _ _ _ _ _) h4.1) ?_
    have h5 := h4.2
    refine WP.run hP_87 1 (c' := (70, [some (.ref 0), some (.int l1), some (.int l2), some (.int l3), some (.int (l2 - ((g 3) l3.toNatClampNeg)))], [.int (l2 - ((g 3) l3.toNatClampNeg)), .long ((gl 54) l2.toNatClampNeg), .int l2, .ref 54], Wd f fl g gl hh v tx)) rfl ?_
    refine WP.br hP_87 (q := 0 ≤ (l2 - ((g 3) l3.toNatClampNeg))) (t := 77) (f := 73) (L := [some (.ref 0), some (.int l1), some (.int l2), some (.int l3), some (.int (l2 - ((g 3) l3.toNatClampNeg)))]) (st := [.long ((gl 54) l2.toNatClampNeg), .int l2, .ref 54]) (w := Wd f fl g gl hh v tx) rfl (fun c6 => ?_) (fun c6 => ?_)
    · have h7 := h5.1 c6
      refine WP.run hP_87 3 (c' := (83, [some (.ref 0), some (.int l1), some (.int l2), some (.int l3), some (.int (l2 - ((g 3) l3.toNatClampNeg)))], [.int (l2 - ((g 3) l3.toNatClampNeg)), .ref 54, .long ((gl 54) l2.toNatClampNeg), .int l2, .ref 54], Wd f fl g gl hh v tx)) rfl ?_
      refine WP.of (fun _ _ => Ex.lald hP_87 rfl (Wa_54 _ _ _ _ _ _ _) h7.1) ?_
      have h8 := h7.2
      refine WP.run hP_87 1 (c' := (85, [some (.ref 0), some (.int l1), some (.int l2), some (.int l3), none], [.long (((gl 54) l2.toNatClampNeg) + ((gl 54) (l2 - ((g 3) l3.toNatClampNeg)).toNatClampNeg)), .int l2, .ref 54], Wd f fl g gl hh v tx)) rfl ?_
      refine WP.of (fun _ _ => Ex.last hP_87 (w2 := Wd f fl g (va_up gl 54 (vp_updL (gl 54) (l2.toNatClampNeg) (((gl 54) l2.toNatClampNeg) + ((gl 54) (l2 - ((g 3) l3.toNatClampNeg)).toNatClampNeg)))) hh v tx) rfl (Wa_54 _ _ _ _ _ _ _) h8.1 (Ws_54 _ _ _ _ _ _ _ _)) ?_
      have h9 := h8.2
      refine WP.run hP_87 2 (c' := (37, [some (.ref 0), some (.int l1), some (.int l2), some (.int (l3 + (1 : Int32))), none], [], Wd f fl g (va_up gl 54 (vp_updL (gl 54) (l2.toNatClampNeg) (((gl 54) l2.toNatClampNeg) + ((gl 54) (l2 - ((g 3) l3.toNatClampNeg)).toNatClampNeg)))) hh v tx)) rfl ?_
      exact h9
    · have h10 := h5.2 c6
      refine WP.run hP_87 3 (c' := (85, [some (.ref 0), some (.int l1), some (.int l2), some (.int l3), none], [.long (((gl 54) l2.toNatClampNeg) + (0 : Int64)), .int l2, .ref 54], Wd f fl g gl hh v tx)) rfl ?_
      refine WP.of (fun _ _ => Ex.last hP_87 (w2 := Wd f fl g (va_up gl 54 (vp_updL (gl 54) (l2.toNatClampNeg) (((gl 54) l2.toNatClampNeg) + (0 : Int64)))) hh v tx) rfl (Wa_54 _ _ _ _ _ _ _) h10.1 (Ws_54 _ _ _ _ _ _ _ _)) ?_
      have h11 := h10.2
      refine WP.run hP_87 2 (c' := (37, [some (.ref 0), some (.int l1), some (.int l2), some (.int (l3 + (1 : Int32))), none], [], Wd f fl g (va_up gl 54 (vp_updL (gl 54) (l2.toNatClampNeg) (((gl 54) l2.toNatClampNeg) + (0 : Int64)))) hh v tx)) rfl ?_
      exact h11

set_option maxRecDepth 20000 in
theorem b_x_hangs_0 (X : mm_X) (d : Nat) (f : Nat → Int32) (fl : Nat → Int64) (g : Nat → Nat → Int32) (gl : Nat → Nat → Int64) (hh : Nat → Nat → Option Nat) (v : Nat → Value) (tx : mm_W) (p0 : Int64)  (P : Option Value → mm_W → Prop)
    (h : (((lg_cmp p0 0) < 0) → P (some (.int (-1))) (Wd f fl g gl hh v tx)) ∧
    ((¬ ((lg_cmp p0 0) < 0)) → ((((lg_cmp p0 3) ≤ 0) → ((((f 70) < 12) → WP X (d) 51 (0, [some (.ref 1), some (.int 0)], [], Wd (va_up (va_up f 71 ((((f 71) <<< ((2 : Int32) &&& (31 : Int32))) : Int32) ||| ((p0 : Int64).toInt32))) 70 ((f 70) + (1 : Int32))) fl g gl hh v tx) (fun rv w2 => WP X (d + 1) 105 (48, [some (.ref 0), some (.long p0), none], rv.toList ++ [], w2) P)) ∧
        ((¬ ((f 70) < 12)) → P (some (.int (-3))) (Wd f fl g gl hh v tx)))) ∧
      ((¬ ((lg_cmp p0 3) ≤ 0)) → P (some (.int (-1))) (Wd f fl g gl hh v tx))))) :
    WP X (d + 1) 105 (0, [some (.ref 0), some (.long p0), none], [], Wd f fl g gl hh v tx) P := by
  refine WP.run hP_105 3 (c' := (3, [some (.ref 0), some (.long p0), none], [.int (lg_cmp p0 0)], Wd f fl g gl hh v tx)) rfl ?_
  refine WP.br hP_105 (q := (lg_cmp p0 0) < 0) (t := 14) (f := 6) (L := [some (.ref 0), some (.long p0), none]) (st := []) (w := Wd f fl g gl hh v tx) rfl (fun c1 => ?_) (fun c1 => ?_)
  · have h2 := h.1 c1
    refine WP.run hP_105 1 (c' := (15, [none, none, none], [.int (-1)], Wd f fl g gl hh v tx)) rfl ?_
    exact WP.retI hP_105 rfl rfl h2
  · have h3 := h.2 c1
    refine WP.run hP_105 3 (c' := (11, [some (.ref 0), some (.long p0), none], [.int (lg_cmp p0 3)], Wd f fl g gl hh v tx)) rfl ?_
    refine WP.br hP_105 (q := (lg_cmp p0 3) ≤ 0) (t := 16) (f := 14) (L := [some (.ref 0), some (.long p0), none]) (st := []) (w := Wd f fl g gl hh v tx) rfl (fun c4 => ?_) (fun c4 => ?_)
    · have h5 := h3.1 c4
      refine WP.run hP_105 4 (c' := (25, [some (.ref 0), some (.long p0), none], [.int 12, .int (f 70)], Wd f fl g gl hh v tx)) rfl ?_
      refine WP.br hP_105 (q := (f 70) < 12) (t := 31) (f := 28) (L := [some (.ref 0), some (.long p0), none]) (st := []) (w := Wd f fl g gl hh v tx) rfl (fun c6 => ?_) (fun c6 => ?_)
      · have h7 := h5.1 c6
        refine WP.run hP_105 4 (c' := (37, [some (.ref 0), some (.long p0), none], [.int ((p0 : Int64).toInt32), .ref 1], Wd f fl g gl hh v tx)) rfl ?_
        refine WP.call hP_105 hP_49 (as := [.ref 1, .int ((p0 : Int64).toInt32)]) (pc' := 40) (L' := [some (.ref 0), some (.long p0), none]) (st' := []) (w1 := Wd f fl g gl hh v tx) rfl ⟨Nat.le_of_ble_eq_true rfl, Nat.le_of_ble_eq_true rfl⟩ rfl (b_yst_add_1_0 X (d) f fl g gl hh v tx ((p0 : Int64).toInt32) _ ?_)
        refine WP.run hP_105 3 (c' := (45, [some (.ref 0), some (.long p0), none], [.int 0, .ref 1], Wd (va_up (va_up f 71 ((((f 71) <<< ((2 : Int32) &&& (31 : Int32))) : Int32) ||| ((p0 : Int64).toInt32))) 70 ((f 70) + (1 : Int32))) fl g gl hh v tx)) rfl ?_
        refine WP.call hP_105 hP_51 (as := [.ref 1, .int 0]) (pc' := 48) (L' := [some (.ref 0), some (.long p0), none]) (st' := []) (w1 := Wd (va_up (va_up f 71 ((((f 71) <<< ((2 : Int32) &&& (31 : Int32))) : Int32) ||| ((p0 : Int64).toInt32))) 70 ((f 70) + (1 : Int32))) fl g gl hh v tx) rfl ⟨Nat.le_of_ble_eq_true rfl, Nat.le_of_ble_eq_true rfl⟩ rfl ?_
        exact h7
      · have h8 := h5.2 c6
        refine WP.run hP_105 1 (c' := (30, [some (.ref 0), some (.long p0), none], [.int (-3)], Wd f fl g gl hh v tx)) rfl ?_
        exact WP.retI hP_105 rfl rfl h8
    · have h9 := h3.2 c4
      refine WP.run hP_105 1 (c' := (15, [none, none, none], [.int (-1)], Wd f fl g gl hh v tx)) rfl ?_
      exact WP.retI hP_105 rfl rfl h9

set_option maxRecDepth 20000 in
theorem b_x_hangs_48 (X : mm_X) (d : Nat) (f : Nat → Int32) (fl : Nat → Int64) (g : Nat → Nat → Int32) (gl : Nat → Nat → Int64) (hh : Nat → Nat → Option Nat) (v : Nat → Value) (tx : mm_W) (l1 : Int64)  (P : Option Value → mm_W → Prop)
    (h : P (some (.int (f 70))) (Wd f fl g gl hh v tx)) :
    WP X (d) 105 (48, [some (.ref 0), some (.long l1), none], [], Wd f fl g gl hh v tx) P := by
  refine WP.run hP_105 3 (c' := (55, [some (.ref 0), some (.long l1), none], [.int (f 70)], Wd f fl g gl hh v tx)) rfl ?_
  exact WP.retI hP_105 rfl rfl h

set_option maxRecDepth 20000 in
theorem b_x_takes_0 (X : mm_X) (d : Nat) (f : Nat → Int32) (fl : Nat → Int64) (g : Nat → Nat → Int32) (gl : Nat → Nat → Int64) (hh : Nat → Nat → Option Nat) (v : Nat → Value) (tx : mm_W)   (P : Option Value → mm_W → Prop)
    (h : ((¬ (f 70) = 0) → WP X (d) 51 (0, [some (.ref 1), some (.int ((1 : Int32) ||| ((((f 71) &&& (3 : Int32)) <<< ((2 : Int32) &&& (31 : Int32))) : Int32)))], [], Wd (va_up (va_up f 71 (((f 71) >>> ((2 : Int32) &&& (31 : Int32))) : Int32)) 70 ((f 70) - (1 : Int32))) fl g gl hh v tx) (fun rv w2 => WP X (d + 1) 106 (42, [some (.ref 0), some (.int ((f 71) &&& (3 : Int32)))], rv.toList ++ [], w2) P)) ∧
    (((f 70) = 0) → P (some (.int (-3))) (Wd f fl g gl hh v tx))) :
    WP X (d + 1) 106 (0, [some (.ref 0), none], [], Wd f fl g gl hh v tx) P := by
  refine WP.run hP_106 3 (c' := (7, [some (.ref 0), none], [.int (f 70)], Wd f fl g gl hh v tx)) rfl ?_
  refine WP.br hP_106 (q := ¬ (f 70) = 0) (t := 13) (f := 10) (L := [some (.ref 0), none]) (st := []) (w := Wd f fl g gl hh v tx) rfl (fun c1 => ?_) (fun c1 => ?_)
  · have h2 := h.1 c1
    refine WP.run hP_106 5 (c' := (22, [some (.ref 0), none], [.int ((f 71) &&& (3 : Int32))], Wd f fl g gl hh v tx)) rfl ?_
    refine WP.run hP_106 3 (c' := (27, [some (.ref 0), some (.int ((f 71) &&& (3 : Int32)))], [.ref 1], Wd f fl g gl hh v tx)) rfl ?_
    refine WP.call hP_106 hP_50 (as := [.ref 1]) (pc' := 30) (L' := [some (.ref 0), some (.int ((f 71) &&& (3 : Int32)))]) (st' := []) (w1 := Wd f fl g gl hh v tx) rfl ⟨Nat.le_of_ble_eq_true rfl, Nat.le_of_ble_eq_true rfl⟩ rfl (b_yst_dropLast_1_0 X (d) f fl g gl hh v tx  _ ?_)
    refine WP.run hP_106 7 (c' := (39, [some (.ref 0), some (.int ((f 71) &&& (3 : Int32)))], [.int ((1 : Int32) ||| ((((f 71) &&& (3 : Int32)) <<< ((2 : Int32) &&& (31 : Int32))) : Int32)), .ref 1], Wd (va_up (va_up f 71 (((f 71) >>> ((2 : Int32) &&& (31 : Int32))) : Int32)) 70 ((f 70) - (1 : Int32))) fl g gl hh v tx)) rfl ?_
    refine WP.call hP_106 hP_51 (as := [.ref 1, .int ((1 : Int32) ||| ((((f 71) &&& (3 : Int32)) <<< ((2 : Int32) &&& (31 : Int32))) : Int32))]) (pc' := 42) (L' := [some (.ref 0), some (.int ((f 71) &&& (3 : Int32)))]) (st' := []) (w1 := Wd (va_up (va_up f 71 (((f 71) >>> ((2 : Int32) &&& (31 : Int32))) : Int32)) 70 ((f 70) - (1 : Int32))) fl g gl hh v tx) rfl ⟨Nat.le_of_ble_eq_true rfl, Nat.le_of_ble_eq_true rfl⟩ rfl ?_
    exact h2
  · have h3 := h.2 (Classical.not_not.mp c1)
    refine WP.run hP_106 1 (c' := (12, [some (.ref 0), none], [.int (-3)], Wd f fl g gl hh v tx)) rfl ?_
    exact WP.retI hP_106 rfl rfl h3

set_option maxRecDepth 20000 in
theorem b_x_takes_42 (X : mm_X) (d : Nat) (f : Nat → Int32) (fl : Nat → Int64) (g : Nat → Nat → Int32) (gl : Nat → Nat → Int64) (hh : Nat → Nat → Option Nat) (v : Nat → Value) (tx : mm_W) (l1 : Int32)  (P : Option Value → mm_W → Prop)
    (h : P (some (.int l1)) (Wd f fl g gl hh v tx)) :
    WP X (d) 106 (42, [some (.ref 0), some (.int l1)], [], Wd f fl g gl hh v tx) P := by
  refine WP.run hP_106 1 (c' := (43, [some (.ref 0), some (.int l1)], [.int l1], Wd f fl g gl hh v tx)) rfl ?_
  exact WP.retI hP_106 rfl rfl h

set_option maxRecDepth 20000 in
theorem b_x_passes_0 (X : mm_X) (d : Nat) (f : Nat → Int32) (fl : Nat → Int64) (g : Nat → Nat → Int32) (gl : Nat → Nat → Int64) (hh : Nat → Nat → Option Nat) (v : Nat → Value) (tx : mm_W)   (P : Option Value → mm_W → Prop)
    (h : ((((g 8) 0) < 999) → WP X (d) 51 (0, [some (.ref 1), some (.int 3)], [], Wd f fl (va_up g 8 (upd (g 8) 0 (((g 8) 0) + (1 : Int32)))) gl hh v tx) (fun rv w2 => WP X (d + 1) 108 (39, [some (.ref 0)], rv.toList ++ [], w2) P)) ∧
    ((¬ (((g 8) 0) < 999)) → P (some (.int (-3))) (Wd f fl g gl hh v tx))) :
    WP X (d + 1) 108 (0, [some (.ref 0)], [], Wd f fl g gl hh v tx) P := by
  refine WP.run hP_108 4 (c' := (8, [some (.ref 0)], [.int 0, .ref 8], Wd f fl g gl hh v tx)) rfl ?_
  refine WP.of (fun _ _ => Ex.iald hP_108 rfl (Wa_8 _ _ _ _ _ _ _) (by decide)) ?_
  show WP X _ 108 (9, [some (.ref 0)], [.int ((g 8) 0)], Wd f fl g gl hh v tx) P
  refine WP.run hP_108 1 (c' := (12, [some (.ref 0)], [.int 999, .int ((g 8) 0)], Wd f fl g gl hh v tx)) rfl ?_
  refine WP.br hP_108 (q := ((g 8) 0) < 999) (t := 18) (f := 15) (L := [some (.ref 0)]) (st := []) (w := Wd f fl g gl hh v tx) rfl (fun c1 => ?_) (fun c1 => ?_)
  · have h2 := h.1 c1
    refine WP.run hP_108 5 (c' := (27, [some (.ref 0)], [.int 0, .ref 8, .int 0, .ref 8], Wd f fl g gl hh v tx)) rfl ?_
    refine WP.of (fun _ _ => Ex.iald hP_108 rfl (Wa_8 _ _ _ _ _ _ _) (by decide)) ?_
    show WP X _ 108 (28, [some (.ref 0)], [.int ((g 8) 0), .int 0, .ref 8], Wd f fl g gl hh v tx) P
    refine WP.run hP_108 2 (c' := (30, [some (.ref 0)], [.int (((g 8) 0) + (1 : Int32)), .int 0, .ref 8], Wd f fl g gl hh v tx)) rfl ?_
    refine WP.of (fun _ _ => Ex.iast hP_108 (w2 := Wd f fl (va_up g 8 (upd (g 8) 0 (((g 8) 0) + (1 : Int32)))) gl hh v tx) rfl (Wa_8 _ _ _ _ _ _ _) (by decide) (Ws_8 _ _ _ _ _ _ _ _)) ?_
    refine WP.run hP_108 3 (c' := (36, [some (.ref 0)], [.int 3, .ref 1], Wd f fl (va_up g 8 (upd (g 8) 0 (((g 8) 0) + (1 : Int32)))) gl hh v tx)) rfl ?_
    refine WP.call hP_108 hP_51 (as := [.ref 1, .int 3]) (pc' := 39) (L' := [some (.ref 0)]) (st' := []) (w1 := Wd f fl (va_up g 8 (upd (g 8) 0 (((g 8) 0) + (1 : Int32)))) gl hh v tx) rfl ⟨Nat.le_of_ble_eq_true rfl, Nat.le_of_ble_eq_true rfl⟩ rfl ?_
    exact h2
  · have h3 := h.2 c1
    refine WP.run hP_108 1 (c' := (17, [some (.ref 0)], [.int (-3)], Wd f fl g gl hh v tx)) rfl ?_
    exact WP.retI hP_108 rfl rfl h3

set_option maxRecDepth 20000 in
theorem b_x_passes_39 (X : mm_X) (d : Nat) (f : Nat → Int32) (fl : Nat → Int64) (g : Nat → Nat → Int32) (gl : Nat → Nat → Int64) (hh : Nat → Nat → Option Nat) (v : Nat → Value) (tx : mm_W)   (P : Option Value → mm_W → Prop)
    (h : P (some (.int ((g 8) 0))) (Wd f fl g gl hh v tx)) :
    WP X (d) 108 (39, [some (.ref 0)], [], Wd f fl g gl hh v tx) P := by
  refine WP.run hP_108 4 (c' := (47, [some (.ref 0)], [.int 0, .ref 8], Wd f fl g gl hh v tx)) rfl ?_
  refine WP.of (fun _ _ => Ex.iald hP_108 rfl (Wa_8 _ _ _ _ _ _ _) (by decide)) ?_
  show WP X _ 108 (48, [some (.ref 0)], [.int ((g 8) 0)], Wd f fl g gl hh v tx) P
  exact WP.retI hP_108 rfl rfl h

set_option maxRecDepth 20000 in
theorem b_m_isSign_0 (X : mm_X) (d : Nat) (f : Nat → Int32) (fl : Nat → Int64) (g : Nat → Nat → Int32) (gl : Nat → Nat → Int64) (hh : Nat → Nat → Option Nat) (v : Nat → Value) (tx : mm_W) (p0 : Int32)  (P : Option Value → mm_W → Prop)
    (h : (((0 : Int32) ≤ p0 ∧ p0 ≤ (((g 76) 55) - (1 : Int32))) → P (some (.int 1)) (Wd f fl g gl hh v tx)) ∧
    ((¬ ((0 : Int32) ≤ p0 ∧ p0 ≤ (((g 76) 55) - (1 : Int32)))) → P (some (.int 0)) (Wd f fl g gl hh v tx))) :
    WP X (d + 1) 131 (0, [some (.ref 74), some (.int p0)], [], Wd f fl g gl hh v tx) P := by
  refine WP.run hP_131 3 (c' := (3, [some (.ref 74), some (.int p0)], [.ref 74, .int 0, .int p0], Wd f fl g gl hh v tx)) rfl ?_
  refine WP.call hP_131 hP_129 (as := [.ref 74]) (pc' := 6) (L' := [some (.ref 74), some (.int p0)]) (st' := [.int 0, .int p0]) (w1 := Wd f fl g gl hh v tx) rfl ⟨Nat.le_of_ble_eq_true rfl, Nat.le_of_ble_eq_true rfl⟩ rfl (b_m_signMany_0 X (d) f fl g gl hh v tx  _ ?_)
  refine WP.run hP_131 2 (c' := (8, [some (.ref 74), some (.int p0)], [.int (((g 76) 55) - (1 : Int32)), .int 0, .int p0], Wd f fl g gl hh v tx)) rfl ?_
  refine WP.call hP_131 hP_116 (as := [.int p0, .int 0, .int (((g 76) 55) - (1 : Int32))]) (pc' := 11) (L' := [some (.ref 74), some (.int p0)]) (st' := []) (w1 := Wd f fl g gl hh v tx) rfl ⟨Nat.le_of_ble_eq_true rfl, Nat.le_of_ble_eq_true rfl⟩ rfl (b_lies_m X (d) f fl g gl hh v tx p0 0 (((g 76) 55) - (1 : Int32)) _ ?_)
  refine ⟨fun c1 => ?_, fun c1 => ?_⟩
  · have h2 := h.1 c1
    exact WP.ret hP_131 (r := some (.int 1)) (w' := Wd f fl g gl hh v tx) rfl h2
  · have h3 := h.2 c1
    exact WP.ret hP_131 (r := some (.int 0)) (w' := Wd f fl g gl hh v tx) rfl h3

set_option maxRecDepth 20000 in
theorem b_m_at_0 (X : mm_X) (d : Nat) (f : Nat → Int32) (fl : Nat → Int64) (g : Nat → Nat → Int32) (gl : Nat → Nat → Int64) (hh : Nat → Nat → Option Nat) (v : Nat → Value) (tx : mm_W) (p0 : Int32) (p1 : Int32)  (P : Option Value → mm_W → Prop)
    (h : (((0 : Int32) ≤ p0 ∧ p0 ≤ (((g 76) 55) - (1 : Int32))) → (((p1 = 0) → ((¬ (((31 : Int32) + p0) < 0 ∨ 5667 ≤ ((31 : Int32) + p0).toNatClampNeg)) ∧ P (some (.int ((g 76) ((31 : Int32) + p0).toNatClampNeg))) (Wd f fl g gl hh v tx))) ∧
      ((¬ p1 = 0) → (((p1 = 1) → ((¬ (((39 : Int32) + p0) < 0 ∨ 5667 ≤ ((39 : Int32) + p0).toNatClampNeg)) ∧ P (some (.int ((g 76) ((39 : Int32) + p0).toNatClampNeg))) (Wd f fl g gl hh v tx))) ∧
        ((¬ p1 = 1) → (((p1 = 2) → ((¬ (((31 : Int32) + p0) < 0 ∨ 5667 ≤ ((31 : Int32) + p0).toNatClampNeg)) ∧ (((((g 76) ((31 : Int32) + p0).toNatClampNeg) ≤ (p1 - (2 : Int32))) → P (some (.int (-1))) (Wd f fl g gl hh v tx)) ∧
            ((¬ (((g 76) ((31 : Int32) + p0).toNatClampNeg) ≤ (p1 - (2 : Int32)))) → WP X (d + 1) 137 (0, [some (.ref 74), some (.int p0), some (.int (p1 - (2 : Int32))), none, none], [], Wd f fl g gl hh v tx) (fun rv w2 => WP X (d + 2) 138 (91, [some (.ref 74), some (.int p0), some (.int p1)], rv.toList ++ [], w2) P))))) ∧
          ((¬ p1 = 2) → (((p1 = 3) → ((¬ (((31 : Int32) + p0) < 0 ∨ 5667 ≤ ((31 : Int32) + p0).toNatClampNeg)) ∧ (((((g 76) ((31 : Int32) + p0).toNatClampNeg) ≤ (p1 - (2 : Int32))) → P (some (.int (-1))) (Wd f fl g gl hh v tx)) ∧
              ((¬ (((g 76) ((31 : Int32) + p0).toNatClampNeg) ≤ (p1 - (2 : Int32)))) → WP X (d + 1) 137 (0, [some (.ref 74), some (.int p0), some (.int (p1 - (2 : Int32))), none, none], [], Wd f fl g gl hh v tx) (fun rv w2 => WP X (d + 2) 138 (91, [some (.ref 74), some (.int p0), some (.int p1)], rv.toList ++ [], w2) P))))) ∧
            ((¬ p1 = 3) → (((p1 = 4) → ((¬ (((31 : Int32) + p0) < 0 ∨ 5667 ≤ ((31 : Int32) + p0).toNatClampNeg)) ∧ (((((g 76) ((31 : Int32) + p0).toNatClampNeg) ≤ (p1 - (2 : Int32))) → P (some (.int (-1))) (Wd f fl g gl hh v tx)) ∧
                ((¬ (((g 76) ((31 : Int32) + p0).toNatClampNeg) ≤ (p1 - (2 : Int32)))) → WP X (d + 1) 137 (0, [some (.ref 74), some (.int p0), some (.int (p1 - (2 : Int32))), none, none], [], Wd f fl g gl hh v tx) (fun rv w2 => WP X (d + 2) 138 (91, [some (.ref 74), some (.int p0), some (.int p1)], rv.toList ++ [], w2) P))))) ∧
              ((¬ p1 = 4) → (((p1 = 5) → ((¬ (((31 : Int32) + p0) < 0 ∨ 5667 ≤ ((31 : Int32) + p0).toNatClampNeg)) ∧ (((((g 76) ((31 : Int32) + p0).toNatClampNeg) ≤ (p1 - (2 : Int32))) → P (some (.int (-1))) (Wd f fl g gl hh v tx)) ∧
                  ((¬ (((g 76) ((31 : Int32) + p0).toNatClampNeg) ≤ (p1 - (2 : Int32)))) → WP X (d + 1) 137 (0, [some (.ref 74), some (.int p0), some (.int (p1 - (2 : Int32))), none, none], [], Wd f fl g gl hh v tx) (fun rv w2 => WP X (d + 2) 138 (91, [some (.ref 74), some (.int p0), some (.int p1)], rv.toList ++ [], w2) P))))) ∧
                ((¬ p1 = 5) → P (some (.int (-1))) (Wd f fl g gl hh v tx)))))))))))))) ∧
    ((¬ ((0 : Int32) ≤ p0 ∧ p0 ≤ (((g 76) 55) - (1 : Int32)))) → P (some (.int (-1))) (Wd f fl g gl hh v tx))) :
    WP X (d + 2) 138 (0, [some (.ref 74), some (.int p0), some (.int p1)], [], Wd f fl g gl hh v tx) P := by
  refine WP.run hP_138 2 (c' := (2, [some (.ref 74), some (.int p0), some (.int p1)], [.int p0, .ref 74], Wd f fl g gl hh v tx)) rfl ?_
  refine WP.call hP_138 hP_131 (as := [.ref 74, .int p0]) (pc' := 5) (L' := [some (.ref 74), some (.int p0), some (.int p1)]) (st' := []) (w1 := Wd f fl g gl hh v tx) rfl ⟨Nat.le_of_ble_eq_true rfl, Nat.le_of_ble_eq_true rfl⟩ rfl (b_m_isSign_0 X (d) f fl g gl hh v tx p0 _ ?_)
  refine ⟨fun c1 => ?_, fun c1 => ?_⟩
  · have h2 := h.1 c1
    refine WP.run hP_138 2 (c' := (11, [some (.ref 74), some (.int p0), some (.int p1)], [.int p1], Wd f fl g gl hh v tx)) rfl ?_
    refine WP.run hP_138 1 (c' := (mm_sw p1 0 [48, 58, 68, 68, 68, 68] 96, [some (.ref 74), some (.int p0), some (.int p1)], [], Wd f fl g gl hh v tx)) rfl ?_
    refine WP.sw (lo' := 1) rfl (fun c3 => ?_) (fun c3 => ?_)
    · have h4 := h2.1 c3
      refine WP.run hP_138 5 (c' := (56, [some (.ref 74), some (.int p0), none], [.int ((31 : Int32) + p0), .ref 76], Wd f fl g gl hh v tx)) rfl ?_
      refine WP.of (fun _ _ => Ex.iald hP_138 rfl (Wa_76 _ _ _ _ _ _ _) h4.1) ?_
      have h5 := h4.2
      exact WP.retI hP_138 rfl rfl h5
    · have h6 := h2.2 c3
      refine WP.sw (lo' := 2) rfl (fun c7 => ?_) (fun c7 => ?_)
      · have h8 := h6.1 c7
        refine WP.run hP_138 5 (c' := (66, [some (.ref 74), some (.int p0), none], [.int ((39 : Int32) + p0), .ref 76], Wd f fl g gl hh v tx)) rfl ?_
        refine WP.of (fun _ _ => Ex.iald hP_138 rfl (Wa_76 _ _ _ _ _ _ _) h8.1) ?_
        have h9 := h8.2
        exact WP.retI hP_138 rfl rfl h9
      · have h10 := h6.2 c7
        refine WP.sw (lo' := 3) rfl (fun c11 => ?_) (fun c11 => ?_)
        · have h12 := h10.1 c11
          refine WP.run hP_138 8 (c' := (79, [some (.ref 74), some (.int p0), some (.int p1)], [.int ((31 : Int32) + p0), .ref 76, .int (p1 - (2 : Int32))], Wd f fl g gl hh v tx)) rfl ?_
          refine WP.of (fun _ _ => Ex.iald hP_138 rfl (Wa_76 _ _ _ _ _ _ _) h12.1) ?_
          have h13 := h12.2
          refine WP.br hP_138 (q := ((g 76) ((31 : Int32) + p0).toNatClampNeg) ≤ (p1 - (2 : Int32))) (t := 94) (f := 83) (L := [some (.ref 74), some (.int p0), some (.int p1)]) (st := []) (w := Wd f fl g gl hh v tx) rfl (fun c14 => ?_) (fun c14 => ?_)
          · have h15 := h13.1 c14
            refine WP.run hP_138 1 (c' := (95, [none, none, none], [.int (-1)], Wd f fl g gl hh v tx)) rfl ?_
            exact WP.retI hP_138 rfl rfl h15
          · have h16 := h13.2 c14
            refine WP.run hP_138 5 (c' := (88, [some (.ref 74), some (.int p0), some (.int p1)], [.int (p1 - (2 : Int32)), .int p0, .ref 74], Wd f fl g gl hh v tx)) rfl ?_
            refine WP.call hP_138 hP_137 (as := [.ref 74, .int p0, .int (p1 - (2 : Int32))]) (pc' := 91) (L' := [some (.ref 74), some (.int p0), some (.int p1)]) (st' := []) (w1 := Wd f fl g gl hh v tx) rfl ⟨Nat.le_of_ble_eq_true rfl, Nat.le_of_ble_eq_true rfl⟩ rfl ?_
            exact h16
        · have h17 := h10.2 c11
          refine WP.sw (lo' := 4) rfl (fun c18 => ?_) (fun c18 => ?_)
          · have h19 := h17.1 c18
            refine WP.run hP_138 8 (c' := (79, [some (.ref 74), some (.int p0), some (.int p1)], [.int ((31 : Int32) + p0), .ref 76, .int (p1 - (2 : Int32))], Wd f fl g gl hh v tx)) rfl ?_
            refine WP.of (fun _ _ => Ex.iald hP_138 rfl (Wa_76 _ _ _ _ _ _ _) h19.1) ?_
            have h20 := h19.2
            refine WP.br hP_138 (q := ((g 76) ((31 : Int32) + p0).toNatClampNeg) ≤ (p1 - (2 : Int32))) (t := 94) (f := 83) (L := [some (.ref 74), some (.int p0), some (.int p1)]) (st := []) (w := Wd f fl g gl hh v tx) rfl (fun c21 => ?_) (fun c21 => ?_)
            · have h22 := h20.1 c21
              refine WP.run hP_138 1 (c' := (95, [none, none, none], [.int (-1)], Wd f fl g gl hh v tx)) rfl ?_
              exact WP.retI hP_138 rfl rfl h22
            · have h23 := h20.2 c21
              refine WP.run hP_138 5 (c' := (88, [some (.ref 74), some (.int p0), some (.int p1)], [.int (p1 - (2 : Int32)), .int p0, .ref 74], Wd f fl g gl hh v tx)) rfl ?_
              refine WP.call hP_138 hP_137 (as := [.ref 74, .int p0, .int (p1 - (2 : Int32))]) (pc' := 91) (L' := [some (.ref 74), some (.int p0), some (.int p1)]) (st' := []) (w1 := Wd f fl g gl hh v tx) rfl ⟨Nat.le_of_ble_eq_true rfl, Nat.le_of_ble_eq_true rfl⟩ rfl ?_
              exact h23
          · have h24 := h17.2 c18
            refine WP.sw (lo' := 5) rfl (fun c25 => ?_) (fun c25 => ?_)
            · have h26 := h24.1 c25
              refine WP.run hP_138 8 (c' := (79, [some (.ref 74), some (.int p0), some (.int p1)], [.int ((31 : Int32) + p0), .ref 76, .int (p1 - (2 : Int32))], Wd f fl g gl hh v tx)) rfl ?_
              refine WP.of (fun _ _ => Ex.iald hP_138 rfl (Wa_76 _ _ _ _ _ _ _) h26.1) ?_
              have h27 := h26.2
              refine WP.br hP_138 (q := ((g 76) ((31 : Int32) + p0).toNatClampNeg) ≤ (p1 - (2 : Int32))) (t := 94) (f := 83) (L := [some (.ref 74), some (.int p0), some (.int p1)]) (st := []) (w := Wd f fl g gl hh v tx) rfl (fun c28 => ?_) (fun c28 => ?_)
              · have h29 := h27.1 c28
                refine WP.run hP_138 1 (c' := (95, [none, none, none], [.int (-1)], Wd f fl g gl hh v tx)) rfl ?_
                exact WP.retI hP_138 rfl rfl h29
              · have h30 := h27.2 c28
                refine WP.run hP_138 5 (c' := (88, [some (.ref 74), some (.int p0), some (.int p1)], [.int (p1 - (2 : Int32)), .int p0, .ref 74], Wd f fl g gl hh v tx)) rfl ?_
                refine WP.call hP_138 hP_137 (as := [.ref 74, .int p0, .int (p1 - (2 : Int32))]) (pc' := 91) (L' := [some (.ref 74), some (.int p0), some (.int p1)]) (st' := []) (w1 := Wd f fl g gl hh v tx) rfl ⟨Nat.le_of_ble_eq_true rfl, Nat.le_of_ble_eq_true rfl⟩ rfl ?_
                exact h30
            · have h31 := h24.2 c25
              refine WP.sw (lo' := 6) rfl (fun c32 => ?_) (fun c32 => ?_)
              · have h33 := h31.1 c32
                refine WP.run hP_138 8 (c' := (79, [some (.ref 74), some (.int p0), some (.int p1)], [.int ((31 : Int32) + p0), .ref 76, .int (p1 - (2 : Int32))], Wd f fl g gl hh v tx)) rfl ?_
                refine WP.of (fun _ _ => Ex.iald hP_138 rfl (Wa_76 _ _ _ _ _ _ _) h33.1) ?_
                have h34 := h33.2
                refine WP.br hP_138 (q := ((g 76) ((31 : Int32) + p0).toNatClampNeg) ≤ (p1 - (2 : Int32))) (t := 94) (f := 83) (L := [some (.ref 74), some (.int p0), some (.int p1)]) (st := []) (w := Wd f fl g gl hh v tx) rfl (fun c35 => ?_) (fun c35 => ?_)
                · have h36 := h34.1 c35
                  refine WP.run hP_138 1 (c' := (95, [none, none, none], [.int (-1)], Wd f fl g gl hh v tx)) rfl ?_
                  exact WP.retI hP_138 rfl rfl h36
                · have h37 := h34.2 c35
                  refine WP.run hP_138 5 (c' := (88, [some (.ref 74), some (.int p0), some (.int p1)], [.int (p1 - (2 : Int32)), .int p0, .ref 74], Wd f fl g gl hh v tx)) rfl ?_
                  refine WP.call hP_138 hP_137 (as := [.ref 74, .int p0, .int (p1 - (2 : Int32))]) (pc' := 91) (L' := [some (.ref 74), some (.int p0), some (.int p1)]) (st' := []) (w1 := Wd f fl g gl hh v tx) rfl ⟨Nat.le_of_ble_eq_true rfl, Nat.le_of_ble_eq_true rfl⟩ rfl ?_
                  exact h37
              · have h38 := h31.2 c32
                show WP X _ 138 (96, [some (.ref 74), some (.int p0), some (.int p1)], [], Wd f fl g gl hh v tx) P
                refine WP.run hP_138 1 (c' := (97, [none, none, none], [.int (-1)], Wd f fl g gl hh v tx)) rfl ?_
                exact WP.retI hP_138 rfl rfl h38
  · have h39 := h.2 c1
    refine WP.run hP_138 2 (c' := (9, [some (.ref 74), some (.int p0), some (.int p1)], [.int (-1)], Wd f fl g gl hh v tx)) rfl ?_
    exact WP.retI hP_138 rfl rfl h39

set_option maxRecDepth 20000 in
theorem b_m_at_91 (X : mm_X) (d : Nat) (f : Nat → Int32) (fl : Nat → Int64) (g : Nat → Nat → Int32) (gl : Nat → Nat → Int64) (hh : Nat → Nat → Option Nat) (v : Nat → Value) (tx : mm_W) (l1 : Int32) (l2 : Int32) (s0 : Int32)  (P : Option Value → mm_W → Prop)
    (h : P (some (.int s0)) (Wd f fl g gl hh v tx)) :
    WP X (d) 138 (91, [some (.ref 74), some (.int l1), some (.int l2)], [.int s0], Wd f fl g gl hh v tx) P := by
  refine WP.run hP_138 1 (c' := (95, [some (.ref 74), some (.int l1), some (.int l2)], [.int s0], Wd f fl g gl hh v tx)) rfl ?_
  exact WP.retI hP_138 rfl rfl h

set_option maxRecDepth 20000 in
theorem b_m_end_0 (X : mm_X) (d : Nat) (f : Nat → Int32) (fl : Nat → Int64) (g : Nat → Nat → Int32) (gl : Nat → Nat → Int64) (hh : Nat → Nat → Option Nat) (v : Nat → Value) (tx : mm_W) (p0 : Int32)  (P : Option Value → mm_W → Prop)
    (h : (((0 : Int32) ≤ p0 ∧ p0 ≤ (f 4749)) → P (some (.int p0)) (Wd (va_up f 4749 p0) fl g gl hh v tx)) ∧
    ((¬ ((0 : Int32) ≤ p0 ∧ p0 ≤ (f 4749))) → P (some (.int (-1))) (Wd f fl g gl hh v tx))) :
    WP X (d + 1) 150 (0, [some (.ref 74), some (.int p0)], [], Wd f fl g gl hh v tx) P := by
  refine WP.run hP_150 4 (c' := (6, [some (.ref 74), some (.int p0)], [.int (f 4749), .int 0, .int p0], Wd f fl g gl hh v tx)) rfl ?_
  refine WP.call hP_150 hP_116 (as := [.int p0, .int 0, .int (f 4749)]) (pc' := 9) (L' := [some (.ref 74), some (.int p0)]) (st' := []) (w1 := Wd f fl g gl hh v tx) rfl ⟨Nat.le_of_ble_eq_true rfl, Nat.le_of_ble_eq_true rfl⟩ rfl (b_lies_m X (d) f fl g gl hh v tx p0 0 (f 4749) _ ?_)
  refine ⟨fun c1 => ?_, fun c1 => ?_⟩
  · have h2 := h.1 c1
    refine WP.run hP_150 5 (c' := (20, [some (.ref 74), some (.int p0)], [.int p0], Wd (va_up f 4749 p0) fl g gl hh v tx)) rfl ?_
    exact WP.retI hP_150 rfl rfl h2
  · have h3 := h.2 c1
    refine WP.run hP_150 2 (c' := (13, [some (.ref 74), some (.int p0)], [.int (-1)], Wd f fl g gl hh v tx)) rfl ?_
    exact WP.retI hP_150 rfl rfl h3

set_option maxRecDepth 20000 in
theorem b_m_rows_0 (X : mm_X) (d : Nat) (f : Nat → Int32) (fl : Nat → Int64) (g : Nat → Nat → Int32) (gl : Nat → Nat → Int64) (hh : Nat → Nat → Option Nat) (v : Nat → Value) (tx : mm_W) (p0 : Int32)  (P : Option Value → mm_W → Prop)
    (h : (((0 : Int32) ≤ p0 ∧ p0 ≤ (20 : Int32)) → WP X (d + 1) 227 (23, [some (.ref 74), some (.int p0), some (.int 1), none], [], Wd f fl g (va_up gl 94 (vp_updL (gl 94) 0 1)) hh v tx) P) ∧
    ((¬ ((0 : Int32) ≤ p0 ∧ p0 ≤ (20 : Int32))) → P (some (.long (-1))) (Wd f fl g gl hh v tx))) :
    WP X (d + 1) 227 (0, [some (.ref 74), some (.int p0), none, none], [], Wd f fl g gl hh v tx) P := by
  refine WP.run hP_227 3 (c' := (4, [some (.ref 74), some (.int p0), none, none], [.int 20, .int 0, .int p0], Wd f fl g gl hh v tx)) rfl ?_
  refine WP.call hP_227 hP_116 (as := [.int p0, .int 0, .int 20]) (pc' := 7) (L' := [some (.ref 74), some (.int p0), none, none]) (st' := []) (w1 := Wd f fl g gl hh v tx) rfl ⟨Nat.le_of_ble_eq_true rfl, Nat.le_of_ble_eq_true rfl⟩ rfl (b_lies_m X (d) f fl g gl hh v tx p0 0 20 _ ?_)
  refine ⟨fun c1 => ?_, fun c1 => ?_⟩
  · have h2 := h.1 c1
    refine WP.run hP_227 5 (c' := (20, [some (.ref 74), some (.int p0), none, none], [.long 1, .int 0, .ref 94], Wd f fl g gl hh v tx)) rfl ?_
    refine WP.of (fun _ _ => Ex.last hP_227 (w2 := Wd f fl g (va_up gl 94 (vp_updL (gl 94) 0 1)) hh v tx) rfl (Wa_94 _ _ _ _ _ _ _) (by decide) (Ws_94 _ _ _ _ _ _ _ _)) ?_
    refine WP.run hP_227 2 (c' := (23, [some (.ref 74), some (.int p0), some (.int 1), none], [], Wd f fl g (va_up gl 94 (vp_updL (gl 94) 0 1)) hh v tx)) rfl ?_
    exact h2
  · have h3 := h.2 c1
    refine WP.run hP_227 2 (c' := (13, [some (.ref 74), some (.int p0), none, none], [.long (-1)], Wd f fl g gl hh v tx)) rfl ?_
    exact WP.ret hP_227 (r := some (.long (-1))) (w' := Wd f fl g gl hh v tx) rfl h3

set_option maxRecDepth 20000 in
theorem b_m_rows_23 (X : mm_X) (d : Nat) (f : Nat → Int32) (fl : Nat → Int64) (g : Nat → Nat → Int32) (gl : Nat → Nat → Int64) (hh : Nat → Nat → Option Nat) (v : Nat → Value) (tx : mm_W) (l1 : Int32) (l2 : Int32)  (P : Option Value → mm_W → Prop)
    (h : ((l1 < l2) → ((¬ (l1 < 0 ∨ 21 ≤ l1.toNatClampNeg)) ∧ P (some (.long ((gl 94) l1.toNatClampNeg))) (Wd f fl g gl hh v tx))) ∧
    ((¬ (l1 < l2)) → ((¬ (l2 < 0 ∨ 21 ≤ l2.toNatClampNeg)) ∧ WP X (d) 227 (37, [some (.ref 74), some (.int l1), some (.int l2), some (.int 0)], [], Wd f fl g (va_up gl 94 (vp_updL (gl 94) (l2.toNatClampNeg) 0)) hh v tx) P))) :
    WP X (d) 227 (23, [some (.ref 74), some (.int l1), some (.int l2), none], [], Wd f fl g gl hh v tx) P := by
  refine WP.run hP_227 2 (c' := (25, [some (.ref 74), some (.int l1), some (.int l2), none], [.int l1, .int l2], Wd f fl g gl hh v tx)) rfl ?_
  refine WP.br hP_227 (q := l1 < l2) (t := 99) (f := 28) (L := [some (.ref 74), some (.int l1), some (.int l2), none]) (st := []) (w := Wd f fl g gl hh v tx) rfl (fun c1 => ?_) (fun c1 => ?_)
  · have h2 := h.1 c1
    refine WP.run hP_227 3 (c' := (104, [some (.ref 74), some (.int l1), none, none], [.int l1, .ref 94], Wd f fl g gl hh v tx)) rfl ?_
    refine WP.of (fun _ _ => Ex.lald hP_227 rfl (Wa_94 _ _ _ _ _ _ _) h2.1) ?_
    have h3 := h2.2
    exact WP.ret hP_227 (r := some (.long ((gl 94) l1.toNatClampNeg))) (w' := Wd f fl g gl hh v tx) rfl h3
  · have h4 := h.2 c1
    refine WP.run hP_227 4 (c' := (34, [some (.ref 74), some (.int l1), some (.int l2), none], [.long 0, .int l2, .ref 94], Wd f fl g gl hh v tx)) rfl ?_
    refine WP.of (fun _ _ => Ex.last hP_227 (w2 := Wd f fl g (va_up gl 94 (vp_updL (gl 94) (l2.toNatClampNeg) 0)) hh v tx) rfl (Wa_94 _ _ _ _ _ _ _) h4.1 (Ws_94 _ _ _ _ _ _ _ _)) ?_
    have h5 := h4.2
    refine WP.run hP_227 2 (c' := (37, [some (.ref 74), some (.int l1), some (.int l2), some (.int 0)], [], Wd f fl g (va_up gl 94 (vp_updL (gl 94) (l2.toNatClampNeg) 0)) hh v tx)) rfl ?_
    exact h5

set_option maxRecDepth 20000 in
theorem b_m_rows_37 (X : mm_X) (d : Nat) (f : Nat → Int32) (fl : Nat → Int64) (g : Nat → Nat → Int32) (gl : Nat → Nat → Int64) (hh : Nat → Nat → Option Nat) (v : Nat → Value) (tx : mm_W) (l1 : Int32) (l2 : Int32) (l3 : Int32)  (P : Option Value → mm_W → Prop)
    (h : ((((g 76) 55) ≤ l3) → WP X (d + 1) 227 (23, [some (.ref 74), some (.int l1), some (.int (l2 + (1 : Int32))), none], [], Wd f fl g gl hh v tx) P) ∧
    ((¬ (((g 76) 55) ≤ l3)) → ((¬ (l2 < 0 ∨ 21 ≤ l2.toNatClampNeg)) ∧ ((¬ (((31 : Int32) + l3) < 0 ∨ 5667 ≤ ((31 : Int32) + l3).toNatClampNeg)) ∧ (((l2 < ((g 76) ((31 : Int32) + l3).toNatClampNeg)) → ((¬ (l2 < 0 ∨ 21 ≤ l2.toNatClampNeg)) ∧ WP X (d + 1) 227 (37, [some (.ref 74), some (.int l1), some (.int l2), some (.int (l3 + (1 : Int32)))], [], Wd f fl g (va_up gl 94 (vp_updL (gl 94) (l2.toNatClampNeg) (((gl 94) l2.toNatClampNeg) + (0 : Int64)))) hh v tx) P)) ∧
      ((¬ (l2 < ((g 76) ((31 : Int32) + l3).toNatClampNeg))) → ((¬ (((31 : Int32) + l3) < 0 ∨ 5667 ≤ ((31 : Int32) + l3).toNatClampNeg)) ∧ ((¬ ((l2 - ((g 76) ((31 : Int32) + l3).toNatClampNeg)) < 0 ∨ 21 ≤ (l2 - ((g 76) ((31 : Int32) + l3).toNatClampNeg)).toNatClampNeg)) ∧ ((¬ (l2 < 0 ∨ 21 ≤ l2.toNatClampNeg)) ∧ WP X (d + 1) 227 (37, [some (.ref 74), some (.int l1), some (.int l2), some (.int (l3 + (1 : Int32)))], [], Wd f fl g (va_up gl 94 (vp_updL (gl 94) (l2.toNatClampNeg) (((gl 94) l2.toNatClampNeg) + ((gl 94) (l2 - ((g 76) ((31 : Int32) + l3).toNatClampNeg)).toNatClampNeg)))) hh v tx) P))))))))) :
    WP X (d + 1) 227 (37, [some (.ref 74), some (.int l1), some (.int l2), some (.int l3)], [], Wd f fl g gl hh v tx) P := by
  refine WP.run hP_227 2 (c' := (39, [some (.ref 74), some (.int l1), some (.int l2), some (.int l3)], [.ref 74, .int l3], Wd f fl g gl hh v tx)) rfl ?_
  refine WP.call hP_227 hP_129 (as := [.ref 74]) (pc' := 42) (L' := [some (.ref 74), some (.int l1), some (.int l2), some (.int l3)]) (st' := [.int l3]) (w1 := Wd f fl g gl hh v tx) rfl ⟨Nat.le_of_ble_eq_true rfl, Nat.le_of_ble_eq_true rfl⟩ rfl (b_m_signMany_0 X (d) f fl g gl hh v tx  _ ?_)
  refine WP.br hP_227 (q := ((g 76) 55) ≤ l3) (t := 93) (f := 45) (L := [some (.ref 74), some (.int l1), some (.int l2), some (.int l3)]) (st := []) (w := Wd f fl g gl hh v tx) rfl (fun c1 => ?_) (fun c1 => ?_)
  · have h2 := h.1 c1
    refine WP.run hP_227 2 (c' := (23, [some (.ref 74), some (.int l1), some (.int (l2 + (1 : Int32))), none], [], Wd f fl g gl hh v tx)) rfl ?_
    exact h2
  · have h3 := h.2 c1
    refine WP.run hP_227 4 (c' := (51, [some (.ref 74), some (.int l1), some (.int l2), some (.int l3)], [.int l2, .ref 94, .int l2, .ref 94], Wd f fl g gl hh v tx)) rfl ?_
    refine WP.of (fun _ _ => Ex.lald hP_227 rfl (Wa_94 _ _ _ _ _ _ _) h3.1) ?_
    have h4 := h3.2
    refine WP.run hP_227 5 (c' := (60, [some (.ref 74), some (.int l1), some (.int l2), some (.int l3)], [.int ((31 : Int32) + l3), .ref 76, .long ((gl 94) l2.toNatClampNeg), .int l2, .ref 94], Wd f fl g gl hh v tx)) rfl ?_
    refine WP.of (fun _ _ => Ex.iald hP_227 rfl (Wa_76 _ _ _ _ _ _ _) h4.1) ?_
    have h5 := h4.2
    refine WP.run hP_227 1 (c' := (62, [some (.ref 74), some (.int l1), some (.int l2), some (.int l3)], [.int l2, .int ((g 76) ((31 : Int32) + l3).toNatClampNeg), .long ((gl 94) l2.toNatClampNeg), .int l2, .ref 94], Wd f fl g gl hh v tx)) rfl ?_
    refine WP.br hP_227 (q := l2 < ((g 76) ((31 : Int32) + l3).toNatClampNeg)) (t := 84) (f := 65) (L := [some (.ref 74), some (.int l1), some (.int l2), some (.int l3)]) (st := [.long ((gl 94) l2.toNatClampNeg), .int l2, .ref 94]) (w := Wd f fl g gl hh v tx) rfl (fun c6 => ?_) (fun c6 => ?_)
    · have h7 := h5.1 c6
      refine WP.run hP_227 2 (c' := (86, [some (.ref 74), some (.int l1), some (.int l2), some (.int l3)], [.long (((gl 94) l2.toNatClampNeg) + (0 : Int64)), .int l2, .ref 94], Wd f fl g gl hh v tx)) rfl ?_
      refine WP.of (fun _ _ => Ex.last hP_227 (w2 := Wd f fl g (va_up gl 94 (vp_updL (gl 94) (l2.toNatClampNeg) (((gl 94) l2.toNatClampNeg) + (0 : Int64)))) hh v tx) rfl (Wa_94 _ _ _ _ _ _ _) h7.1 (Ws_94 _ _ _ _ _ _ _ _)) ?_
      have h8 := h7.2
      refine WP.run hP_227 2 (c' := (37, [some (.ref 74), some (.int l1), some (.int l2), some (.int (l3 + (1 : Int32)))], [], Wd f fl g (va_up gl 94 (vp_updL (gl 94) (l2.toNatClampNeg) (((gl 94) l2.toNatClampNeg) + (0 : Int64)))) hh v tx)) rfl ?_
      exact h8
    · have h9 := h5.2 c6
      refine WP.run hP_227 8 (c' := (78, [some (.ref 74), some (.int l1), some (.int l2), some (.int l3)], [.int ((31 : Int32) + l3), .ref 76, .int l2, .ref 94, .long ((gl 94) l2.toNatClampNeg), .int l2, .ref 94], Wd f fl g gl hh v tx)) rfl ?_
      refine WP.of (fun _ _ => Ex.iald hP_227 rfl (Wa_76 _ _ _ _ _ _ _) h9.1) ?_
      have h10 := h9.2
      refine WP.run hP_227 1 (c' := (80, [some (.ref 74), some (.int l1), some (.int l2), some (.int l3)], [.int (l2 - ((g 76) ((31 : Int32) + l3).toNatClampNeg)), .ref 94, .long ((gl 94) l2.toNatClampNeg), .int l2, .ref 94], Wd f fl g gl hh v tx)) rfl ?_
      refine WP.of (fun _ _ => Ex.lald hP_227 rfl (Wa_94 _ _ _ _ _ _ _) h10.1) ?_
      have h11 := h10.2
      refine WP.run hP_227 2 (c' := (86, [some (.ref 74), some (.int l1), some (.int l2), some (.int l3)], [.long (((gl 94) l2.toNatClampNeg) + ((gl 94) (l2 - ((g 76) ((31 : Int32) + l3).toNatClampNeg)).toNatClampNeg)), .int l2, .ref 94], Wd f fl g gl hh v tx)) rfl ?_
      refine WP.of (fun _ _ => Ex.last hP_227 (w2 := Wd f fl g (va_up gl 94 (vp_updL (gl 94) (l2.toNatClampNeg) (((gl 94) l2.toNatClampNeg) + ((gl 94) (l2 - ((g 76) ((31 : Int32) + l3).toNatClampNeg)).toNatClampNeg)))) hh v tx) rfl (Wa_94 _ _ _ _ _ _ _) h11.1 (Ws_94 _ _ _ _ _ _ _ _)) ?_
      have h12 := h11.2
      refine WP.run hP_227 2 (c' := (37, [some (.ref 74), some (.int l1), some (.int l2), some (.int (l3 + (1 : Int32)))], [], Wd f fl g (va_up gl 94 (vp_updL (gl 94) (l2.toNatClampNeg) (((gl 94) l2.toNatClampNeg) + ((gl 94) (l2 - ((g 76) ((31 : Int32) + l3).toNatClampNeg)).toNatClampNeg)))) hh v tx)) rfl ?_
      exact h12

set_option maxRecDepth 20000 in
theorem b_m_keeps_0 (X : mm_X) (d : Nat) (f : Nat → Int32) (fl : Nat → Int64) (g : Nat → Nat → Int32) (gl : Nat → Nat → Int64) (hh : Nat → Nat → Option Nat) (v : Nat → Value) (tx : mm_W) (p0 : Int32)  (P : Option Value → mm_W → Prop)
    (h : ((¬ (f 4777) = 16) → WP X (d) 232 (54, [some (.ref 74), some (.int p0), some (.int 24), some (.int 0)], [], Wd f fl g gl hh v tx) P) ∧
    (((f 4777) = 16) → WP X (d) 232 (14, [some (.ref 74), some (.int p0), some (.int 24), some (.int 0)], [], Wd f fl g gl hh v tx) P)) :
    WP X (d) 232 (0, [some (.ref 74), some (.int p0), none, none], [], Wd f fl g gl hh v tx) P := by
  refine WP.run hP_232 5 (c' := (9, [some (.ref 74), some (.int p0), some (.int 24), none], [.int 16, .int (f 4777)], Wd f fl g gl hh v tx)) rfl ?_
  refine WP.br hP_232 (q := ¬ (f 4777) = 16) (t := 52) (f := 12) (L := [some (.ref 74), some (.int p0), some (.int 24), none]) (st := []) (w := Wd f fl g gl hh v tx) rfl (fun c1 => ?_) (fun c1 => ?_)
  · have h2 := h.1 c1
    refine WP.run hP_232 1 (c' := (53, [some (.ref 74), some (.int p0), some (.int 24), none], [.int 0], Wd f fl g gl hh v tx)) rfl ?_
    refine WP.run hP_232 1 (c' := (54, [some (.ref 74), some (.int p0), some (.int 24), some (.int 0)], [], Wd f fl g gl hh v tx)) rfl ?_
    exact h2
  · have h3 := h.2 (Classical.not_not.mp c1)
    refine WP.run hP_232 2 (c' := (14, [some (.ref 74), some (.int p0), some (.int 24), some (.int 0)], [], Wd f fl g gl hh v tx)) rfl ?_
    exact h3

set_option maxRecDepth 20000 in
theorem b_m_keeps_54 (X : mm_X) (d : Nat) (f : Nat → Int32) (fl : Nat → Int64) (g : Nat → Nat → Int32) (gl : Nat → Nat → Int64) (hh : Nat → Nat → Option Nat) (v : Nat → Value) (tx : mm_W) (l1 : Int32) (l2 : Int32) (l3 : Int32)  (P : Option Value → mm_W → Prop)
    (h : ((23 ≤ l3) → ((¬ (((l2 * (f 4777)) + (23 : Int32)) < 0 ∨ 384 ≤ ((l2 * (f 4777)) + (23 : Int32)).toNatClampNeg)) ∧ P none (Wd (va_up f 4777 ((f 4777) + (1 : Int32))) fl (va_up g 97 (upd (g 97) (((l2 * (f 4777)) + (23 : Int32)).toNatClampNeg) l1)) gl hh v tx))) ∧
    ((¬ (23 ≤ l3)) → ((¬ (l3 < 0 ∨ 5667 ≤ l3.toNatClampNeg)) ∧ ((¬ (((l2 * (f 4777)) + l3) < 0 ∨ 384 ≤ ((l2 * (f 4777)) + l3).toNatClampNeg)) ∧ WP X (d) 232 (54, [some (.ref 74), some (.int l1), some (.int l2), some (.int (l3 + (1 : Int32)))], [], Wd f fl (va_up g 97 (upd (g 97) (((l2 * (f 4777)) + l3).toNatClampNeg) ((g 76) l3.toNatClampNeg))) gl hh v tx) P)))) :
    WP X (d) 232 (54, [some (.ref 74), some (.int l1), some (.int l2), some (.int l3)], [], Wd f fl g gl hh v tx) P := by
  refine WP.run hP_232 2 (c' := (57, [some (.ref 74), some (.int l1), some (.int l2), some (.int l3)], [.int 23, .int l3], Wd f fl g gl hh v tx)) rfl ?_
  refine WP.br hP_232 (q := 23 ≤ l3) (t := 85) (f := 60) (L := [some (.ref 74), some (.int l1), some (.int l2), some (.int l3)]) (st := []) (w := Wd f fl g gl hh v tx) rfl (fun c1 => ?_) (fun c1 => ?_)
  · have h2 := h.1 c1
    refine WP.run hP_232 9 (c' := (99, [some (.ref 74), some (.int l1), some (.int l2), none], [.int l1, .int ((l2 * (f 4777)) + (23 : Int32)), .ref 97], Wd f fl g gl hh v tx)) rfl ?_
    refine WP.of (fun _ _ => Ex.iast hP_232 (w2 := Wd f fl (va_up g 97 (upd (g 97) (((l2 * (f 4777)) + (23 : Int32)).toNatClampNeg) l1)) gl hh v tx) rfl (Wa_97 _ _ _ _ _ _ _) h2.1 (Ws_97 _ _ _ _ _ _ _ _)) ?_
    have h3 := h2.2
    refine WP.run hP_232 6 (c' := (110, [some (.ref 74), some (.int l1), some (.int l2), none], [], Wd (va_up f 4777 ((f 4777) + (1 : Int32))) fl (va_up g 97 (upd (g 97) (((l2 * (f 4777)) + (23 : Int32)).toNatClampNeg) l1)) gl hh v tx)) rfl ?_
    exact WP.ret hP_232 (r := none) (w' := Wd (va_up f 4777 ((f 4777) + (1 : Int32))) fl (va_up g 97 (upd (g 97) (((l2 * (f 4777)) + (23 : Int32)).toNatClampNeg) l1)) gl hh v tx) rfl h3
  · have h4 := h.2 c1
    refine WP.run hP_232 11 (c' := (77, [some (.ref 74), some (.int l1), some (.int l2), some (.int l3)], [.int l3, .ref 76, .int ((l2 * (f 4777)) + l3), .ref 97], Wd f fl g gl hh v tx)) rfl ?_
    refine WP.of (fun _ _ => Ex.iald hP_232 rfl (Wa_76 _ _ _ _ _ _ _) h4.1) ?_
    have h5 := h4.2
    refine WP.of (fun _ _ => Ex.iast hP_232 (w2 := Wd f fl (va_up g 97 (upd (g 97) (((l2 * (f 4777)) + l3).toNatClampNeg) ((g 76) l3.toNatClampNeg))) gl hh v tx) rfl (Wa_97 _ _ _ _ _ _ _) h5.1 (Ws_97 _ _ _ _ _ _ _ _)) ?_
    have h6 := h5.2
    refine WP.run hP_232 2 (c' := (54, [some (.ref 74), some (.int l1), some (.int l2), some (.int (l3 + (1 : Int32)))], [], Wd f fl (va_up g 97 (upd (g 97) (((l2 * (f 4777)) + l3).toNatClampNeg) ((g 76) l3.toNatClampNeg))) gl hh v tx)) rfl ?_
    exact h6

set_option maxRecDepth 20000 in
theorem b_m_keeps_14 (X : mm_X) (d : Nat) (f : Nat → Int32) (fl : Nat → Int64) (g : Nat → Nat → Int32) (gl : Nat → Nat → Int64) (hh : Nat → Nat → Option Nat) (v : Nat → Value) (tx : mm_W) (l1 : Int32) (l2 : Int32) (l3 : Int32)  (P : Option Value → mm_W → Prop)
    (h : ((((15 : Int32) * l2) ≤ l3) → WP X (d) 232 (54, [some (.ref 74), some (.int l1), some (.int l2), some (.int 0)], [], Wd (va_up f 4777 ((f 4777) - (1 : Int32))) fl g gl hh v tx) P) ∧
    ((¬ (((15 : Int32) * l2) ≤ l3)) → ((¬ ((l3 + l2) < 0 ∨ 384 ≤ (l3 + l2).toNatClampNeg)) ∧ ((¬ (l3 < 0 ∨ 384 ≤ l3.toNatClampNeg)) ∧ WP X (d) 232 (14, [some (.ref 74), some (.int l1), some (.int l2), some (.int (l3 + (1 : Int32)))], [], Wd f fl (va_up g 97 (upd (g 97) (l3.toNatClampNeg) ((g 97) (l3 + l2).toNatClampNeg))) gl hh v tx) P)))) :
    WP X (d) 232 (14, [some (.ref 74), some (.int l1), some (.int l2), some (.int l3)], [], Wd f fl g gl hh v tx) P := by
  refine WP.run hP_232 4 (c' := (19, [some (.ref 74), some (.int l1), some (.int l2), some (.int l3)], [.int ((15 : Int32) * l2), .int l3], Wd f fl g gl hh v tx)) rfl ?_
  refine WP.br hP_232 (q := ((15 : Int32) * l2) ≤ l3) (t := 42) (f := 22) (L := [some (.ref 74), some (.int l1), some (.int l2), some (.int l3)]) (st := []) (w := Wd f fl g gl hh v tx) rfl (fun c1 => ?_) (fun c1 => ?_)
  · have h2 := h.1 c1
    refine WP.run hP_232 6 (c' := (52, [some (.ref 74), some (.int l1), some (.int l2), none], [], Wd (va_up f 4777 ((f 4777) - (1 : Int32))) fl g gl hh v tx)) rfl ?_
    refine WP.run hP_232 1 (c' := (53, [some (.ref 74), some (.int l1), some (.int l2), none], [.int 0], Wd (va_up f 4777 ((f 4777) - (1 : Int32))) fl g gl hh v tx)) rfl ?_
    refine WP.run hP_232 1 (c' := (54, [some (.ref 74), some (.int l1), some (.int l2), some (.int 0)], [], Wd (va_up f 4777 ((f 4777) - (1 : Int32))) fl g gl hh v tx)) rfl ?_
    exact h2
  · have h3 := h.2 c1
    refine WP.run hP_232 8 (c' := (34, [some (.ref 74), some (.int l1), some (.int l2), some (.int l3)], [.int (l3 + l2), .ref 97, .int l3, .ref 97], Wd f fl g gl hh v tx)) rfl ?_
    refine WP.of (fun _ _ => Ex.iald hP_232 rfl (Wa_97 _ _ _ _ _ _ _) h3.1) ?_
    have h4 := h3.2
    refine WP.of (fun _ _ => Ex.iast hP_232 (w2 := Wd f fl (va_up g 97 (upd (g 97) (l3.toNatClampNeg) ((g 97) (l3 + l2).toNatClampNeg))) gl hh v tx) rfl (Wa_97 _ _ _ _ _ _ _) h4.1 (Ws_97 _ _ _ _ _ _ _ _)) ?_
    have h5 := h4.2
    refine WP.run hP_232 2 (c' := (14, [some (.ref 74), some (.int l1), some (.int l2), some (.int (l3 + (1 : Int32)))], [], Wd f fl (va_up g 97 (upd (g 97) (l3.toNatClampNeg) ((g 97) (l3 + l2).toNatClampNeg))) gl hh v tx)) rfl ?_
    exact h5

set_option maxRecDepth 20000 in
theorem b_m_undo_0 (X : mm_X) (d : Nat) (f : Nat → Int32) (fl : Nat → Int64) (g : Nat → Nat → Int32) (gl : Nat → Nat → Int64) (hh : Nat → Nat → Option Nat) (v : Nat → Value) (tx : mm_W)   (P : Option Value → mm_W → Prop)
    (h : ((¬ (f 4777) = 0) → WP X (d + 1) 233 (34, [some (.ref 74), some (.int ((24 : Int32) * ((f 4777) - (1 : Int32)))), some (.int 0)], [], Wd (va_up f 4777 ((f 4777) - (1 : Int32))) fl g gl hh v tx) P) ∧
    (((f 4777) = 0) → P (some (.int (-3))) (Wd (va_up f 4736 (-3 : Int32)) fl (va_up g 75 (upd (g 75) (3) (((g 75) 3) + (1 : Int32)))) gl hh v tx))) :
    WP X (d + 1) 233 (0, [some (.ref 74), none, none], [], Wd f fl g gl hh v tx) P := by
  refine WP.run hP_233 2 (c' := (4, [some (.ref 74), none, none], [.int (f 4777)], Wd f fl g gl hh v tx)) rfl ?_
  refine WP.br hP_233 (q := ¬ (f 4777) = 0) (t := 14) (f := 7) (L := [some (.ref 74), none, none]) (st := []) (w := Wd f fl g gl hh v tx) rfl (fun c1 => ?_) (fun c1 => ?_)
  · have h2 := h.1 c1
    refine WP.run hP_233 10 (c' := (31, [some (.ref 74), none, none], [.int ((24 : Int32) * ((f 4777) - (1 : Int32)))], Wd (va_up f 4777 ((f 4777) - (1 : Int32))) fl g gl hh v tx)) rfl ?_
    refine WP.run hP_233 2 (c' := (33, [some (.ref 74), some (.int ((24 : Int32) * ((f 4777) - (1 : Int32)))), none], [.int 0], Wd (va_up f 4777 ((f 4777) - (1 : Int32))) fl g gl hh v tx)) rfl ?_
    refine WP.run hP_233 1 (c' := (34, [some (.ref 74), some (.int ((24 : Int32) * ((f 4777) - (1 : Int32)))), some (.int 0)], [], Wd (va_up f 4777 ((f 4777) - (1 : Int32))) fl g gl hh v tx)) rfl ?_
    exact h2
  · have h3 := h.2 (Classical.not_not.mp c1)
    refine WP.run hP_233 2 (c' := (10, [some (.ref 74), none, none], [.int (-3), .ref 74], Wd f fl g gl hh v tx)) rfl ?_
    refine WP.call hP_233 hP_119 (as := [.ref 74, .int (-3)]) (pc' := 13) (L' := [some (.ref 74), none, none]) (st' := []) (w1 := Wd f fl g gl hh v tx) rfl ⟨Nat.le_of_ble_eq_true rfl, Nat.le_of_ble_eq_true rfl⟩ rfl (b_m_refuses_0 X (d) f fl g gl hh v tx (-3) _ ?_)
    refine ⟨by decide, ?_⟩
    refine ⟨by decide, ?_⟩
    exact WP.retI hP_233 rfl rfl h3

set_option maxRecDepth 20000 in
theorem b_m_undo_34 (X : mm_X) (d : Nat) (f : Nat → Int32) (fl : Nat → Int64) (g : Nat → Nat → Int32) (gl : Nat → Nat → Int64) (hh : Nat → Nat → Option Nat) (v : Nat → Value) (tx : mm_W) (l1 : Int32) (l2 : Int32)  (P : Option Value → mm_W → Prop)
    (h : ((23 ≤ l2) → ((¬ ((l1 + (23 : Int32)) < 0 ∨ 384 ≤ (l1 + (23 : Int32)).toNatClampNeg)) ∧ P (some (.int ((g 97) (l1 + (23 : Int32)).toNatClampNeg))) (Wd (va_up f 4736 0) fl g gl hh v tx))) ∧
    ((¬ (23 ≤ l2)) → ((¬ ((l1 + l2) < 0 ∨ 384 ≤ (l1 + l2).toNatClampNeg)) ∧ ((¬ (l2 < 0 ∨ 5667 ≤ l2.toNatClampNeg)) ∧ WP X (d + 1) 233 (34, [some (.ref 74), some (.int l1), some (.int (l2 + (1 : Int32)))], [], Wd f fl (va_up g 76 (upd (g 76) (l2.toNatClampNeg) ((g 97) (l1 + l2).toNatClampNeg))) gl hh v tx) P)))) :
    WP X (d + 1) 233 (34, [some (.ref 74), some (.int l1), some (.int l2)], [], Wd f fl g gl hh v tx) P := by
  refine WP.run hP_233 2 (c' := (37, [some (.ref 74), some (.int l1), some (.int l2)], [.int 23, .int l2], Wd f fl g gl hh v tx)) rfl ?_
  refine WP.br hP_233 (q := 23 ≤ l2) (t := 60) (f := 40) (L := [some (.ref 74), some (.int l1), some (.int l2)]) (st := []) (w := Wd f fl g gl hh v tx) rfl (fun c1 => ?_) (fun c1 => ?_)
  · have h2 := h.1 c1
    refine WP.run hP_233 6 (c' := (69, [some (.ref 74), some (.int l1), none], [.int (l1 + (23 : Int32)), .ref 97, .ref 74], Wd f fl g gl hh v tx)) rfl ?_
    refine WP.of (fun _ _ => Ex.iald hP_233 rfl (Wa_97 _ _ _ _ _ _ _) h2.1) ?_
    have h3 := h2.2
    refine WP.call hP_233 hP_120 (as := [.ref 74, .int ((g 97) (l1 + (23 : Int32)).toNatClampNeg)]) (pc' := 73) (L' := [some (.ref 74), some (.int l1), none]) (st' := []) (w1 := Wd f fl g gl hh v tx) rfl ⟨Nat.le_of_ble_eq_true rfl, Nat.le_of_ble_eq_true rfl⟩ rfl (b_m_good_0 X (d) f fl g gl hh v tx ((g 97) (l1 + (23 : Int32)).toNatClampNeg) _ ?_)
    exact WP.retI hP_233 rfl rfl h3
  · have h4 := h.2 c1
    refine WP.run hP_233 8 (c' := (52, [some (.ref 74), some (.int l1), some (.int l2)], [.int (l1 + l2), .ref 97, .int l2, .ref 76], Wd f fl g gl hh v tx)) rfl ?_
    refine WP.of (fun _ _ => Ex.iald hP_233 rfl (Wa_97 _ _ _ _ _ _ _) h4.1) ?_
    have h5 := h4.2
    refine WP.of (fun _ _ => Ex.iast hP_233 (w2 := Wd f fl (va_up g 76 (upd (g 76) (l2.toNatClampNeg) ((g 97) (l1 + l2).toNatClampNeg))) gl hh v tx) rfl (Wa_76 _ _ _ _ _ _ _) h5.1 (Ws_76 _ _ _ _ _ _ _ _)) ?_
    have h6 := h5.2
    refine WP.run hP_233 2 (c' := (34, [some (.ref 74), some (.int l1), some (.int (l2 + (1 : Int32)))], [], Wd f fl (va_up g 76 (upd (g 76) (l2.toNatClampNeg) ((g 97) (l1 + l2).toNatClampNeg))) gl hh v tx)) rfl ?_
    exact h6

set_option maxRecDepth 20000 in
theorem b_m_goodOr_0 (X : mm_X) (d : Nat) (f : Nat → Int32) (fl : Nat → Int64) (g : Nat → Nat → Int32) (gl : Nat → Nat → Int64) (hh : Nat → Nat → Option Nat) (v : Nat → Value) (tx : mm_W) (p0 : Int32)  (P : Option Value → mm_W → Prop)
    (h : ((0 ≤ p0) → P (some (.int p0)) (Wd (va_up f 4736 0) fl g gl hh v tx)) ∧
    ((¬ (0 ≤ p0)) → ((¬ ((-p0) < 0 ∨ 7 ≤ (-p0).toNatClampNeg)) ∧ ((¬ ((-p0) < 0 ∨ 7 ≤ (-p0).toNatClampNeg)) ∧ P (some (.int p0)) (Wd (va_up f 4736 p0) fl (va_up g 75 (upd (g 75) ((-p0).toNatClampNeg) (((g 75) (-p0).toNatClampNeg) + (1 : Int32)))) gl hh v tx))))) :
    WP X (d + 1) 234 (0, [some (.ref 74), some (.int p0)], [], Wd f fl g gl hh v tx) P := by
  refine WP.run hP_234 1 (c' := (1, [some (.ref 74), some (.int p0)], [.int p0], Wd f fl g gl hh v tx)) rfl ?_
  refine WP.br hP_234 (q := 0 ≤ p0) (t := 12) (f := 4) (L := [some (.ref 74), some (.int p0)]) (st := []) (w := Wd f fl g gl hh v tx) rfl (fun c1 => ?_) (fun c1 => ?_)
  · have h2 := h.1 c1
    refine WP.run hP_234 2 (c' := (14, [some (.ref 74), some (.int p0)], [.int p0, .ref 74], Wd f fl g gl hh v tx)) rfl ?_
    refine WP.call hP_234 hP_120 (as := [.ref 74, .int p0]) (pc' := 17) (L' := [some (.ref 74), some (.int p0)]) (st' := []) (w1 := Wd f fl g gl hh v tx) rfl ⟨Nat.le_of_ble_eq_true rfl, Nat.le_of_ble_eq_true rfl⟩ rfl (b_m_good_0 X (d) f fl g gl hh v tx p0 _ ?_)
    exact WP.retI hP_234 rfl rfl h2
  · have h3 := h.2 c1
    refine WP.run hP_234 2 (c' := (6, [some (.ref 74), some (.int p0)], [.int p0, .ref 74], Wd f fl g gl hh v tx)) rfl ?_
    refine WP.call hP_234 hP_119 (as := [.ref 74, .int p0]) (pc' := 9) (L' := [some (.ref 74), some (.int p0)]) (st' := []) (w1 := Wd f fl g gl hh v tx) rfl ⟨Nat.le_of_ble_eq_true rfl, Nat.le_of_ble_eq_true rfl⟩ rfl (b_m_refuses_0 X (d) f fl g gl hh v tx p0 _ ?_)
    refine ⟨h3.1, ?_⟩
    have h4 := h3.2
    refine ⟨h4.1, ?_⟩
    have h5 := h4.2
    refine WP.run hP_234 1 (c' := (17, [some (.ref 74), some (.int p0)], [.int p0], Wd (va_up f 4736 p0) fl (va_up g 75 (upd (g 75) ((-p0).toNatClampNeg) (((g 75) (-p0).toNatClampNeg) + (1 : Int32)))) gl hh v tx)) rfl ?_
    exact WP.retI hP_234 rfl rfl h5

set_option maxRecDepth 20000 in
theorem b_m_hangs_0 (X : mm_X) (d : Nat) (f : Nat → Int32) (fl : Nat → Int64) (g : Nat → Nat → Int32) (gl : Nat → Nat → Int64) (hh : Nat → Nat → Option Nat) (v : Nat → Value) (tx : mm_W) (p0 : Int32)  (P : Option Value → mm_W → Prop)
    (h : (¬ (((0 : Int32) + ((g 76) 12)) < 0 ∨ 5667 ≤ ((0 : Int32) + ((g 76) 12)).toNatClampNeg)) ∧ P none (Wd f fl (va_up (va_up g 76 (upd (g 76) (((0 : Int32) + ((g 76) 12)).toNatClampNeg) p0)) 76 (upd (upd (g 76) (((0 : Int32) + ((g 76) 12)).toNatClampNeg) p0) 12 (((upd (g 76) (((0 : Int32) + ((g 76) 12)).toNatClampNeg) p0) 12) + (1 : Int32)))) gl hh v tx)) :
    WP X (d + 1) 235 (0, [some (.ref 74), some (.int p0)], [], Wd f fl g gl hh v tx) P := by
  refine WP.run hP_235 4 (c' := (6, [some (.ref 74), some (.int p0)], [.ref 74, .int 0, .ref 76], Wd f fl g gl hh v tx)) rfl ?_
  refine WP.call hP_235 hP_130 (as := [.ref 74]) (pc' := 9) (L' := [some (.ref 74), some (.int p0)]) (st' := [.int 0, .ref 76]) (w1 := Wd f fl g gl hh v tx) rfl ⟨Nat.le_of_ble_eq_true rfl, Nat.le_of_ble_eq_true rfl⟩ rfl (b_m_size_0 X (d) f fl g gl hh v tx  _ ?_)
  refine WP.run hP_235 2 (c' := (11, [some (.ref 74), some (.int p0)], [.int p0, .int ((0 : Int32) + ((g 76) 12)), .ref 76], Wd f fl g gl hh v tx)) rfl ?_
  refine WP.of (fun _ _ => Ex.iast hP_235 (w2 := Wd f fl (va_up g 76 (upd (g 76) (((0 : Int32) + ((g 76) 12)).toNatClampNeg) p0)) gl hh v tx) rfl (Wa_76 _ _ _ _ _ _ _) h.1 (Ws_76 _ _ _ _ _ _ _ _)) ?_
  have h1 := h.2
  refine WP.run hP_235 4 (c' := (19, [some (.ref 74), some (.int p0)], [.int 12, .ref 76, .int 12, .ref 76], Wd f fl (va_up g 76 (upd (g 76) (((0 : Int32) + ((g 76) 12)).toNatClampNeg) p0)) gl hh v tx)) rfl ?_
  refine WP.of (fun _ _ => Ex.iald hP_235 rfl (Wa_76 _ _ _ _ _ _ _) (by decide)) ?_
  show WP X _ 235 (20, [some (.ref 74), some (.int p0)], [.int ((upd (g 76) (((0 : Int32) + ((g 76) 12)).toNatClampNeg) p0) 12), .int 12, .ref 76], Wd f fl (va_up g 76 (upd (g 76) (((0 : Int32) + ((g 76) 12)).toNatClampNeg) p0)) gl hh v tx) P
  refine WP.run hP_235 2 (c' := (22, [some (.ref 74), some (.int p0)], [.int (((upd (g 76) (((0 : Int32) + ((g 76) 12)).toNatClampNeg) p0) 12) + (1 : Int32)), .int 12, .ref 76], Wd f fl (va_up g 76 (upd (g 76) (((0 : Int32) + ((g 76) 12)).toNatClampNeg) p0)) gl hh v tx)) rfl ?_
  refine WP.of (fun _ _ => Ex.iast hP_235 (w2 := Wd f fl (va_up (va_up g 76 (upd (g 76) (((0 : Int32) + ((g 76) 12)).toNatClampNeg) p0)) 76 (upd (upd (g 76) (((0 : Int32) + ((g 76) 12)).toNatClampNeg) p0) 12 (((upd (g 76) (((0 : Int32) + ((g 76) 12)).toNatClampNeg) p0) 12) + (1 : Int32)))) gl hh v tx) rfl (Wa_76 _ _ _ _ _ _ _) (by decide) (Ws_76 _ _ _ _ _ _ _ _)) ?_
  exact WP.ret hP_235 (r := none) (w' := Wd f fl (va_up (va_up g 76 (upd (g 76) (((0 : Int32) + ((g 76) 12)).toNatClampNeg) p0)) 76 (upd (upd (g 76) (((0 : Int32) + ((g 76) 12)).toNatClampNeg) p0) 12 (((upd (g 76) (((0 : Int32) + ((g 76) 12)).toNatClampNeg) p0) 12) + (1 : Int32)))) gl hh v tx) rfl h1

set_option maxRecDepth 20000 in
theorem b_m_hangsKept_0 (X : mm_X) (d : Nat) (f : Nat → Int32) (fl : Nat → Int64) (g : Nat → Nat → Int32) (gl : Nat → Nat → Int64) (hh : Nat → Nat → Option Nat) (v : Nat → Value) (tx : mm_W) (p0 : Int32)  (P : Option Value → mm_W → Prop)
    (h : (((0 : Int32) ≤ p0 ∧ p0 ≤ (3 : Int32)) → (((¬ ((g 76) 12) = 12) → WP X (d) 232 (0, [some (.ref 74), some (.int 0), none, none], [], Wd f fl g gl hh v tx) (fun rv w2 => WP X (d + 1) 236 (28, [some (.ref 74), some (.int p0)], rv.toList ++ [], w2) P)) ∧
      ((((g 76) 12) = 12) → P (some (.int (-3))) (Wd f fl g gl hh v tx)))) ∧
    ((¬ ((0 : Int32) ≤ p0 ∧ p0 ≤ (3 : Int32))) → P (some (.int (-1))) (Wd f fl g gl hh v tx))) :
    WP X (d + 1) 236 (0, [some (.ref 74), some (.int p0)], [], Wd f fl g gl hh v tx) P := by
  refine WP.run hP_236 3 (c' := (3, [some (.ref 74), some (.int p0)], [.int 3, .int 0, .int p0], Wd f fl g gl hh v tx)) rfl ?_
  refine WP.call hP_236 hP_116 (as := [.int p0, .int 0, .int 3]) (pc' := 6) (L' := [some (.ref 74), some (.int p0)]) (st' := []) (w1 := Wd f fl g gl hh v tx) rfl ⟨Nat.le_of_ble_eq_true rfl, Nat.le_of_ble_eq_true rfl⟩ rfl (b_lies_m X (d) f fl g gl hh v tx p0 0 3 _ ?_)
  refine ⟨fun c1 => ?_, fun c1 => ?_⟩
  · have h2 := h.1 c1
    refine WP.run hP_236 2 (c' := (12, [some (.ref 74), some (.int p0)], [.ref 74], Wd f fl g gl hh v tx)) rfl ?_
    refine WP.call hP_236 hP_130 (as := [.ref 74]) (pc' := 15) (L' := [some (.ref 74), some (.int p0)]) (st' := []) (w1 := Wd f fl g gl hh v tx) rfl ⟨Nat.le_of_ble_eq_true rfl, Nat.le_of_ble_eq_true rfl⟩ rfl (b_m_size_0 X (d) f fl g gl hh v tx  _ ?_)
    refine WP.run hP_236 1 (c' := (17, [some (.ref 74), some (.int p0)], [.int 12, .int ((g 76) 12)], Wd f fl g gl hh v tx)) rfl ?_
    refine WP.br hP_236 (q := ¬ ((g 76) 12) = 12) (t := 23) (f := 20) (L := [some (.ref 74), some (.int p0)]) (st := []) (w := Wd f fl g gl hh v tx) rfl (fun c3 => ?_) (fun c3 => ?_)
    · have h4 := h2.1 c3
      refine WP.run hP_236 2 (c' := (25, [some (.ref 74), some (.int p0)], [.int 0, .ref 74], Wd f fl g gl hh v tx)) rfl ?_
      refine WP.call hP_236 hP_232 (as := [.ref 74, .int 0]) (pc' := 28) (L' := [some (.ref 74), some (.int p0)]) (st' := []) (w1 := Wd f fl g gl hh v tx) rfl ⟨Nat.le_of_ble_eq_true rfl, Nat.le_of_ble_eq_true rfl⟩ rfl ?_
      exact h4
    · have h5 := h2.2 (Classical.not_not.mp c3)
      refine WP.run hP_236 1 (c' := (22, [some (.ref 74), some (.int p0)], [.int (-3)], Wd f fl g gl hh v tx)) rfl ?_
      exact WP.retI hP_236 rfl rfl h5
  · have h6 := h.2 c1
    refine WP.run hP_236 2 (c' := (10, [some (.ref 74), some (.int p0)], [.int (-1)], Wd f fl g gl hh v tx)) rfl ?_
    exact WP.retI hP_236 rfl rfl h6

set_option maxRecDepth 20000 in
theorem b_m_hangsKept_28 (X : mm_X) (d : Nat) (f : Nat → Int32) (fl : Nat → Int64) (g : Nat → Nat → Int32) (gl : Nat → Nat → Int64) (hh : Nat → Nat → Option Nat) (v : Nat → Value) (tx : mm_W) (l1 : Int32)  (P : Option Value → mm_W → Prop)
    (h : (¬ (((0 : Int32) + ((g 76) 12)) < 0 ∨ 5667 ≤ ((0 : Int32) + ((g 76) 12)).toNatClampNeg)) ∧ P (some (.int ((upd (upd (g 76) (((0 : Int32) + ((g 76) 12)).toNatClampNeg) l1) 12 (((upd (g 76) (((0 : Int32) + ((g 76) 12)).toNatClampNeg) l1) 12) + (1 : Int32))) 12))) (Wd f fl (va_up (va_up g 76 (upd (g 76) (((0 : Int32) + ((g 76) 12)).toNatClampNeg) l1)) 76 (upd (upd (g 76) (((0 : Int32) + ((g 76) 12)).toNatClampNeg) l1) 12 (((upd (g 76) (((0 : Int32) + ((g 76) 12)).toNatClampNeg) l1) 12) + (1 : Int32)))) gl hh v tx)) :
    WP X (d + 2) 236 (28, [some (.ref 74), some (.int l1)], [], Wd f fl g gl hh v tx) P := by
  refine WP.run hP_236 2 (c' := (30, [some (.ref 74), some (.int l1)], [.int l1, .ref 74], Wd f fl g gl hh v tx)) rfl ?_
  refine WP.call hP_236 hP_235 (as := [.ref 74, .int l1]) (pc' := 33) (L' := [some (.ref 74), some (.int l1)]) (st' := []) (w1 := Wd f fl g gl hh v tx) rfl ⟨Nat.le_of_ble_eq_true rfl, Nat.le_of_ble_eq_true rfl⟩ rfl (b_m_hangs_0 X (d) f fl g gl hh v tx l1 _ ?_)
  refine ⟨h.1, ?_⟩
  have h1 := h.2
  refine WP.run hP_236 1 (c' := (34, [some (.ref 74), some (.int l1)], [.ref 74], Wd f fl (va_up (va_up g 76 (upd (g 76) (((0 : Int32) + ((g 76) 12)).toNatClampNeg) l1)) 76 (upd (upd (g 76) (((0 : Int32) + ((g 76) 12)).toNatClampNeg) l1) 12 (((upd (g 76) (((0 : Int32) + ((g 76) 12)).toNatClampNeg) l1) 12) + (1 : Int32)))) gl hh v tx)) rfl ?_
  refine WP.call hP_236 hP_130 (as := [.ref 74]) (pc' := 37) (L' := [some (.ref 74), some (.int l1)]) (st' := []) (w1 := Wd f fl (va_up (va_up g 76 (upd (g 76) (((0 : Int32) + ((g 76) 12)).toNatClampNeg) l1)) 76 (upd (upd (g 76) (((0 : Int32) + ((g 76) 12)).toNatClampNeg) l1) 12 (((upd (g 76) (((0 : Int32) + ((g 76) 12)).toNatClampNeg) l1) 12) + (1 : Int32)))) gl hh v tx) rfl ⟨Nat.le_of_ble_eq_true rfl, Nat.le_of_ble_eq_true rfl⟩ rfl (b_m_size_0 X (d + 1) f fl (va_up (va_up g 76 (upd (g 76) (((0 : Int32) + ((g 76) 12)).toNatClampNeg) l1)) 76 (upd (upd (g 76) (((0 : Int32) + ((g 76) 12)).toNatClampNeg) l1) 12 (((upd (g 76) (((0 : Int32) + ((g 76) 12)).toNatClampNeg) l1) 12) + (1 : Int32)))) gl hh v tx  _ ?_)
  exact WP.retI hP_236 rfl rfl h1

set_option maxRecDepth 20000 in
theorem b_m_takesKept_0 (X : mm_X) (d : Nat) (f : Nat → Int32) (fl : Nat → Int64) (g : Nat → Nat → Int32) (gl : Nat → Nat → Int64) (hh : Nat → Nat → Option Nat) (v : Nat → Value) (tx : mm_W)   (P : Option Value → mm_W → Prop)
    (h : ((¬ ((g 76) 12) = 0) → WP X (d) 232 (0, [some (.ref 74), some (.int 1), none, none], [], Wd f fl g gl hh v tx) (fun rv w2 => WP X (d + 1) 237 (15, [some (.ref 74)], rv.toList ++ [], w2) P)) ∧
    ((((g 76) 12) = 0) → P (some (.int (-3))) (Wd f fl g gl hh v tx))) :
    WP X (d + 1) 237 (0, [some (.ref 74)], [], Wd f fl g gl hh v tx) P := by
  refine WP.run hP_237 1 (c' := (1, [some (.ref 74)], [.ref 74], Wd f fl g gl hh v tx)) rfl ?_
  refine WP.call hP_237 hP_130 (as := [.ref 74]) (pc' := 4) (L' := [some (.ref 74)]) (st' := []) (w1 := Wd f fl g gl hh v tx) rfl ⟨Nat.le_of_ble_eq_true rfl, Nat.le_of_ble_eq_true rfl⟩ rfl (b_m_size_0 X (d) f fl g gl hh v tx  _ ?_)
  refine WP.br hP_237 (q := ¬ ((g 76) 12) = 0) (t := 10) (f := 7) (L := [some (.ref 74)]) (st := []) (w := Wd f fl g gl hh v tx) rfl (fun c1 => ?_) (fun c1 => ?_)
  · have h2 := h.1 c1
    refine WP.run hP_237 2 (c' := (12, [some (.ref 74)], [.int 1, .ref 74], Wd f fl g gl hh v tx)) rfl ?_
    refine WP.call hP_237 hP_232 (as := [.ref 74, .int 1]) (pc' := 15) (L' := [some (.ref 74)]) (st' := []) (w1 := Wd f fl g gl hh v tx) rfl ⟨Nat.le_of_ble_eq_true rfl, Nat.le_of_ble_eq_true rfl⟩ rfl ?_
    exact h2
  · have h3 := h.2 (Classical.not_not.mp c1)
    refine WP.run hP_237 1 (c' := (9, [some (.ref 74)], [.int (-3)], Wd f fl g gl hh v tx)) rfl ?_
    exact WP.retI hP_237 rfl rfl h3

set_option maxRecDepth 20000 in
theorem b_m_takesKept_15 (X : mm_X) (d : Nat) (f : Nat → Int32) (fl : Nat → Int64) (g : Nat → Nat → Int32) (gl : Nat → Nat → Int64) (hh : Nat → Nat → Option Nat) (v : Nat → Value) (tx : mm_W)   (P : Option Value → mm_W → Prop)
    (h : (¬ (((0 : Int32) + ((upd (g 76) 12 (((g 76) 12) - (1 : Int32))) 12)) < 0 ∨ 5667 ≤ ((0 : Int32) + ((upd (g 76) 12 (((g 76) 12) - (1 : Int32))) 12)).toNatClampNeg)) ∧ P (some (.int ((upd (g 76) 12 (((g 76) 12) - (1 : Int32))) ((0 : Int32) + ((upd (g 76) 12 (((g 76) 12) - (1 : Int32))) 12)).toNatClampNeg))) (Wd f fl (va_up g 76 (upd (g 76) 12 (((g 76) 12) - (1 : Int32)))) gl hh v tx)) :
    WP X (d + 1) 237 (15, [some (.ref 74)], [], Wd f fl g gl hh v tx) P := by
  refine WP.run hP_237 4 (c' := (22, [some (.ref 74)], [.int 12, .ref 76, .int 12, .ref 76], Wd f fl g gl hh v tx)) rfl ?_
  refine WP.of (fun _ _ => Ex.iald hP_237 rfl (Wa_76 _ _ _ _ _ _ _) (by decide)) ?_
  show WP X _ 237 (23, [some (.ref 74)], [.int ((g 76) 12), .int 12, .ref 76], Wd f fl g gl hh v tx) P
  refine WP.run hP_237 2 (c' := (25, [some (.ref 74)], [.int (((g 76) 12) - (1 : Int32)), .int 12, .ref 76], Wd f fl g gl hh v tx)) rfl ?_
  refine WP.of (fun _ _ => Ex.iast hP_237 (w2 := Wd f fl (va_up g 76 (upd (g 76) 12 (((g 76) 12) - (1 : Int32)))) gl hh v tx) rfl (Wa_76 _ _ _ _ _ _ _) (by decide) (Ws_76 _ _ _ _ _ _ _ _)) ?_
  refine WP.run hP_237 4 (c' := (32, [some (.ref 74)], [.ref 74, .int 0, .ref 76], Wd f fl (va_up g 76 (upd (g 76) 12 (((g 76) 12) - (1 : Int32)))) gl hh v tx)) rfl ?_
  refine WP.call hP_237 hP_130 (as := [.ref 74]) (pc' := 35) (L' := [some (.ref 74)]) (st' := [.int 0, .ref 76]) (w1 := Wd f fl (va_up g 76 (upd (g 76) 12 (((g 76) 12) - (1 : Int32)))) gl hh v tx) rfl ⟨Nat.le_of_ble_eq_true rfl, Nat.le_of_ble_eq_true rfl⟩ rfl (b_m_size_0 X (d) f fl (va_up g 76 (upd (g 76) 12 (((g 76) 12) - (1 : Int32)))) gl hh v tx  _ ?_)
  refine WP.run hP_237 1 (c' := (36, [some (.ref 74)], [.int ((0 : Int32) + ((upd (g 76) 12 (((g 76) 12) - (1 : Int32))) 12)), .ref 76], Wd f fl (va_up g 76 (upd (g 76) 12 (((g 76) 12) - (1 : Int32)))) gl hh v tx)) rfl ?_
  refine WP.of (fun _ _ => Ex.iald hP_237 rfl (Wa_76 _ _ _ _ _ _ _) h.1) ?_
  have h1 := h.2
  exact WP.retI hP_237 rfl rfl h1

set_option maxRecDepth 20000 in
theorem b_m_passesKept_0 (X : mm_X) (d : Nat) (f : Nat → Int32) (fl : Nat → Int64) (g : Nat → Nat → Int32) (gl : Nat → Nat → Int64) (hh : Nat → Nat → Option Nat) (v : Nat → Value) (tx : mm_W)   (P : Option Value → mm_W → Prop)
    (h : ((¬ ((g 76) 22) = 999) → WP X (d) 232 (0, [some (.ref 74), some (.int 3), none, none], [], Wd f fl g gl hh v tx) (fun rv w2 => WP X (d + 1) 239 (21, [some (.ref 74)], rv.toList ++ [], w2) P)) ∧
    ((((g 76) 22) = 999) → P (some (.int (-3))) (Wd f fl g gl hh v tx))) :
    WP X (d + 1) 239 (0, [some (.ref 74)], [], Wd f fl g gl hh v tx) P := by
  refine WP.run hP_239 3 (c' := (6, [some (.ref 74)], [.int 22, .ref 76], Wd f fl g gl hh v tx)) rfl ?_
  refine WP.of (fun _ _ => Ex.iald hP_239 rfl (Wa_76 _ _ _ _ _ _ _) (by decide)) ?_
  show WP X _ 239 (7, [some (.ref 74)], [.int ((g 76) 22)], Wd f fl g gl hh v tx) P
  refine WP.run hP_239 1 (c' := (10, [some (.ref 74)], [.int 999, .int ((g 76) 22)], Wd f fl g gl hh v tx)) rfl ?_
  refine WP.br hP_239 (q := ¬ ((g 76) 22) = 999) (t := 16) (f := 13) (L := [some (.ref 74)]) (st := []) (w := Wd f fl g gl hh v tx) rfl (fun c1 => ?_) (fun c1 => ?_)
  · have h2 := h.1 c1
    refine WP.run hP_239 2 (c' := (18, [some (.ref 74)], [.int 3, .ref 74], Wd f fl g gl hh v tx)) rfl ?_
    refine WP.call hP_239 hP_232 (as := [.ref 74, .int 3]) (pc' := 21) (L' := [some (.ref 74)]) (st' := []) (w1 := Wd f fl g gl hh v tx) rfl ⟨Nat.le_of_ble_eq_true rfl, Nat.le_of_ble_eq_true rfl⟩ rfl ?_
    exact h2
  · have h3 := h.2 (Classical.not_not.mp c1)
    refine WP.run hP_239 1 (c' := (15, [some (.ref 74)], [.int (-3)], Wd f fl g gl hh v tx)) rfl ?_
    exact WP.retI hP_239 rfl rfl h3

set_option maxRecDepth 20000 in
theorem b_m_passesKept_21 (X : mm_X) (d : Nat) (f : Nat → Int32) (fl : Nat → Int64) (g : Nat → Nat → Int32) (gl : Nat → Nat → Int64) (hh : Nat → Nat → Option Nat) (v : Nat → Value) (tx : mm_W)   (P : Option Value → mm_W → Prop)
    (h : P (some (.int ((upd (g 76) 22 (((g 76) 22) + (1 : Int32))) 22))) (Wd f fl (va_up g 76 (upd (g 76) 22 (((g 76) 22) + (1 : Int32)))) gl hh v tx)) :
    WP X (d) 239 (21, [some (.ref 74)], [], Wd f fl g gl hh v tx) P := by
  refine WP.run hP_239 4 (c' := (28, [some (.ref 74)], [.int 22, .ref 76, .int 22, .ref 76], Wd f fl g gl hh v tx)) rfl ?_
  refine WP.of (fun _ _ => Ex.iald hP_239 rfl (Wa_76 _ _ _ _ _ _ _) (by decide)) ?_
  show WP X _ 239 (29, [some (.ref 74)], [.int ((g 76) 22), .int 22, .ref 76], Wd f fl g gl hh v tx) P
  refine WP.run hP_239 2 (c' := (31, [some (.ref 74)], [.int (((g 76) 22) + (1 : Int32)), .int 22, .ref 76], Wd f fl g gl hh v tx)) rfl ?_
  refine WP.of (fun _ _ => Ex.iast hP_239 (w2 := Wd f fl (va_up g 76 (upd (g 76) 22 (((g 76) 22) + (1 : Int32)))) gl hh v tx) rfl (Wa_76 _ _ _ _ _ _ _) (by decide) (Ws_76 _ _ _ _ _ _ _ _)) ?_
  refine WP.run hP_239 3 (c' := (38, [some (.ref 74)], [.int 22, .ref 76], Wd f fl (va_up g 76 (upd (g 76) 22 (((g 76) 22) + (1 : Int32)))) gl hh v tx)) rfl ?_
  refine WP.of (fun _ _ => Ex.iald hP_239 rfl (Wa_76 _ _ _ _ _ _ _) (by decide)) ?_
  show WP X _ 239 (39, [some (.ref 74)], [.int ((upd (g 76) 22 (((g 76) 22) + (1 : Int32))) 22)], Wd f fl (va_up g 76 (upd (g 76) 22 (((g 76) 22) + (1 : Int32)))) gl hh v tx) P
  exact WP.retI hP_239 rfl rfl h

set_option maxRecDepth 20000 in
theorem b_m_hang_0 (X : mm_X) (d : Nat) (f : Nat → Int32) (fl : Nat → Int64) (g : Nat → Nat → Int32) (gl : Nat → Nat → Int64) (hh : Nat → Nat → Option Nat) (v : Nat → Value) (tx : mm_W) (p0 : Int32)  (P : Option Value → mm_W → Prop)
    (h : WP X (d) 236 (0, [some (.ref 74), some (.int p0)], [], Wd f fl g gl hh v tx) (fun rv w2 => WP X (d + 1) 240 (6, [some (.ref 74), some (.int p0)], rv.toList ++ [.ref 74], w2) P)) :
    WP X (d + 1) 240 (0, [some (.ref 74), some (.int p0)], [], Wd f fl g gl hh v tx) P := by
  refine WP.run hP_240 3 (c' := (3, [some (.ref 74), some (.int p0)], [.int p0, .ref 74, .ref 74], Wd f fl g gl hh v tx)) rfl ?_
  refine WP.call hP_240 hP_236 (as := [.ref 74, .int p0]) (pc' := 6) (L' := [some (.ref 74), some (.int p0)]) (st' := [.ref 74]) (w1 := Wd f fl g gl hh v tx) rfl ⟨Nat.le_of_ble_eq_true rfl, Nat.le_of_ble_eq_true rfl⟩ rfl ?_
  exact h

set_option maxRecDepth 20000 in
theorem b_m_hang_6 (X : mm_X) (d : Nat) (f : Nat → Int32) (fl : Nat → Int64) (g : Nat → Nat → Int32) (gl : Nat → Nat → Int64) (hh : Nat → Nat → Option Nat) (v : Nat → Value) (tx : mm_W) (l1 : Int32) (s0 : Int32)  (P : Option Value → mm_W → Prop)
    (h : ((0 ≤ s0) → P (some (.int s0)) (Wd (va_up f 4736 0) fl g gl hh v tx)) ∧
    ((¬ (0 ≤ s0)) → ((¬ ((-s0) < 0 ∨ 7 ≤ (-s0).toNatClampNeg)) ∧ ((¬ ((-s0) < 0 ∨ 7 ≤ (-s0).toNatClampNeg)) ∧ P (some (.int s0)) (Wd (va_up f 4736 s0) fl (va_up g 75 (upd (g 75) ((-s0).toNatClampNeg) (((g 75) (-s0).toNatClampNeg) + (1 : Int32)))) gl hh v tx))))) :
    WP X (d + 2) 240 (6, [some (.ref 74), some (.int l1)], [.int s0, .ref 74], Wd f fl g gl hh v tx) P := by
  refine WP.call hP_240 hP_234 (as := [.ref 74, .int s0]) (pc' := 9) (L' := [some (.ref 74), some (.int l1)]) (st' := []) (w1 := Wd f fl g gl hh v tx) rfl ⟨Nat.le_of_ble_eq_true rfl, Nat.le_of_ble_eq_true rfl⟩ rfl (b_m_goodOr_0 X (d) f fl g gl hh v tx s0 _ ?_)
  refine ⟨fun c1 => ?_, fun c1 => ?_⟩
  · have h2 := h.1 c1
    exact WP.retI hP_240 rfl rfl h2
  · have h3 := h.2 c1
    refine ⟨h3.1, ?_⟩
    have h4 := h3.2
    refine ⟨h4.1, ?_⟩
    have h5 := h4.2
    exact WP.retI hP_240 rfl rfl h5

set_option maxRecDepth 20000 in
theorem b_m_take_0 (X : mm_X) (d : Nat) (f : Nat → Int32) (fl : Nat → Int64) (g : Nat → Nat → Int32) (gl : Nat → Nat → Int64) (hh : Nat → Nat → Option Nat) (v : Nat → Value) (tx : mm_W)   (P : Option Value → mm_W → Prop)
    (h : WP X (d) 237 (0, [some (.ref 74)], [], Wd f fl g gl hh v tx) (fun rv w2 => WP X (d + 1) 241 (5, [some (.ref 74)], rv.toList ++ [.ref 74], w2) P)) :
    WP X (d + 1) 241 (0, [some (.ref 74)], [], Wd f fl g gl hh v tx) P := by
  refine WP.run hP_241 2 (c' := (2, [some (.ref 74)], [.ref 74, .ref 74], Wd f fl g gl hh v tx)) rfl ?_
  refine WP.call hP_241 hP_237 (as := [.ref 74]) (pc' := 5) (L' := [some (.ref 74)]) (st' := [.ref 74]) (w1 := Wd f fl g gl hh v tx) rfl ⟨Nat.le_of_ble_eq_true rfl, Nat.le_of_ble_eq_true rfl⟩ rfl ?_
  exact h

set_option maxRecDepth 20000 in
theorem b_m_take_5 (X : mm_X) (d : Nat) (f : Nat → Int32) (fl : Nat → Int64) (g : Nat → Nat → Int32) (gl : Nat → Nat → Int64) (hh : Nat → Nat → Option Nat) (v : Nat → Value) (tx : mm_W) (s0 : Int32)  (P : Option Value → mm_W → Prop)
    (h : ((0 ≤ s0) → P (some (.int s0)) (Wd (va_up f 4736 0) fl g gl hh v tx)) ∧
    ((¬ (0 ≤ s0)) → ((¬ ((-s0) < 0 ∨ 7 ≤ (-s0).toNatClampNeg)) ∧ ((¬ ((-s0) < 0 ∨ 7 ≤ (-s0).toNatClampNeg)) ∧ P (some (.int s0)) (Wd (va_up f 4736 s0) fl (va_up g 75 (upd (g 75) ((-s0).toNatClampNeg) (((g 75) (-s0).toNatClampNeg) + (1 : Int32)))) gl hh v tx))))) :
    WP X (d + 2) 241 (5, [some (.ref 74)], [.int s0, .ref 74], Wd f fl g gl hh v tx) P := by
  refine WP.call hP_241 hP_234 (as := [.ref 74, .int s0]) (pc' := 8) (L' := [some (.ref 74)]) (st' := []) (w1 := Wd f fl g gl hh v tx) rfl ⟨Nat.le_of_ble_eq_true rfl, Nat.le_of_ble_eq_true rfl⟩ rfl (b_m_goodOr_0 X (d) f fl g gl hh v tx s0 _ ?_)
  refine ⟨fun c1 => ?_, fun c1 => ?_⟩
  · have h2 := h.1 c1
    exact WP.retI hP_241 rfl rfl h2
  · have h3 := h.2 c1
    refine ⟨h3.1, ?_⟩
    have h4 := h3.2
    refine ⟨h4.1, ?_⟩
    have h5 := h4.2
    exact WP.retI hP_241 rfl rfl h5

set_option maxRecDepth 20000 in
theorem b_m_pass_0 (X : mm_X) (d : Nat) (f : Nat → Int32) (fl : Nat → Int64) (g : Nat → Nat → Int32) (gl : Nat → Nat → Int64) (hh : Nat → Nat → Option Nat) (v : Nat → Value) (tx : mm_W)   (P : Option Value → mm_W → Prop)
    (h : WP X (d) 239 (0, [some (.ref 74)], [], Wd f fl g gl hh v tx) (fun rv w2 => WP X (d + 1) 243 (5, [some (.ref 74)], rv.toList ++ [.ref 74], w2) P)) :
    WP X (d + 1) 243 (0, [some (.ref 74)], [], Wd f fl g gl hh v tx) P := by
  refine WP.run hP_243 2 (c' := (2, [some (.ref 74)], [.ref 74, .ref 74], Wd f fl g gl hh v tx)) rfl ?_
  refine WP.call hP_243 hP_239 (as := [.ref 74]) (pc' := 5) (L' := [some (.ref 74)]) (st' := [.ref 74]) (w1 := Wd f fl g gl hh v tx) rfl ⟨Nat.le_of_ble_eq_true rfl, Nat.le_of_ble_eq_true rfl⟩ rfl ?_
  exact h

set_option maxRecDepth 20000 in
theorem b_m_pass_5 (X : mm_X) (d : Nat) (f : Nat → Int32) (fl : Nat → Int64) (g : Nat → Nat → Int32) (gl : Nat → Nat → Int64) (hh : Nat → Nat → Option Nat) (v : Nat → Value) (tx : mm_W) (s0 : Int32)  (P : Option Value → mm_W → Prop)
    (h : ((0 ≤ s0) → P (some (.int s0)) (Wd (va_up f 4736 0) fl g gl hh v tx)) ∧
    ((¬ (0 ≤ s0)) → ((¬ ((-s0) < 0 ∨ 7 ≤ (-s0).toNatClampNeg)) ∧ ((¬ ((-s0) < 0 ∨ 7 ≤ (-s0).toNatClampNeg)) ∧ P (some (.int s0)) (Wd (va_up f 4736 s0) fl (va_up g 75 (upd (g 75) ((-s0).toNatClampNeg) (((g 75) (-s0).toNatClampNeg) + (1 : Int32)))) gl hh v tx))))) :
    WP X (d + 2) 243 (5, [some (.ref 74)], [.int s0, .ref 74], Wd f fl g gl hh v tx) P := by
  refine WP.call hP_243 hP_234 (as := [.ref 74, .int s0]) (pc' := 8) (L' := [some (.ref 74)]) (st' := []) (w1 := Wd f fl g gl hh v tx) rfl ⟨Nat.le_of_ble_eq_true rfl, Nat.le_of_ble_eq_true rfl⟩ rfl (b_m_goodOr_0 X (d) f fl g gl hh v tx s0 _ ?_)
  refine ⟨fun c1 => ?_, fun c1 => ?_⟩
  · have h2 := h.1 c1
    exact WP.retI hP_243 rfl rfl h2
  · have h3 := h.2 c1
    refine ⟨h3.1, ?_⟩
    have h4 := h3.2
    refine ⟨h4.1, ?_⟩
    have h5 := h4.2
    exact WP.retI hP_243 rfl rfl h5
