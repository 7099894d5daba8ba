set_option maxRecDepth 20000 in
theorem b_yst_enter_1_0 (X : mm_X) (d : Nat) (f : Nat → Int32) (fl : Nat → Int64) (g : Nat → Nat → Int32) (gl : Nat → Nat → Int64) (hh : Nat → Nat → Option Nat) (v : Nat → Value) (tx : mm_W) (p0 : Int32) (p1 : Int32)  (P : Option Value → mm_W → Prop)
    (h : WP X (d) 47 (8, [some (.ref 1), some (.int p0), some (.int p1), some (.int 0), some (.int 0), some (.int 0), none], [], Wd f fl g gl hh v tx) P) :
    WP X (d) 47 (0, [some (.ref 1), some (.int p0), some (.int p1), none, none, none, none], [], Wd f fl g gl hh v tx) P := by
  refine WP.run hP_47 3 (c' := (3, [some (.ref 1), some (.int p0), some (.int p1), some (.int 0), none, none, none], [.int 0], Wd f fl g gl hh v tx)) rfl ?_
  refine WP.run hP_47 2 (c' := (6, [some (.ref 1), some (.int p0), some (.int p1), some (.int 0), some (.int 0), none, none], [.int 0], Wd f fl g gl hh v tx)) rfl ?_
  refine WP.run hP_47 1 (c' := (8, [some (.ref 1), some (.int p0), some (.int p1), some (.int 0), some (.int 0), some (.int 0), none], [], Wd f fl g gl hh v tx)) rfl ?_
  exact h

set_option maxRecDepth 20000 in
theorem b_yst_enter_1_8 (X : mm_X) (d : Nat) (f : Nat → Int32) (fl : Nat → Int64) (g : Nat → Nat → Int32) (gl : Nat → Nat → Int64) (hh : Nat → Nat → Option Nat) (v : Nat → Value) (tx : mm_W) (l1 : Int32) (l2 : Int32) (l3 : Int32) (l4 : Int32) (l5 : Int32)  (P : Option Value → mm_W → Prop)
    (h : ((4 ≤ l5) → (((l3 = 0) → P (some (.int (-1))) (Wd f fl g gl hh v tx)) ∧
      ((¬ l3 = 0) → (((0 ≤ l1 ∧ l1 < (6 : Int32)) → WP X (d + 1) 47 (92, [some (.ref 1), some (.int l1), none, some (.int l3), some (.int l4), some (.int 0), none], [], Wd f fl g gl hh v tx) P) ∧
        ((¬ (0 ≤ l1 ∧ l1 < (6 : Int32))) → P (some (.int (-1))) (Wd f fl g gl hh v tx)))))) ∧
    ((¬ (4 ≤ l5)) → (((4 < (((l2 >>> (((24 : Int32) - ((8 : Int32) * l5)) &&& (31 : Int32))) : Int32) &&& (255 : Int32))) → P (some (.int (-1))) (Wd f fl g gl hh v tx)) ∧
      ((¬ (4 < (((l2 >>> (((24 : Int32) - ((8 : Int32) * l5)) &&& (31 : Int32))) : Int32) &&& (255 : Int32)))) → ((((((l2 >>> (((24 : Int32) - ((8 : Int32) * l5)) &&& (31 : Int32))) : Int32) &&& (255 : Int32)) ≤ 0) → WP X (d + 1) 47 (49, [some (.ref 1), some (.int l1), some (.int l2), some (.int l3), some (.int l4), some (.int l5), some (.int (((l2 >>> (((24 : Int32) - ((8 : Int32) * l5)) &&& (31 : Int32))) : Int32) &&& (255 : Int32)))], [], Wd f fl g gl hh v tx) P) ∧
        ((¬ ((((l2 >>> (((24 : Int32) - ((8 : Int32) * l5)) &&& (31 : Int32))) : Int32) &&& (255 : Int32)) ≤ 0)) → (((l5 ≤ l3) → WP X (d + 1) 47 (49, [some (.ref 1), some (.int l1), some (.int l2), some (.int l3), some (.int l4), some (.int l5), some (.int (((l2 >>> (((24 : Int32) - ((8 : Int32) * l5)) &&& (31 : Int32))) : Int32) &&& (255 : Int32)))], [], Wd f fl g gl hh v tx) P) ∧
          ((¬ (l5 ≤ l3)) → P (some (.int (-1))) (Wd f fl g gl hh v tx))))))))) :
    WP X (d + 1) 47 (8, [some (.ref 1), some (.int l1), some (.int l2), some (.int l3), some (.int l4), some (.int l5), none], [], Wd f fl g gl hh v tx) P := by
  refine WP.run hP_47 2 (c' := (11, [some (.ref 1), some (.int l1), some (.int l2), some (.int l3), some (.int l4), some (.int l5), none], [.int 4, .int l5], Wd f fl g gl hh v tx)) rfl ?_
  refine WP.br hP_47 (q := 4 ≤ l5) (t := 74) (f := 14) (L := [some (.ref 1), some (.int l1), some (.int l2), some (.int l3), some (.int l4), some (.int l5), none]) (st := []) (w := Wd f fl g gl hh v tx) rfl (fun c1 => ?_) (fun c1 => ?_)
  · have h2 := h.1 c1
    refine WP.run hP_47 1 (c' := (75, [some (.ref 1), some (.int l1), none, some (.int l3), some (.int l4), none, none], [.int l3], Wd f fl g gl hh v tx)) rfl ?_
    refine WP.br hP_47 (q := l3 = 0) (t := 87) (f := 78) (L := [some (.ref 1), some (.int l1), none, some (.int l3), some (.int l4), none, none]) (st := []) (w := Wd f fl g gl hh v tx) rfl (fun c3 => ?_) (fun c3 => ?_)
    · have h4 := h2.1 c3
      refine WP.run hP_47 1 (c' := (88, [none, none, none, none, none, none, none], [.int (-1)], Wd f fl g gl hh v tx)) rfl ?_
      exact WP.retI hP_47 rfl rfl h4
    · have h5 := h2.2 c3
      refine WP.run hP_47 2 (c' := (81, [some (.ref 1), some (.int l1), none, some (.int l3), some (.int l4), none, none], [.int 6, .int l1], Wd f fl g gl hh v tx)) rfl ?_
      refine WP.call hP_47 hP_99 (as := [.int l1, .int 6]) (pc' := 84) (L' := [some (.ref 1), some (.int l1), none, some (.int l3), some (.int l4), none, none]) (st' := []) (w1 := Wd f fl g gl hh v tx) rfl ⟨Nat.le_of_ble_eq_true rfl, Nat.le_of_ble_eq_true rfl⟩ rfl (b_within_m X (d) f fl g gl hh v tx l1 6 _ ?_)
      refine ⟨fun c6 => ?_, fun c6 => ?_⟩
      · have h7 := h5.1 c6
        refine WP.run hP_47 2 (c' := (90, [some (.ref 1), some (.int l1), none, some (.int l3), some (.int l4), none, none], [.int 0], Wd f fl g gl hh v tx)) rfl ?_
        refine WP.run hP_47 1 (c' := (92, [some (.ref 1), some (.int l1), none, some (.int l3), some (.int l4), some (.int 0), none], [], Wd f fl g gl hh v tx)) rfl ?_
        exact h7
      · have h8 := h5.2 c6
        refine WP.run hP_47 2 (c' := (88, [none, none, none, none, none, none, none], [.int (-1)], Wd f fl g gl hh v tx)) rfl ?_
        exact WP.retI hP_47 rfl rfl h8
  · have h9 := h.2 c1
    refine WP.run hP_47 12 (c' := (33, [some (.ref 1), some (.int l1), some (.int l2), some (.int l3), some (.int l4), some (.int l5), some (.int (((l2 >>> (((24 : Int32) - ((8 : Int32) * l5)) &&& (31 : Int32))) : Int32) &&& (255 : Int32)))], [.int 4, .int (((l2 >>> (((24 : Int32) - ((8 : Int32) * l5)) &&& (31 : Int32))) : Int32) &&& (255 : Int32))], Wd f fl g gl hh v tx)) rfl ?_
    refine WP.br hP_47 (q := 4 < (((l2 >>> (((24 : Int32) - ((8 : Int32) * l5)) &&& (31 : Int32))) : Int32) &&& (255 : Int32))) (t := 47) (f := 36) (L := [some (.ref 1), some (.int l1), some (.int l2), some (.int l3), some (.int l4), some (.int l5), some (.int (((l2 >>> (((24 : Int32) - ((8 : Int32) * l5)) &&& (31 : Int32))) : Int32) &&& (255 : Int32)))]) (st := []) (w := Wd f fl g gl hh v tx) rfl (fun c10 => ?_) (fun c10 => ?_)
    · have h11 := h9.1 c10
      refine WP.run hP_47 1 (c' := (48, [none, none, none, none, none, none, none], [.int (-1)], Wd f fl g gl hh v tx)) rfl ?_
      exact WP.retI hP_47 rfl rfl h11
    · have h12 := h9.2 c10
      refine WP.run hP_47 1 (c' := (38, [some (.ref 1), some (.int l1), some (.int l2), some (.int l3), some (.int l4), some (.int l5), some (.int (((l2 >>> (((24 : Int32) - ((8 : Int32) * l5)) &&& (31 : Int32))) : Int32) &&& (255 : Int32)))], [.int (((l2 >>> (((24 : Int32) - ((8 : Int32) * l5)) &&& (31 : Int32))) : Int32) &&& (255 : Int32))], Wd f fl g gl hh v tx)) rfl ?_
      refine WP.br hP_47 (q := (((l2 >>> (((24 : Int32) - ((8 : Int32) * l5)) &&& (31 : Int32))) : Int32) &&& (255 : Int32)) ≤ 0) (t := 49) (f := 41) (L := [some (.ref 1), some (.int l1), some (.int l2), some (.int l3), some (.int l4), some (.int l5), some (.int (((l2 >>> (((24 : Int32) - ((8 : Int32) * l5)) &&& (31 : Int32))) : Int32) &&& (255 : Int32)))]) (st := []) (w := Wd f fl g gl hh v tx) rfl (fun c13 => ?_) (fun c13 => ?_)
      · have h14 := h12.1 c13
        exact h14
      · have h15 := h12.2 c13
        refine WP.run hP_47 2 (c' := (44, [some (.ref 1), some (.int l1), some (.int l2), some (.int l3), some (.int l4), some (.int l5), some (.int (((l2 >>> (((24 : Int32) - ((8 : Int32) * l5)) &&& (31 : Int32))) : Int32) &&& (255 : Int32)))], [.int l5, .int l3], Wd f fl g gl hh v tx)) rfl ?_
        refine WP.br hP_47 (q := l5 ≤ l3) (t := 49) (f := 47) (L := [some (.ref 1), some (.int l1), some (.int l2), some (.int l3), some (.int l4), some (.int l5), some (.int (((l2 >>> (((24 : Int32) - ((8 : Int32) * l5)) &&& (31 : Int32))) : Int32) &&& (255 : Int32)))]) (st := []) (w := Wd f fl g gl hh v tx) rfl (fun c16 => ?_) (fun c16 => ?_)
        · have h17 := h15.1 c16
          exact h17
        · have h18 := h15.2 c16
          refine WP.run hP_47 1 (c' := (48, [none, none, none, none, none, none, none], [.int (-1)], Wd f fl g gl hh v tx)) rfl ?_
          exact WP.retI hP_47 rfl rfl h18

set_option maxRecDepth 20000 in
theorem b_yst_enter_1_92 (X : mm_X) (d : Nat) (f : Nat → Int32) (fl : Nat → Int64) (g : Nat → Nat → Int32) (gl : Nat → Nat → Int64) (hh : Nat → Nat → Option Nat) (v : Nat → Value) (tx : mm_W) (l1 : Int32) (l3 : Int32) (l4 : Int32) (l5 : Int32)  (P : Option Value → mm_W → Prop)
    (h : (((f 64) ≤ l5) → ((((f 64) < 8) → ((¬ ((f 64) < 0 ∨ 8 ≤ (f 64).toNatClampNeg)) ∧ ((¬ ((f 64) < 0 ∨ 8 ≤ (f 64).toNatClampNeg)) ∧ ((¬ ((f 64) < 0 ∨ 8 ≤ (f 64).toNatClampNeg)) ∧ P (some (.int (((f 64) + (1 : Int32)) - (1 : Int32)))) (Wd (va_up f 64 ((f 64) + (1 : Int32))) fl (va_up (va_up (va_up g 2 (upd (g 2) ((f 64).toNatClampNeg) l4)) 3 (upd (g 3) ((f 64).toNatClampNeg) l3)) 4 (upd (g 4) ((f 64).toNatClampNeg) l1)) gl hh v tx))))) ∧
      ((¬ ((f 64) < 8)) → P (some (.int (-5))) (Wd f fl g gl hh v tx)))) ∧
    ((¬ ((f 64) ≤ l5)) → ((¬ (l5 < 0 ∨ 8 ≤ l5.toNatClampNeg)) ∧ (((¬ ((g 3) l5.toNatClampNeg) = l3) → WP X (d) 47 (92, [some (.ref 1), some (.int l1), none, some (.int l3), some (.int l4), some (.int (l5 + (1 : Int32))), none], [], Wd f fl g gl hh v tx) P) ∧
      ((((g 3) l5.toNatClampNeg) = l3) → ((¬ (l5 < 0 ∨ 8 ≤ l5.toNatClampNeg)) ∧ (((¬ ((g 2) l5.toNatClampNeg) = l4) → WP X (d) 47 (92, [some (.ref 1), some (.int l1), none, some (.int l3), some (.int l4), some (.int (l5 + (1 : Int32))), none], [], Wd f fl g gl hh v tx) P) ∧
        ((((g 2) l5.toNatClampNeg) = l4) → P (some (.int (-3))) (Wd f fl g gl hh v tx))))))))) :
    WP X (d) 47 (92, [some (.ref 1), some (.int l1), none, some (.int l3), some (.int l4), some (.int l5), none], [], Wd f fl g gl hh v tx) P := by
  refine WP.run hP_47 3 (c' := (98, [some (.ref 1), some (.int l1), none, some (.int l3), some (.int l4), some (.int l5), none], [.int (f 64), .int l5], Wd f fl g gl hh v tx)) rfl ?_
  refine WP.br hP_47 (q := (f 64) ≤ l5) (t := 133) (f := 101) (L := [some (.ref 1), some (.int l1), none, some (.int l3), some (.int l4), some (.int l5), none]) (st := []) (w := Wd f fl g gl hh v tx) rfl (fun c1 => ?_) (fun c1 => ?_)
  · have h2 := h.1 c1
    refine WP.run hP_47 3 (c' := (139, [some (.ref 1), some (.int l1), none, some (.int l3), some (.int l4), none, none], [.int 8, .int (f 64)], Wd f fl g gl hh v tx)) rfl ?_
    refine WP.br hP_47 (q := (f 64) < 8) (t := 145) (f := 142) (L := [some (.ref 1), some (.int l1), none, some (.int l3), some (.int l4), none, none]) (st := []) (w := Wd f fl g gl hh v tx) rfl (fun c3 => ?_) (fun c3 => ?_)
    · have h4 := h2.1 c3
      refine WP.run hP_47 5 (c' := (155, [some (.ref 1), some (.int l1), none, some (.int l3), some (.int l4), none, none], [.int l4, .int (f 64), .ref 2], Wd f fl g gl hh v tx)) rfl ?_
      refine WP.of (fun _ _ => Ex.iast hP_47 (w2 := Wd f fl (va_up g 2 (upd (g 2) ((f 64).toNatClampNeg) l4)) gl hh v tx) rfl (Wa_2 _ _ _ _ _ _ _) h4.1 (Ws_2 _ _ _ _ _ _ _ _)) ?_
      have h5 := h4.2
      refine WP.run hP_47 5 (c' := (165, [some (.ref 1), some (.int l1), none, some (.int l3), some (.int l4), none, none], [.int l3, .int (f 64), .ref 3], Wd f fl (va_up g 2 (upd (g 2) ((f 64).toNatClampNeg) l4)) gl hh v tx)) rfl ?_
      refine WP.of (fun _ _ => Ex.iast hP_47 (w2 := Wd f fl (va_up (va_up g 2 (upd (g 2) ((f 64).toNatClampNeg) l4)) 3 (upd (g 3) ((f 64).toNatClampNeg) l3)) gl hh v tx) rfl (Wa_3 _ _ _ _ _ _ _) h5.1 (Ws_3 _ _ _ _ _ _ _ _)) ?_
      have h6 := h5.2
      refine WP.run hP_47 5 (c' := (175, [some (.ref 1), some (.int l1), none, some (.int l3), some (.int l4), none, none], [.int l1, .int (f 64), .ref 4], Wd f fl (va_up (va_up g 2 (upd (g 2) ((f 64).toNatClampNeg) l4)) 3 (upd (g 3) ((f 64).toNatClampNeg) l3)) gl hh v tx)) rfl ?_
      refine WP.of (fun _ _ => Ex.iast hP_47 (w2 := Wd f fl (va_up (va_up (va_up g 2 (upd (g 2) ((f 64).toNatClampNeg) l4)) 3 (upd (g 3) ((f 64).toNatClampNeg) l3)) 4 (upd (g 4) ((f 64).toNatClampNeg) l1)) gl hh v tx) rfl (Wa_4 _ _ _ _ _ _ _) h6.1 (Ws_4 _ _ _ _ _ _ _ _)) ?_
      have h7 := h6.2
      refine WP.run hP_47 10 (c' := (192, [some (.ref 1), some (.int l1), none, some (.int l3), some (.int l4), none, none], [.int (((f 64) + (1 : Int32)) - (1 : Int32))], Wd (va_up f 64 ((f 64) + (1 : Int32))) fl (va_up (va_up (va_up g 2 (upd (g 2) ((f 64).toNatClampNeg) l4)) 3 (upd (g 3) ((f 64).toNatClampNeg) l3)) 4 (upd (g 4) ((f 64).toNatClampNeg) l1)) gl hh v tx)) rfl ?_
      exact WP.retI hP_47 rfl rfl h7
    · have h8 := h2.2 c3
      refine WP.run hP_47 1 (c' := (144, [some (.ref 1), some (.int l1), none, some (.int l3), some (.int l4), none, none], [.int (-5)], Wd f fl g gl hh v tx)) rfl ?_
      exact WP.retI hP_47 rfl rfl h8
  · have h9 := h.2 c1
    refine WP.run hP_47 3 (c' := (107, [some (.ref 1), some (.int l1), none, some (.int l3), some (.int l4), some (.int l5), none], [.int l5, .ref 3], Wd f fl g gl hh v tx)) rfl ?_
    refine WP.of (fun _ _ => Ex.iald hP_47 rfl (Wa_3 _ _ _ _ _ _ _) h9.1) ?_
    have h10 := h9.2
    refine WP.run hP_47 1 (c' := (109, [some (.ref 1), some (.int l1), none, some (.int l3), some (.int l4), some (.int l5), none], [.int l3, .int ((g 3) l5.toNatClampNeg)], Wd f fl g gl hh v tx)) rfl ?_
    refine WP.br hP_47 (q := ¬ ((g 3) l5.toNatClampNeg) = l3) (t := 127) (f := 112) (L := [some (.ref 1), some (.int l1), none, some (.int l3), some (.int l4), some (.int l5), none]) (st := []) (w := Wd f fl g gl hh v tx) rfl (fun c11 => ?_) (fun c11 => ?_)
    · have h12 := h10.1 c11
      refine WP.run hP_47 2 (c' := (92, [some (.ref 1), some (.int l1), none, some (.int l3), some (.int l4), some (.int (l5 + (1 : Int32))), none], [], Wd f fl g gl hh v tx)) rfl ?_
      exact h12
    · have h13 := h10.2 (Classical.not_not.mp c11)
      refine WP.run hP_47 3 (c' := (118, [some (.ref 1), some (.int l1), none, some (.int l3), some (.int l4), some (.int l5), none], [.int l5, .ref 2], Wd f fl g gl hh v tx)) rfl ?_
      refine WP.of (fun _ _ => Ex.iald hP_47 rfl (Wa_2 _ _ _ _ _ _ _) h13.1) ?_
      have h14 := h13.2
      refine WP.run hP_47 1 (c' := (121, [some (.ref 1), some (.int l1), none, some (.int l3), some (.int l4), some (.int l5), none], [.int l4, .int ((g 2) l5.toNatClampNeg)], Wd f fl g gl hh v tx)) rfl ?_
      refine WP.br hP_47 (q := ¬ ((g 2) l5.toNatClampNeg) = l4) (t := 127) (f := 124) (L := [some (.ref 1), some (.int l1), none, some (.int l3), some (.int l4), some (.int l5), none]) (st := []) (w := Wd f fl g gl hh v tx) rfl (fun c15 => ?_) (fun c15 => ?_)
      · have h16 := h14.1 c15
        refine WP.run hP_47 2 (c' := (92, [some (.ref 1), some (.int l1), none, some (.int l3), some (.int l4), some (.int (l5 + (1 : Int32))), none], [], Wd f fl g gl hh v tx)) rfl ?_
        exact h16
      · have h17 := h14.2 (Classical.not_not.mp c15)
        refine WP.run hP_47 1 (c' := (126, [some (.ref 1), some (.int l1), none, some (.int l3), some (.int l4), some (.int l5), none], [.int (-3)], Wd f fl g gl hh v tx)) rfl ?_
        exact WP.retI hP_47 rfl rfl h17

set_option maxRecDepth 20000 in
theorem b_yst_enter_1_49 (X : mm_X) (d : Nat) (f : Nat → Int32) (fl : Nat → Int64) (g : Nat → Nat → Int32) (gl : Nat → Nat → Int64) (hh : Nat → Nat → Option Nat) (v : Nat → Value) (tx : mm_W) (l1 : Int32) (l2 : Int32) (l3 : Int32) (l4 : Int32) (l5 : Int32) (l6 : Int32)  (P : Option Value → mm_W → Prop)
    (h : ((l6 ≤ 0) → WP X (d) 47 (8, [some (.ref 1), some (.int l1), some (.int l2), some (.int l3), some (.int l4), some (.int (l5 + (1 : Int32))), none], [], Wd f fl g gl hh v tx) P) ∧
    ((¬ (l6 ≤ 0)) → WP X (d) 47 (8, [some (.ref 1), some (.int l1), some (.int l2), some (.int (l3 + (1 : Int32))), some (.int ((((4 : Int32) * l4) + l6) - (1 : Int32))), some (.int (l5 + (1 : Int32))), none], [], Wd f fl g gl hh v tx) P)) :
    WP X (d) 47 (49, [some (.ref 1), some (.int l1), some (.int l2), some (.int l3), some (.int l4), some (.int l5), some (.int l6)], [], Wd f fl g gl hh v tx) P := by
  refine WP.run hP_47 1 (c' := (51, [some (.ref 1), some (.int l1), some (.int l2), some (.int l3), some (.int l4), some (.int l5), some (.int l6)], [.int l6], Wd f fl g gl hh v tx)) rfl ?_
  refine WP.br hP_47 (q := l6 ≤ 0) (t := 68) (f := 54) (L := [some (.ref 1), some (.int l1), some (.int l2), some (.int l3), some (.int l4), some (.int l5), some (.int l6)]) (st := []) (w := Wd f fl g gl hh v tx) rfl (fun c1 => ?_) (fun c1 => ?_)
  · have h2 := h.1 c1
    refine WP.run hP_47 2 (c' := (8, [some (.ref 1), some (.int l1), some (.int l2), some (.int l3), some (.int l4), some (.int (l5 + (1 : Int32))), none], [], Wd f fl g gl hh v tx)) rfl ?_
    exact h2
  · have h3 := h.2 c1
    refine WP.run hP_47 8 (c' := (65, [some (.ref 1), some (.int l1), some (.int l2), some (.int l3), some (.int ((((4 : Int32) * l4) + l6) - (1 : Int32))), some (.int l5), some (.int l6)], [], Wd f fl g gl hh v tx)) rfl ?_
    refine WP.run hP_47 1 (c' := (68, [some (.ref 1), some (.int l1), some (.int l2), some (.int (l3 + (1 : Int32))), some (.int ((((4 : Int32) * l4) + l6) - (1 : Int32))), some (.int l5), some (.int l6)], [], Wd f fl g gl hh v tx)) rfl ?_
    refine WP.run hP_47 2 (c' := (8, [some (.ref 1), some (.int l1), some (.int l2), some (.int (l3 + (1 : Int32))), some (.int ((((4 : Int32) * l4) + l6) - (1 : Int32))), some (.int (l5 + (1 : Int32))), none], [], Wd f fl g gl hh v tx)) rfl ?_
    exact h3

set_option maxRecDepth 20000 in
theorem b_x_sign_0 (X : mm_X) (d : Nat) (f : Nat → Int32) (fl : Nat → Int64) (g : Nat → Nat → Int32) (gl : Nat → Nat → Int64) (hh : Nat → Nat → Option Nat) (v : Nat → Value) (tx : mm_W) (p0 : Int32) (p1 : Int32)  (P : Option Value → mm_W → Prop)
    (h : ((p0 < 1) → P (some (.int (-1))) (Wd (va_up f 18 (-1 : Int32)) fl (va_up g 55 (upd (g 55) (1) (((g 55) 1) + (1 : Int32)))) gl hh v tx)) ∧
    ((¬ (p0 < 1)) → (((4444 < p0) → P (some (.int (-1))) (Wd (va_up f 18 (-1 : Int32)) fl (va_up g 55 (upd (g 55) (1) (((g 55) 1) + (1 : Int32)))) gl hh v tx)) ∧
      ((¬ (4444 < p0)) → (((¬ (p0 - (p0 / (10 : Int32)) * (10 : Int32)) = 0) → WP X (d + 2) 58 (30, [some (.ref 0), none, some (.int p1), some (.int p0), some (.int 1)], [], Wd f fl g gl hh v tx) P) ∧
        (((p0 - (p0 / (10 : Int32)) * (10 : Int32)) = 0) → P (some (.int (-1))) (Wd (va_up f 18 (-1 : Int32)) fl (va_up g 55 (upd (g 55) (1) (((g 55) 1) + (1 : Int32)))) gl hh v tx))))))) :
    WP X (d + 2) 58 (0, [some (.ref 0), some (.int p0), some (.int p1), none, none], [], Wd f fl g gl hh v tx) P := by
  refine WP.run hP_58 2 (c' := (2, [some (.ref 0), some (.int p0), some (.int p1), none, none], [.int 1, .int p0], Wd f fl g gl hh v tx)) rfl ?_
  refine WP.br hP_58 (q := p0 < 1) (t := 19) (f := 5) (L := [some (.ref 0), some (.int p0), some (.int p1), none, none]) (st := []) (w := Wd f fl g gl hh v tx) rfl (fun c1 => ?_) (fun c1 => ?_)
  · have h2 := h.1 c1
    refine WP.run hP_58 2 (c' := (21, [some (.ref 0), none, none, none, none], [.int (-1), .ref 0], Wd f fl g gl hh v tx)) rfl ?_
    refine WP.call hP_58 hP_101 (as := [.ref 0, .int (-1)]) (pc' := 24) (L' := [some (.ref 0), none, none, none, none]) (st' := []) (w1 := Wd f fl g gl hh v tx) rfl ⟨Nat.le_of_ble_eq_true rfl, Nat.le_of_ble_eq_true rfl⟩ rfl (b_x_refused_0 X (d) f fl g gl hh v tx (-1) _ ?_)
    refine ⟨fun c3 => ?_, fun c => absurd c (by decide)⟩
    refine ⟨by decide, ?_⟩
    refine ⟨by decide, ?_⟩
    exact WP.retI hP_58 rfl rfl h2
  · have h4 := h.2 c1
    refine WP.run hP_58 2 (c' := (9, [some (.ref 0), some (.int p0), some (.int p1), none, none], [.int 4444, .int p0], Wd f fl g gl hh v tx)) rfl ?_
    refine WP.br hP_58 (q := 4444 < p0) (t := 19) (f := 12) (L := [some (.ref 0), some (.int p0), some (.int p1), none, none]) (st := []) (w := Wd f fl g gl hh v tx) rfl (fun c5 => ?_) (fun c5 => ?_)
    · have h6 := h4.1 c5
      refine WP.run hP_58 2 (c' := (21, [some (.ref 0), none, none, none, none], [.int (-1), .ref 0], Wd f fl g gl hh v tx)) rfl ?_
      refine WP.call hP_58 hP_101 (as := [.ref 0, .int (-1)]) (pc' := 24) (L' := [some (.ref 0), none, none, none, none]) (st' := []) (w1 := Wd f fl g gl hh v tx) rfl ⟨Nat.le_of_ble_eq_true rfl, Nat.le_of_ble_eq_true rfl⟩ rfl (b_x_refused_0 X (d) f fl g gl hh v tx (-1) _ ?_)
      refine ⟨fun c7 => ?_, fun c => absurd c (by decide)⟩
      refine ⟨by decide, ?_⟩
      refine ⟨by decide, ?_⟩
      exact WP.retI hP_58 rfl rfl h6
    · have h8 := h4.2 c5
      refine WP.run hP_58 3 (c' := (16, [some (.ref 0), some (.int p0), some (.int p1), none, none], [.int (p0 - (p0 / (10 : Int32)) * (10 : Int32))], Wd f fl g gl hh v tx)) rfl ?_
      refine WP.br hP_58 (q := ¬ (p0 - (p0 / (10 : Int32)) * (10 : Int32)) = 0) (t := 25) (f := 19) (L := [some (.ref 0), some (.int p0), some (.int p1), none, none]) (st := []) (w := Wd f fl g gl hh v tx) rfl (fun c9 => ?_) (fun c9 => ?_)
      · have h10 := h8.1 c9
        refine WP.run hP_58 1 (c' := (26, [some (.ref 0), some (.int p0), some (.int p1), none, none], [.int p0], Wd f fl g gl hh v tx)) rfl ?_
        refine WP.run hP_58 2 (c' := (28, [some (.ref 0), some (.int p0), some (.int p1), some (.int p0), none], [.int 1], Wd f fl g gl hh v tx)) rfl ?_
        refine WP.run hP_58 1 (c' := (30, [some (.ref 0), some (.int p0), some (.int p1), some (.int p0), some (.int 1)], [], Wd f fl g gl hh v tx)) rfl ?_
        refine WP.clr hP_58 (pc := 30) rfl ?_
        exact h10
      · have h11 := h8.2 (Classical.not_not.mp c9)
        refine WP.run hP_58 2 (c' := (21, [some (.ref 0), none, none, none, none], [.int (-1), .ref 0], Wd f fl g gl hh v tx)) rfl ?_
        refine WP.call hP_58 hP_101 (as := [.ref 0, .int (-1)]) (pc' := 24) (L' := [some (.ref 0), none, none, none, none]) (st' := []) (w1 := Wd f fl g gl hh v tx) rfl ⟨Nat.le_of_ble_eq_true rfl, Nat.le_of_ble_eq_true rfl⟩ rfl (b_x_refused_0 X (d) f fl g gl hh v tx (-1) _ ?_)
        refine ⟨fun c12 => ?_, fun c => absurd c (by decide)⟩
        refine ⟨by decide, ?_⟩
        refine ⟨by decide, ?_⟩
        exact WP.retI hP_58 rfl rfl h11

set_option maxRecDepth 20000 in
theorem b_x_sign_30 (X : mm_X) (d : Nat) (f : Nat → Int32) (fl : Nat → Int64) (g : Nat → Nat → Int32) (gl : Nat → Nat → Int64) (hh : Nat → Nat → Option Nat) (v : Nat → Value) (tx : mm_W) (l2 : Int32) (l3 : Int32) (l4 : Int32)  (P : Option Value → mm_W → Prop)
    (h : ((4 ≤ l4) → WP X (d) 47 (0, [some (.ref 1), some (.int l2), some (.int ((((((l3 / (1000 : Int32)) <<< ((24 : Int32) &&& (31 : Int32))) : Int32) ||| ((((l3 / (100 : Int32)) - ((l3 / (100 : Int32)) / (10 : Int32)) * (10 : Int32)) <<< ((16 : Int32) &&& (31 : Int32))) : Int32)) ||| ((((l3 / (10 : Int32)) - ((l3 / (10 : Int32)) / (10 : Int32)) * (10 : Int32)) <<< ((8 : Int32) &&& (31 : Int32))) : Int32)) ||| (l3 - (l3 / (10 : Int32)) * (10 : Int32)))), none, none, none, none], [], Wd f fl g gl hh v tx) (fun rv w2 => WP X (d + 1) 58 (102, [some (.ref 0), none, some (.int l2), some (.int l3), some (.int ((((((l3 / (1000 : Int32)) <<< ((24 : Int32) &&& (31 : Int32))) : Int32) ||| ((((l3 / (100 : Int32)) - ((l3 / (100 : Int32)) / (10 : Int32)) * (10 : Int32)) <<< ((16 : Int32) &&& (31 : Int32))) : Int32)) ||| ((((l3 / (10 : Int32)) - ((l3 / (10 : Int32)) / (10 : Int32)) * (10 : Int32)) <<< ((8 : Int32) &&& (31 : Int32))) : Int32)) ||| (l3 - (l3 / (10 : Int32)) * (10 : Int32))))], rv.toList ++ [.ref 0], w2) P)) ∧
    ((¬ (4 ≤ l4)) → (((1000 ≤ l3) → WP X (d) 47 (0, [some (.ref 1), some (.int l2), some (.int ((((((l3 / (1000 : Int32)) <<< ((24 : Int32) &&& (31 : Int32))) : Int32) ||| ((((l3 / (100 : Int32)) - ((l3 / (100 : Int32)) / (10 : Int32)) * (10 : Int32)) <<< ((16 : Int32) &&& (31 : Int32))) : Int32)) ||| ((((l3 / (10 : Int32)) - ((l3 / (10 : Int32)) / (10 : Int32)) * (10 : Int32)) <<< ((8 : Int32) &&& (31 : Int32))) : Int32)) ||| (l3 - (l3 / (10 : Int32)) * (10 : Int32)))), none, none, none, none], [], Wd f fl g gl hh v tx) (fun rv w2 => WP X (d + 1) 58 (102, [some (.ref 0), none, some (.int l2), some (.int l3), some (.int ((((((l3 / (1000 : Int32)) <<< ((24 : Int32) &&& (31 : Int32))) : Int32) ||| ((((l3 / (100 : Int32)) - ((l3 / (100 : Int32)) / (10 : Int32)) * (10 : Int32)) <<< ((16 : Int32) &&& (31 : Int32))) : Int32)) ||| ((((l3 / (10 : Int32)) - ((l3 / (10 : Int32)) / (10 : Int32)) * (10 : Int32)) <<< ((8 : Int32) &&& (31 : Int32))) : Int32)) ||| (l3 - (l3 / (10 : Int32)) * (10 : Int32))))], rv.toList ++ [.ref 0], w2) P)) ∧
      ((¬ (1000 ≤ l3)) → WP X (d + 1) 58 (30, [some (.ref 0), none, some (.int l2), some (.int (l3 * (10 : Int32))), some (.int (l4 + (1 : Int32)))], [], Wd f fl g gl hh v tx) P)))) :
    WP X (d + 1) 58 (30, [some (.ref 0), none, some (.int l2), some (.int l3), some (.int l4)], [], Wd f fl g gl hh v tx) P := by
  refine WP.run hP_58 2 (c' := (33, [some (.ref 0), none, some (.int l2), some (.int l3), some (.int l4)], [.int 4, .int l4], Wd f fl g gl hh v tx)) rfl ?_
  refine WP.br hP_58 (q := 4 ≤ l4) (t := 54) (f := 36) (L := [some (.ref 0), none, some (.int l2), some (.int l3), some (.int l4)]) (st := []) (w := Wd f fl g gl hh v tx) rfl (fun c1 => ?_) (fun c1 => ?_)
  · have h2 := h.1 c1
    refine WP.run hP_58 25 (c' := (89, [some (.ref 0), none, some (.int l2), some (.int l3), none], [.int ((((((l3 / (1000 : Int32)) <<< ((24 : Int32) &&& (31 : Int32))) : Int32) ||| ((((l3 / (100 : Int32)) - ((l3 / (100 : Int32)) / (10 : Int32)) * (10 : Int32)) <<< ((16 : Int32) &&& (31 : Int32))) : Int32)) ||| ((((l3 / (10 : Int32)) - ((l3 / (10 : Int32)) / (10 : Int32)) * (10 : Int32)) <<< ((8 : Int32) &&& (31 : Int32))) : Int32)) ||| (l3 - (l3 / (10 : Int32)) * (10 : Int32)))], Wd f fl g gl hh v tx)) rfl ?_
    refine WP.run hP_58 6 (c' := (99, [some (.ref 0), none, some (.int l2), some (.int l3), some (.int ((((((l3 / (1000 : Int32)) <<< ((24 : Int32) &&& (31 : Int32))) : Int32) ||| ((((l3 / (100 : Int32)) - ((l3 / (100 : Int32)) / (10 : Int32)) * (10 : Int32)) <<< ((16 : Int32) &&& (31 : Int32))) : Int32)) ||| ((((l3 / (10 : Int32)) - ((l3 / (10 : Int32)) / (10 : Int32)) * (10 : Int32)) <<< ((8 : Int32) &&& (31 : Int32))) : Int32)) ||| (l3 - (l3 / (10 : Int32)) * (10 : Int32))))], [.int ((((((l3 / (1000 : Int32)) <<< ((24 : Int32) &&& (31 : Int32))) : Int32) ||| ((((l3 / (100 : Int32)) - ((l3 / (100 : Int32)) / (10 : Int32)) * (10 : Int32)) <<< ((16 : Int32) &&& (31 : Int32))) : Int32)) ||| ((((l3 / (10 : Int32)) - ((l3 / (10 : Int32)) / (10 : Int32)) * (10 : Int32)) <<< ((8 : Int32) &&& (31 : Int32))) : Int32)) ||| (l3 - (l3 / (10 : Int32)) * (10 : Int32))), .int l2, .ref 1, .ref 0], Wd f fl g gl hh v tx)) rfl ?_
    refine WP.call hP_58 hP_47 (as := [.ref 1, .int l2, .int ((((((l3 / (1000 : Int32)) <<< ((24 : Int32) &&& (31 : Int32))) : Int32) ||| ((((l3 / (100 : Int32)) - ((l3 / (100 : Int32)) / (10 : Int32)) * (10 : Int32)) <<< ((16 : Int32) &&& (31 : Int32))) : Int32)) ||| ((((l3 / (10 : Int32)) - ((l3 / (10 : Int32)) / (10 : Int32)) * (10 : Int32)) <<< ((8 : Int32) &&& (31 : Int32))) : Int32)) ||| (l3 - (l3 / (10 : Int32)) * (10 : Int32)))]) (pc' := 102) (L' := [some (.ref 0), none, some (.int l2), some (.int l3), some (.int ((((((l3 / (1000 : Int32)) <<< ((24 : Int32) &&& (31 : Int32))) : Int32) ||| ((((l3 / (100 : Int32)) - ((l3 / (100 : Int32)) / (10 : Int32)) * (10 : Int32)) <<< ((16 : Int32) &&& (31 : Int32))) : Int32)) ||| ((((l3 / (10 : Int32)) - ((l3 / (10 : Int32)) / (10 : Int32)) * (10 : Int32)) <<< ((8 : Int32) &&& (31 : Int32))) : Int32)) ||| (l3 - (l3 / (10 : Int32)) * (10 : Int32))))]) (st' := [.ref 0]) (w1 := Wd f fl g gl hh v tx) rfl ⟨Nat.le_of_ble_eq_true rfl, Nat.le_of_ble_eq_true rfl⟩ rfl ?_
    exact h2
  · have h3 := h.2 c1
    refine WP.run hP_58 2 (c' := (40, [some (.ref 0), none, some (.int l2), some (.int l3), some (.int l4)], [.int 1000, .int l3], Wd f fl g gl hh v tx)) rfl ?_
    refine WP.br hP_58 (q := 1000 ≤ l3) (t := 54) (f := 43) (L := [some (.ref 0), none, some (.int l2), some (.int l3), some (.int l4)]) (st := []) (w := Wd f fl g gl hh v tx) rfl (fun c4 => ?_) (fun c4 => ?_)
    · have h5 := h3.1 c4
      refine WP.run hP_58 25 (c' := (89, [some (.ref 0), none, some (.int l2), some (.int l3), none], [.int ((((((l3 / (1000 : Int32)) <<< ((24 : Int32) &&& (31 : Int32))) : Int32) ||| ((((l3 / (100 : Int32)) - ((l3 / (100 : Int32)) / (10 : Int32)) * (10 : Int32)) <<< ((16 : Int32) &&& (31 : Int32))) : Int32)) ||| ((((l3 / (10 : Int32)) - ((l3 / (10 : Int32)) / (10 : Int32)) * (10 : Int32)) <<< ((8 : Int32) &&& (31 : Int32))) : Int32)) ||| (l3 - (l3 / (10 : Int32)) * (10 : Int32)))], Wd f fl g gl hh v tx)) rfl ?_
      refine WP.run hP_58 6 (c' := (99, [some (.ref 0), none, some (.int l2), some (.int l3), some (.int ((((((l3 / (1000 : Int32)) <<< ((24 : Int32) &&& (31 : Int32))) : Int32) ||| ((((l3 / (100 : Int32)) - ((l3 / (100 : Int32)) / (10 : Int32)) * (10 : Int32)) <<< ((16 : Int32) &&& (31 : Int32))) : Int32)) ||| ((((l3 / (10 : Int32)) - ((l3 / (10 : Int32)) / (10 : Int32)) * (10 : Int32)) <<< ((8 : Int32) &&& (31 : Int32))) : Int32)) ||| (l3 - (l3 / (10 : Int32)) * (10 : Int32))))], [.int ((((((l3 / (1000 : Int32)) <<< ((24 : Int32) &&& (31 : Int32))) : Int32) ||| ((((l3 / (100 : Int32)) - ((l3 / (100 : Int32)) / (10 : Int32)) * (10 : Int32)) <<< ((16 : Int32) &&& (31 : Int32))) : Int32)) ||| ((((l3 / (10 : Int32)) - ((l3 / (10 : Int32)) / (10 : Int32)) * (10 : Int32)) <<< ((8 : Int32) &&& (31 : Int32))) : Int32)) ||| (l3 - (l3 / (10 : Int32)) * (10 : Int32))), .int l2, .ref 1, .ref 0], Wd f fl g gl hh v tx)) rfl ?_
      refine WP.call hP_58 hP_47 (as := [.ref 1, .int l2, .int ((((((l3 / (1000 : Int32)) <<< ((24 : Int32) &&& (31 : Int32))) : Int32) ||| ((((l3 / (100 : Int32)) - ((l3 / (100 : Int32)) / (10 : Int32)) * (10 : Int32)) <<< ((16 : Int32) &&& (31 : Int32))) : Int32)) ||| ((((l3 / (10 : Int32)) - ((l3 / (10 : Int32)) / (10 : Int32)) * (10 : Int32)) <<< ((8 : Int32) &&& (31 : Int32))) : Int32)) ||| (l3 - (l3 / (10 : Int32)) * (10 : Int32)))]) (pc' := 102) (L' := [some (.ref 0), none, some (.int l2), some (.int l3), some (.int ((((((l3 / (1000 : Int32)) <<< ((24 : Int32) &&& (31 : Int32))) : Int32) ||| ((((l3 / (100 : Int32)) - ((l3 / (100 : Int32)) / (10 : Int32)) * (10 : Int32)) <<< ((16 : Int32) &&& (31 : Int32))) : Int32)) ||| ((((l3 / (10 : Int32)) - ((l3 / (10 : Int32)) / (10 : Int32)) * (10 : Int32)) <<< ((8 : Int32) &&& (31 : Int32))) : Int32)) ||| (l3 - (l3 / (10 : Int32)) * (10 : Int32))))]) (st' := [.ref 0]) (w1 := Wd f fl g gl hh v tx) rfl ⟨Nat.le_of_ble_eq_true rfl, Nat.le_of_ble_eq_true rfl⟩ rfl ?_
      exact h5
    · have h6 := h3.2 c4
      refine WP.run hP_58 4 (c' := (48, [some (.ref 0), none, some (.int l2), some (.int (l3 * (10 : Int32))), some (.int l4)], [], Wd f fl g gl hh v tx)) rfl ?_
      refine WP.run hP_58 2 (c' := (30, [some (.ref 0), none, some (.int l2), some (.int (l3 * (10 : Int32))), some (.int (l4 + (1 : Int32)))], [], Wd f fl g gl hh v tx)) rfl ?_
      exact h6

set_option maxRecDepth 20000 in
theorem b_x_sign_102 (X : mm_X) (d : Nat) (f : Nat → Int32) (fl : Nat → Int64) (g : Nat → Nat → Int32) (gl : Nat → Nat → Int64) (hh : Nat → Nat → Option Nat) (v : Nat → Value) (tx : mm_W) (l2 : Int32) (l3 : Int32) (l4 : Int32) (s0 : Int32)  (P : Option Value → mm_W → Prop)
    (h : ((0 ≤ s0) → P (some (.int s0)) (Wd (va_up f 18 0) fl g gl hh v tx)) ∧
    ((¬ (0 ≤ s0)) → (((0 ≤ (-s0) ∧ (-s0) < (7 : Int32)) → ((¬ ((-s0) < 0 ∨ 7 ≤ (-s0).toNatClampNeg)) ∧ ((¬ ((-s0) < 0 ∨ 7 ≤ (-s0).toNatClampNeg)) ∧ P (some (.int s0)) (Wd (va_up f 18 s0) fl (va_up g 55 (upd (g 55) ((-s0).toNatClampNeg) (((g 55) (-s0).toNatClampNeg) + (1 : Int32)))) gl hh v tx)))) ∧
      ((¬ (0 ≤ (-s0) ∧ (-s0) < (7 : Int32))) → P (some (.int s0)) (Wd (va_up f 18 s0) fl g gl hh v tx))))) :
    WP X (d + 3) 58 (102, [some (.ref 0), none, some (.int l2), some (.int l3), some (.int l4)], [.int s0, .ref 0], Wd f fl g gl hh v tx) P := by
  refine WP.call hP_58 hP_102 (as := [.ref 0, .int s0]) (pc' := 105) (L' := [some (.ref 0), none, some (.int l2), some (.int l3), some (.int l4)]) (st' := []) (w1 := Wd f fl g gl hh v tx) rfl ⟨Nat.le_of_ble_eq_true rfl, Nat.le_of_ble_eq_true rfl⟩ rfl (b_x_settled_0 X (d) f fl g gl hh v tx s0 _ ?_)
  refine ⟨fun c1 => ?_, fun c1 => ?_⟩
  · have h2 := h.1 c1
    exact WP.retI hP_58 rfl rfl h2
  · have h3 := h.2 c1
    refine ⟨fun c4 => ?_, fun c4 => ?_⟩
    · have h5 := h3.1 c4
      refine ⟨h5.1, ?_⟩
      have h6 := h5.2
      refine ⟨h6.1, ?_⟩
      have h7 := h6.2
      exact WP.retI hP_58 rfl rfl h7
    · have h8 := h3.2 c4
      exact WP.retI hP_58 rfl rfl h8

set_option maxRecDepth 20000 in
theorem b_x_row_0 (X : mm_X) (d : Nat) (f : Nat → Int32) (fl : Nat → Int64) (g : Nat → Nat → Int32) (gl : Nat → Nat → Int64) (hh : Nat → Nat → Option Nat) (v : Nat → Value) (tx : mm_W)   (P : Option Value → mm_W → Prop)
    (h : ((¬ (f 6) = 0) → WP X (d + 2) 67 (23, [some (.ref 0), some (.int 0), some (.int 0), none, none], [], Wd (va_up f 15 0) fl g gl hh v tx) P) ∧
    (((f 6) = 0) → P (some (.int (-6))) (Wd (va_up f 18 (-6 : Int32)) fl (va_up g 55 (upd (g 55) (6) (((g 55) 6) + (1 : Int32)))) gl hh v tx))) :
    WP X (d + 2) 67 (0, [some (.ref 0), none, none, none, none], [], Wd f fl g gl hh v tx) P := by
  refine WP.run hP_67 2 (c' := (4, [some (.ref 0), none, none, none, none], [.int (f 6)], Wd f fl g gl hh v tx)) rfl ?_
  refine WP.br hP_67 (q := ¬ (f 6) = 0) (t := 14) (f := 7) (L := [some (.ref 0), none, none, none, none]) (st := []) (w := Wd f fl g gl hh v tx) rfl (fun c1 => ?_) (fun c1 => ?_)
  · have h2 := h.1 c1
    refine WP.run hP_67 1 (c' := (15, [some (.ref 0), none, none, none, none], [.int 0], Wd f fl g gl hh v tx)) rfl ?_
    refine WP.run hP_67 5 (c' := (22, [some (.ref 0), some (.int 0), none, none, none], [.int 0], Wd (va_up f 15 0) fl g gl hh v tx)) rfl ?_
    refine WP.run hP_67 1 (c' := (23, [some (.ref 0), some (.int 0), some (.int 0), none, none], [], Wd (va_up f 15 0) fl g gl hh v tx)) rfl ?_
    exact h2
  · have h3 := h.2 (Classical.not_not.mp c1)
    refine WP.run hP_67 2 (c' := (10, [some (.ref 0), none, none, none, none], [.int (-6), .ref 0], Wd f fl g gl hh v tx)) rfl ?_
    refine WP.call hP_67 hP_101 (as := [.ref 0, .int (-6)]) (pc' := 13) (L' := [some (.ref 0), none, none, none, none]) (st' := []) (w1 := Wd f fl g gl hh v tx) rfl ⟨Nat.le_of_ble_eq_true rfl, Nat.le_of_ble_eq_true rfl⟩ rfl (b_x_refused_0 X (d) f fl g gl hh v tx (-6) _ ?_)
    refine ⟨fun c4 => ?_, fun c => absurd c (by decide)⟩
    refine ⟨by decide, ?_⟩
    refine ⟨by decide, ?_⟩
    exact WP.retI hP_67 rfl rfl h3

set_option maxRecDepth 20000 in
theorem b_x_row_23 (X : mm_X) (d : Nat) (f : Nat → Int32) (fl : Nat → Int64) (g : Nat → Nat → Int32) (gl : Nat → Nat → Int64) (hh : Nat → Nat → Option Nat) (v : Nat → Value) (tx : mm_W) (l1 : Int32) (l2 : Int32)  (P : Option Value → mm_W → Prop)
    (h : (((f 6) ≤ l2) → P (some (.int l1)) (Wd (va_up (va_up f 6 0) 18 0) fl g gl hh v tx)) ∧
    ((¬ ((f 6) ≤ l2)) → ((((f 6) < (l2 + (5 : Int32))) → WP X (d + 1) 67 (23, [some (.ref 0), some (.int l1), some (.int (l2 + (5 : Int32))), none, none], [], Wd (va_up f 15 ((f 15) + (1 : Int32))) fl g gl hh v tx) P) ∧
      ((¬ ((f 6) < (l2 + (5 : Int32)))) → ((¬ ((l2 + (1 : Int32)) < 0 ∨ 400 ≤ (l2 + (1 : Int32)).toNatClampNeg)) ∧ ((¬ ((l2 + (2 : Int32)) < 0 ∨ 400 ≤ (l2 + (2 : Int32)).toNatClampNeg)) ∧ ((¬ ((l2 + (3 : Int32)) < 0 ∨ 400 ≤ (l2 + (3 : Int32)).toNatClampNeg)) ∧ ((¬ ((l2 + (4 : Int32)) < 0 ∨ 400 ≤ (l2 + (4 : Int32)).toNatClampNeg)) ∧ ((¬ (l2 < 0 ∨ 400 ≤ l2.toNatClampNeg)) ∧ WP X (d) 47 (0, [some (.ref 1), some (.int ((g 30) l2.toNatClampNeg)), some (.int (((((((g 30) (l2 + (1 : Int32)).toNatClampNeg) <<< ((24 : Int32) &&& (31 : Int32))) : Int32) ||| ((((g 30) (l2 + (2 : Int32)).toNatClampNeg) <<< ((16 : Int32) &&& (31 : Int32))) : Int32)) ||| ((((g 30) (l2 + (3 : Int32)).toNatClampNeg) <<< ((8 : Int32) &&& (31 : Int32))) : Int32)) ||| ((g 30) (l2 + (4 : Int32)).toNatClampNeg))), none, none, none, none], [], Wd f fl g gl hh v tx) (fun rv w2 => WP X (d + 1) 67 (105, [some (.ref 0), some (.int l1), some (.int l2), some (.int (-6)), some (.int (((((((g 30) (l2 + (1 : Int32)).toNatClampNeg) <<< ((24 : Int32) &&& (31 : Int32))) : Int32) ||| ((((g 30) (l2 + (2 : Int32)).toNatClampNeg) <<< ((16 : Int32) &&& (31 : Int32))) : Int32)) ||| ((((g 30) (l2 + (3 : Int32)).toNatClampNeg) <<< ((8 : Int32) &&& (31 : Int32))) : Int32)) ||| ((g 30) (l2 + (4 : Int32)).toNatClampNeg)))], rv.toList ++ [], w2) P)))))))))) :
    WP X (d + 1) 67 (23, [some (.ref 0), some (.int l1), some (.int l2), none, none], [], Wd f fl g gl hh v tx) P := by
  refine WP.run hP_67 3 (c' := (28, [some (.ref 0), some (.int l1), some (.int l2), none, none], [.int (f 6), .int l2], Wd f fl g gl hh v tx)) rfl ?_
  refine WP.br hP_67 (q := (f 6) ≤ l2) (t := 132) (f := 31) (L := [some (.ref 0), some (.int l1), some (.int l2), none, none]) (st := []) (w := Wd f fl g gl hh v tx) rfl (fun c1 => ?_) (fun c1 => ?_)
  · have h2 := h.1 c1
    refine WP.run hP_67 5 (c' := (139, [some (.ref 0), some (.int l1), none, none, none], [.int l1, .ref 0], Wd (va_up f 6 0) fl g gl hh v tx)) rfl ?_
    refine WP.call hP_67 hP_100 (as := [.ref 0, .int l1]) (pc' := 142) (L' := [some (.ref 0), some (.int l1), none, none, none]) (st' := []) (w1 := Wd (va_up f 6 0) fl g gl hh v tx) rfl ⟨Nat.le_of_ble_eq_true rfl, Nat.le_of_ble_eq_true rfl⟩ rfl (b_x_accepted_0 X (d) (va_up f 6 0) fl g gl hh v tx l1 _ ?_)
    exact WP.retI hP_67 rfl rfl h2
  · have h3 := h.2 c1
    refine WP.run hP_67 7 (c' := (41, [some (.ref 0), some (.int l1), some (.int l2), some (.int (-6)), none], [.int (f 6), .int (l2 + (5 : Int32))], Wd f fl g gl hh v tx)) rfl ?_
    refine WP.br hP_67 (q := (f 6) < (l2 + (5 : Int32))) (t := 106) (f := 44) (L := [some (.ref 0), some (.int l1), some (.int l2), some (.int (-6)), none]) (st := []) (w := Wd f fl g gl hh v tx) rfl (fun c4 => ?_) (fun c4 => ?_)
    · have h5 := h3.1 c4
      refine WP.run hP_67 9 (c' := (126, [some (.ref 0), some (.int l1), some (.int l2), some (.int (-6)), none], [], Wd (va_up f 15 ((f 15) + (1 : Int32))) fl g gl hh v tx)) rfl ?_
      refine WP.run hP_67 2 (c' := (23, [some (.ref 0), some (.int l1), some (.int (l2 + (5 : Int32))), none, none], [], Wd (va_up f 15 ((f 15) + (1 : Int32))) fl g gl hh v tx)) rfl ?_
      exact h5
    · have h6 := h3.2 c4
      refine WP.run hP_67 5 (c' := (51, [some (.ref 0), some (.int l1), some (.int l2), some (.int (-6)), none], [.int (l2 + (1 : Int32)), .ref 30], Wd f fl g gl hh v tx)) rfl ?_
      refine WP.of (fun _ _ => Ex.iald hP_67 rfl (Wa_30 _ _ _ _ _ _ _) h6.1) ?_
      have h7 := h6.2
      refine WP.run hP_67 7 (c' := (62, [some (.ref 0), some (.int l1), some (.int l2), some (.int (-6)), none], [.int (l2 + (2 : Int32)), .ref 30, .int ((((g 30) (l2 + (1 : Int32)).toNatClampNeg) <<< ((24 : Int32) &&& (31 : Int32))) : Int32)], Wd f fl g gl hh v tx)) rfl ?_
      refine WP.of (fun _ _ => Ex.iald hP_67 rfl (Wa_30 _ _ _ _ _ _ _) h7.1) ?_
      have h8 := h7.2
      refine WP.run hP_67 8 (c' := (74, [some (.ref 0), some (.int l1), some (.int l2), some (.int (-6)), none], [.int (l2 + (3 : Int32)), .ref 30, .int (((((g 30) (l2 + (1 : Int32)).toNatClampNeg) <<< ((24 : Int32) &&& (31 : Int32))) : Int32) ||| ((((g 30) (l2 + (2 : Int32)).toNatClampNeg) <<< ((16 : Int32) &&& (31 : Int32))) : Int32))], Wd f fl g gl hh v tx)) rfl ?_
      refine WP.of (fun _ _ => Ex.iald hP_67 rfl (Wa_30 _ _ _ _ _ _ _) h8.1) ?_
      have h9 := h8.2
      refine WP.run hP_67 8 (c' := (86, [some (.ref 0), some (.int l1), some (.int l2), some (.int (-6)), none], [.int (l2 + (4 : Int32)), .ref 30, .int ((((((g 30) (l2 + (1 : Int32)).toNatClampNeg) <<< ((24 : Int32) &&& (31 : Int32))) : Int32) ||| ((((g 30) (l2 + (2 : Int32)).toNatClampNeg) <<< ((16 : Int32) &&& (31 : Int32))) : Int32)) ||| ((((g 30) (l2 + (3 : Int32)).toNatClampNeg) <<< ((8 : Int32) &&& (31 : Int32))) : Int32))], Wd f fl g gl hh v tx)) rfl ?_
      refine WP.of (fun _ _ => Ex.iald hP_67 rfl (Wa_30 _ _ _ _ _ _ _) h9.1) ?_
      have h10 := h9.2
      refine WP.run hP_67 7 (c' := (99, [some (.ref 0), some (.int l1), some (.int l2), some (.int (-6)), some (.int (((((((g 30) (l2 + (1 : Int32)).toNatClampNeg) <<< ((24 : Int32) &&& (31 : Int32))) : Int32) ||| ((((g 30) (l2 + (2 : Int32)).toNatClampNeg) <<< ((16 : Int32) &&& (31 : Int32))) : Int32)) ||| ((((g 30) (l2 + (3 : Int32)).toNatClampNeg) <<< ((8 : Int32) &&& (31 : Int32))) : Int32)) ||| ((g 30) (l2 + (4 : Int32)).toNatClampNeg)))], [.int l2, .ref 30, .ref 1], Wd f fl g gl hh v tx)) rfl ?_
      refine WP.of (fun _ _ => Ex.iald hP_67 rfl (Wa_30 _ _ _ _ _ _ _) h10.1) ?_
      have h11 := h10.2
      refine WP.run hP_67 1 (c' := (102, [some (.ref 0), some (.int l1), some (.int l2), some (.int (-6)), some (.int (((((((g 30) (l2 + (1 : Int32)).toNatClampNeg) <<< ((24 : Int32) &&& (31 : Int32))) : Int32) ||| ((((g 30) (l2 + (2 : Int32)).toNatClampNeg) <<< ((16 : Int32) &&& (31 : Int32))) : Int32)) ||| ((((g 30) (l2 + (3 : Int32)).toNatClampNeg) <<< ((8 : Int32) &&& (31 : Int32))) : Int32)) ||| ((g 30) (l2 + (4 : Int32)).toNatClampNeg)))], [.int (((((((g 30) (l2 + (1 : Int32)).toNatClampNeg) <<< ((24 : Int32) &&& (31 : Int32))) : Int32) ||| ((((g 30) (l2 + (2 : Int32)).toNatClampNeg) <<< ((16 : Int32) &&& (31 : Int32))) : Int32)) ||| ((((g 30) (l2 + (3 : Int32)).toNatClampNeg) <<< ((8 : Int32) &&& (31 : Int32))) : Int32)) ||| ((g 30) (l2 + (4 : Int32)).toNatClampNeg)), .int ((g 30) l2.toNatClampNeg), .ref 1], Wd f fl g gl hh v tx)) rfl ?_
      refine WP.call hP_67 hP_47 (as := [.ref 1, .int ((g 30) l2.toNatClampNeg), .int (((((((g 30) (l2 + (1 : Int32)).toNatClampNeg) <<< ((24 : Int32) &&& (31 : Int32))) : Int32) ||| ((((g 30) (l2 + (2 : Int32)).toNatClampNeg) <<< ((16 : Int32) &&& (31 : Int32))) : Int32)) ||| ((((g 30) (l2 + (3 : Int32)).toNatClampNeg) <<< ((8 : Int32) &&& (31 : Int32))) : Int32)) ||| ((g 30) (l2 + (4 : Int32)).toNatClampNeg))]) (pc' := 105) (L' := [some (.ref 0), some (.int l1), some (.int l2), some (.int (-6)), some (.int (((((((g 30) (l2 + (1 : Int32)).toNatClampNeg) <<< ((24 : Int32) &&& (31 : Int32))) : Int32) ||| ((((g 30) (l2 + (2 : Int32)).toNatClampNeg) <<< ((16 : Int32) &&& (31 : Int32))) : Int32)) ||| ((((g 30) (l2 + (3 : Int32)).toNatClampNeg) <<< ((8 : Int32) &&& (31 : Int32))) : Int32)) ||| ((g 30) (l2 + (4 : Int32)).toNatClampNeg)))]) (st' := []) (w1 := Wd f fl g gl hh v tx) rfl ⟨Nat.le_of_ble_eq_true rfl, Nat.le_of_ble_eq_true rfl⟩ rfl ?_
      exact h11

set_option maxRecDepth 20000 in
theorem b_x_row_105 (X : mm_X) (d : Nat) (f : Nat → Int32) (fl : Nat → Int64) (g : Nat → Nat → Int32) (gl : Nat → Nat → Int64) (hh : Nat → Nat → Option Nat) (v : Nat → Value) (tx : mm_W) (l1 : Int32) (l2 : Int32) (l3 : Int32) (l4 : Int32) (s0 : Int32)  (P : Option Value → mm_W → Prop)
    (h : ((0 ≤ s0) → WP X (d) 67 (23, [some (.ref 0), some (.int (l1 + (1 : Int32))), some (.int (l2 + (5 : Int32))), none, none], [], Wd f fl g gl hh v tx) P) ∧
    ((¬ (0 ≤ s0)) → WP X (d) 67 (23, [some (.ref 0), some (.int l1), some (.int (l2 + (5 : Int32))), none, none], [], Wd (va_up f 15 ((f 15) + (1 : Int32))) fl g gl hh v tx) P)) :
    WP X (d) 67 (105, [some (.ref 0), some (.int l1), some (.int l2), some (.int l3), some (.int l4)], [.int s0], Wd f fl g gl hh v tx) P := by
  refine WP.run hP_67 1 (c' := (106, [some (.ref 0), some (.int l1), some (.int l2), some (.int s0), some (.int l4)], [], Wd f fl g gl hh v tx)) rfl ?_
  refine WP.run hP_67 1 (c' := (107, [some (.ref 0), some (.int l1), some (.int l2), some (.int s0), none], [.int s0], Wd f fl g gl hh v tx)) rfl ?_
  refine WP.br hP_67 (q := 0 ≤ s0) (t := 123) (f := 110) (L := [some (.ref 0), some (.int l1), some (.int l2), some (.int s0), none]) (st := []) (w := Wd f fl g gl hh v tx) rfl (fun c1 => ?_) (fun c1 => ?_)
  · have h2 := h.1 c1
    refine WP.run hP_67 1 (c' := (126, [some (.ref 0), some (.int (l1 + (1 : Int32))), some (.int l2), none, none], [], Wd f fl g gl hh v tx)) rfl ?_
    refine WP.run hP_67 2 (c' := (23, [some (.ref 0), some (.int (l1 + (1 : Int32))), some (.int (l2 + (5 : Int32))), none, none], [], Wd f fl g gl hh v tx)) rfl ?_
    exact h2
  · have h3 := h.2 c1
    refine WP.run hP_67 9 (c' := (23, [some (.ref 0), some (.int l1), some (.int (l2 + (5 : Int32))), none, none], [], Wd (va_up f 15 ((f 15) + (1 : Int32))) fl g gl hh v tx)) rfl ?_
    exact h3

set_option maxRecDepth 20000 in
theorem b_m_longOf_0 (X : mm_X) (d : Nat) (f : Nat → Int32) (fl : Nat → Int64) (g : Nat → Nat → Int32) (gl : Nat → Nat → Int64) (hh : Nat → Nat → Option Nat) (v : Nat → Value) (tx : mm_W) (p0 : Int32)  (P : Option Value → mm_W → Prop)
    (h : ((p0 ≤ 0) → WP X (d) 133 (14, [none, some (.int 0), some (.int 0), some (.int p0)], [], Wd f fl g gl hh v tx) P) ∧
    ((¬ (p0 ≤ 0)) → WP X (d) 133 (14, [none, some (.int 0), some (.int 1), some (.int p0)], [], Wd f fl g gl hh v tx) P)) :
    WP X (d) 133 (0, [some (.int p0), none, none, none], [], Wd f fl g gl hh v tx) P := by
  refine WP.run hP_133 3 (c' := (3, [some (.int p0), some (.int 0), none, none], [.int p0], Wd f fl g gl hh v tx)) rfl ?_
  refine WP.br hP_133 (q := p0 ≤ 0) (t := 10) (f := 6) (L := [some (.int p0), some (.int 0), none, none]) (st := []) (w := Wd f fl g gl hh v tx) rfl (fun c1 => ?_) (fun c1 => ?_)
  · have h2 := h.1 c1
    refine WP.run hP_133 1 (c' := (11, [some (.int p0), some (.int 0), none, none], [.int 0], Wd f fl g gl hh v tx)) rfl ?_
    refine WP.run hP_133 2 (c' := (13, [some (.int p0), some (.int 0), some (.int 0), none], [.int p0], Wd f fl g gl hh v tx)) rfl ?_
    refine WP.run hP_133 1 (c' := (14, [some (.int p0), some (.int 0), some (.int 0), some (.int p0)], [], Wd f fl g gl hh v tx)) rfl ?_
    refine WP.clr hP_133 (pc := 14) rfl ?_
    exact h2
  · have h3 := h.2 c1
    refine WP.run hP_133 4 (c' := (13, [some (.int p0), some (.int 0), some (.int 1), none], [.int p0], Wd f fl g gl hh v tx)) rfl ?_
    refine WP.run hP_133 1 (c' := (14, [some (.int p0), some (.int 0), some (.int 1), some (.int p0)], [], Wd f fl g gl hh v tx)) rfl ?_
    refine WP.clr hP_133 (pc := 14) rfl ?_
    exact h3

set_option maxRecDepth 20000 in
theorem b_m_longOf_14 (X : mm_X) (d : Nat) (f : Nat → Int32) (fl : Nat → Int64) (g : Nat → Nat → Int32) (gl : Nat → Nat → Int64) (hh : Nat → Nat → Option Nat) (v : Nat → Value) (tx : mm_W) (l1 : Int32) (l2 : Int32) (l3 : Int32)  (P : Option Value → mm_W → Prop)
    (h : ((l3 ≤ 0) → (((l2 = 0) → P (some (.int (-1))) (Wd f fl g gl hh v tx)) ∧
      ((¬ l2 = 0) → (((4 < l1) → P (some (.int (-1))) (Wd f fl g gl hh v tx)) ∧
        ((¬ (4 < l1)) → P (some (.int l1)) (Wd f fl g gl hh v tx)))))) ∧
    ((¬ (l3 ≤ 0)) → (((l2 = 0) → WP X (d + 1) 133 (14, [none, some (.int (l1 + (1 : Int32))), some (.int 0), some (.int (l3 / (10 : Int32)))], [], Wd f fl g gl hh v tx) P) ∧
      ((¬ l2 = 0) → ((((1 : Int32) ≤ (l3 - (l3 / (10 : Int32)) * (10 : Int32)) ∧ (l3 - (l3 / (10 : Int32)) * (10 : Int32)) ≤ (4 : Int32)) → WP X (d + 1) 133 (14, [none, some (.int (l1 + (1 : Int32))), some (.int 1), some (.int (l3 / (10 : Int32)))], [], Wd f fl g gl hh v tx) P) ∧
        ((¬ ((1 : Int32) ≤ (l3 - (l3 / (10 : Int32)) * (10 : Int32)) ∧ (l3 - (l3 / (10 : Int32)) * (10 : Int32)) ≤ (4 : Int32))) → WP X (d + 1) 133 (14, [none, some (.int (l1 + (1 : Int32))), some (.int 0), some (.int (l3 / (10 : Int32)))], [], Wd f fl g gl hh v tx) P)))))) :
    WP X (d + 1) 133 (14, [none, some (.int l1), some (.int l2), some (.int l3)], [], Wd f fl g gl hh v tx) P := by
  refine WP.run hP_133 1 (c' := (15, [none, some (.int l1), some (.int l2), some (.int l3)], [.int l3], Wd f fl g gl hh v tx)) rfl ?_
  refine WP.br hP_133 (q := l3 ≤ 0) (t := 51) (f := 18) (L := [none, some (.int l1), some (.int l2), some (.int l3)]) (st := []) (w := Wd f fl g gl hh v tx) rfl (fun c1 => ?_) (fun c1 => ?_)
  · have h2 := h.1 c1
    refine WP.run hP_133 1 (c' := (52, [none, some (.int l1), some (.int l2), none], [.int l2], Wd f fl g gl hh v tx)) rfl ?_
    refine WP.br hP_133 (q := l2 = 0) (t := 64) (f := 55) (L := [none, some (.int l1), some (.int l2), none]) (st := []) (w := Wd f fl g gl hh v tx) rfl (fun c3 => ?_) (fun c3 => ?_)
    · have h4 := h2.1 c3
      refine WP.run hP_133 1 (c' := (65, [none, none, none, none], [.int (-1)], Wd f fl g gl hh v tx)) rfl ?_
      exact WP.retI hP_133 rfl rfl h4
    · have h5 := h2.2 c3
      refine WP.run hP_133 2 (c' := (57, [none, some (.int l1), some (.int l2), none], [.int 4, .int l1], Wd f fl g gl hh v tx)) rfl ?_
      refine WP.br hP_133 (q := 4 < l1) (t := 64) (f := 60) (L := [none, some (.int l1), some (.int l2), none]) (st := []) (w := Wd f fl g gl hh v tx) rfl (fun c6 => ?_) (fun c6 => ?_)
      · have h7 := h5.1 c6
        refine WP.run hP_133 1 (c' := (65, [none, none, none, none], [.int (-1)], Wd f fl g gl hh v tx)) rfl ?_
        exact WP.retI hP_133 rfl rfl h7
      · have h8 := h5.2 c6
        refine WP.run hP_133 2 (c' := (65, [none, some (.int l1), some (.int l2), none], [.int l1], Wd f fl g gl hh v tx)) rfl ?_
        exact WP.retI hP_133 rfl rfl h8
  · have h9 := h.2 c1
    refine WP.run hP_133 1 (c' := (19, [none, some (.int l1), some (.int l2), some (.int l3)], [.int l2], Wd f fl g gl hh v tx)) rfl ?_
    refine WP.br hP_133 (q := l2 = 0) (t := 38) (f := 22) (L := [none, some (.int l1), some (.int l2), some (.int l3)]) (st := []) (w := Wd f fl g gl hh v tx) rfl (fun c10 => ?_) (fun c10 => ?_)
    · have h11 := h9.1 c10
      refine WP.run hP_133 1 (c' := (39, [none, some (.int l1), none, some (.int l3)], [.int 0], Wd f fl g gl hh v tx)) rfl ?_
      refine WP.run hP_133 1 (c' := (40, [none, some (.int l1), some (.int 0), some (.int l3)], [], Wd f fl g gl hh v tx)) rfl ?_
      refine WP.run hP_133 4 (c' := (47, [none, some (.int (l1 + (1 : Int32))), some (.int 0), some (.int l3)], [.int (l3 / (10 : Int32))], Wd f fl g gl hh v tx)) rfl ?_
      refine WP.run hP_133 2 (c' := (14, [none, some (.int (l1 + (1 : Int32))), some (.int 0), some (.int (l3 / (10 : Int32)))], [], Wd f fl g gl hh v tx)) rfl ?_
      exact h11
    · have h12 := h9.2 c10
      refine WP.run hP_133 5 (c' := (28, [none, some (.int l1), some (.int l2), some (.int l3)], [.int 4, .int 1, .int (l3 - (l3 / (10 : Int32)) * (10 : Int32))], Wd f fl g gl hh v tx)) rfl ?_
      refine WP.call hP_133 hP_116 (as := [.int (l3 - (l3 / (10 : Int32)) * (10 : Int32)), .int 1, .int 4]) (pc' := 31) (L' := [none, some (.int l1), some (.int l2), some (.int l3)]) (st' := []) (w1 := Wd f fl g gl hh v tx) rfl ⟨Nat.le_of_ble_eq_true rfl, Nat.le_of_ble_eq_true rfl⟩ rfl (b_lies_m X (d) f fl g gl hh v tx (l3 - (l3 / (10 : Int32)) * (10 : Int32)) 1 4 _ ?_)
      refine ⟨fun c13 => ?_, fun c13 => ?_⟩
      · have h14 := h12.1 c13
        refine WP.run hP_133 4 (c' := (40, [none, some (.int l1), some (.int 1), some (.int l3)], [], Wd f fl g gl hh v tx)) rfl ?_
        refine WP.run hP_133 4 (c' := (47, [none, some (.int (l1 + (1 : Int32))), some (.int 1), some (.int l3)], [.int (l3 / (10 : Int32))], Wd f fl g gl hh v tx)) rfl ?_
        refine WP.run hP_133 2 (c' := (14, [none, some (.int (l1 + (1 : Int32))), some (.int 1), some (.int (l3 / (10 : Int32)))], [], Wd f fl g gl hh v tx)) rfl ?_
        exact h14
      · have h15 := h12.2 c13
        refine WP.run hP_133 2 (c' := (39, [none, some (.int l1), none, some (.int l3)], [.int 0], Wd f fl g gl hh v tx)) rfl ?_
        refine WP.run hP_133 1 (c' := (40, [none, some (.int l1), some (.int 0), some (.int l3)], [], Wd f fl g gl hh v tx)) rfl ?_
        refine WP.run hP_133 4 (c' := (47, [none, some (.int (l1 + (1 : Int32))), some (.int 0), some (.int l3)], [.int (l3 / (10 : Int32))], Wd f fl g gl hh v tx)) rfl ?_
        refine WP.run hP_133 2 (c' := (14, [none, some (.int (l1 + (1 : Int32))), some (.int 0), some (.int (l3 / (10 : Int32)))], [], Wd f fl g gl hh v tx)) rfl ?_
        exact h15

set_option maxRecDepth 20000 in
theorem b_m_adds_0 (X : mm_X) (d : Nat) (f : Nat → Int32) (fl : Nat → Int64) (g : Nat → Nat → Int32) (gl : Nat → Nat → Int64) (hh : Nat → Nat → Option Nat) (v : Nat → Value) (tx : mm_W) (p0 : Int32) (p1 : Int32)  (P : Option Value → mm_W → Prop)
    (h : (¬ (((23 : Int32) + ((g 76) 55)) < 0 ∨ 5667 ≤ ((23 : Int32) + ((g 76) 55)).toNatClampNeg)) ∧ WP X (d) 133 (0, [some (.int p0), none, none, none], [], Wd f fl (va_up g 76 (upd (g 76) (((23 : Int32) + ((g 76) 55)).toNatClampNeg) p0)) gl hh v tx) (fun rv w2 => WP X (d + 1) 134 (27, [some (.ref 74), some (.int p0), some (.int p1), some (.int ((g 76) 55))], rv.toList ++ [.int ((31 : Int32) + ((g 76) 55)), .ref 76], w2) P)) :
    WP X (d + 1) 134 (0, [some (.ref 74), some (.int p0), some (.int p1), none], [], Wd f fl g gl hh v tx) P := by
  refine WP.run hP_134 1 (c' := (1, [some (.ref 74), some (.int p0), some (.int p1), none], [.ref 74], Wd f fl g gl hh v tx)) rfl ?_
  refine WP.call hP_134 hP_129 (as := [.ref 74]) (pc' := 4) (L' := [some (.ref 74), some (.int p0), some (.int p1), none]) (st' := []) (w1 := Wd f fl g gl hh v tx) rfl ⟨Nat.le_of_ble_eq_true rfl, Nat.le_of_ble_eq_true rfl⟩ rfl (b_m_signMany_0 X (d) f fl g gl hh v tx  _ ?_)
  refine WP.run hP_134 7 (c' := (14, [some (.ref 74), some (.int p0), some (.int p1), some (.int ((g 76) 55))], [.int p0, .int ((23 : Int32) + ((g 76) 55)), .ref 76], Wd f fl g gl hh v tx)) rfl ?_
  refine WP.of (fun _ _ => Ex.iast hP_134 (w2 := Wd f fl (va_up g 76 (upd (g 76) (((23 : Int32) + ((g 76) 55)).toNatClampNeg) p0)) gl hh v tx) rfl (Wa_76 _ _ _ _ _ _ _) h.1 (Ws_76 _ _ _ _ _ _ _ _)) ?_
  have h1 := h.2
  refine WP.run hP_134 6 (c' := (24, [some (.ref 74), some (.int p0), some (.int p1), some (.int ((g 76) 55))], [.int p0, .int ((31 : Int32) + ((g 76) 55)), .ref 76], Wd f fl (va_up g 76 (upd (g 76) (((23 : Int32) + ((g 76) 55)).toNatClampNeg) p0)) gl hh v tx)) rfl ?_
  refine WP.call hP_134 hP_133 (as := [.int p0]) (pc' := 27) (L' := [some (.ref 74), some (.int p0), some (.int p1), some (.int ((g 76) 55))]) (st' := [.int ((31 : Int32) + ((g 76) 55)), .ref 76]) (w1 := Wd f fl (va_up g 76 (upd (g 76) (((23 : Int32) + ((g 76) 55)).toNatClampNeg) p0)) gl hh v tx) rfl ⟨Nat.le_of_ble_eq_true rfl, Nat.le_of_ble_eq_true rfl⟩ rfl ?_
  exact h1

set_option maxRecDepth 20000 in
theorem b_m_adds_27 (X : mm_X) (d : Nat) (f : Nat → Int32) (fl : Nat → Int64) (g : Nat → Nat → Int32) (gl : Nat → Nat → Int64) (hh : Nat → Nat → Option Nat) (v : Nat → Value) (tx : mm_W) (l1 : Int32) (l2 : Int32) (l3 : Int32) (s0 : Int32) (s1 : Int32)  (P : Option Value → mm_W → Prop)
    (h : (¬ (s1 < 0 ∨ 5667 ≤ s1.toNatClampNeg)) ∧ ((¬ (((39 : Int32) + l3) < 0 ∨ 5667 ≤ ((39 : Int32) + l3).toNatClampNeg)) ∧ P none (Wd f fl (va_up (va_up (va_up g 76 (upd (g 76) (s1.toNatClampNeg) s0)) 76 (upd (upd (g 76) (s1.toNatClampNeg) s0) (((39 : Int32) + l3).toNatClampNeg) l2)) 76 (upd (upd (upd (g 76) (s1.toNatClampNeg) s0) (((39 : Int32) + l3).toNatClampNeg) l2) 55 (((upd (upd (g 76) (s1.toNatClampNeg) s0) (((39 : Int32) + l3).toNatClampNeg) l2) 55) + (1 : Int32)))) gl hh v tx))) :
    WP X (d) 134 (27, [some (.ref 74), some (.int l1), some (.int l2), some (.int l3)], [.int s0, .int s1, .ref 76], Wd f fl g gl hh v tx) P := by
  refine WP.of (fun _ _ => Ex.iast hP_134 (w2 := Wd f fl (va_up g 76 (upd (g 76) (s1.toNatClampNeg) s0)) gl hh v tx) rfl (Wa_76 _ _ _ _ _ _ _) h.1 (Ws_76 _ _ _ _ _ _ _ _)) ?_
  have h1 := h.2
  refine WP.run hP_134 6 (c' := (37, [some (.ref 74), some (.int l1), some (.int l2), some (.int l3)], [.int l2, .int ((39 : Int32) + l3), .ref 76], Wd f fl (va_up g 76 (upd (g 76) (s1.toNatClampNeg) s0)) gl hh v tx)) rfl ?_
  refine WP.of (fun _ _ => Ex.iast hP_134 (w2 := Wd f fl (va_up (va_up g 76 (upd (g 76) (s1.toNatClampNeg) s0)) 76 (upd (upd (g 76) (s1.toNatClampNeg) s0) (((39 : Int32) + l3).toNatClampNeg) l2)) gl hh v tx) rfl (Wa_76 _ _ _ _ _ _ _) h1.1 (Ws_76 _ _ _ _ _ _ _ _)) ?_
  have h2 := h1.2
  refine WP.run hP_134 4 (c' := (45, [some (.ref 74), some (.int l1), some (.int l2), some (.int l3)], [.int 55, .ref 76, .int 55, .ref 76], Wd f fl (va_up (va_up g 76 (upd (g 76) (s1.toNatClampNeg) s0)) 76 (upd (upd (g 76) (s1.toNatClampNeg) s0) (((39 : Int32) + l3).toNatClampNeg) l2)) gl hh v tx)) rfl ?_
  refine WP.of (fun _ _ => Ex.iald hP_134 rfl (Wa_76 _ _ _ _ _ _ _) (by decide)) ?_
  show WP X _ 134 (46, [some (.ref 74), some (.int l1), some (.int l2), some (.int l3)], [.int ((upd (upd (g 76) (s1.toNatClampNeg) s0) (((39 : Int32) + l3).toNatClampNeg) l2) 55), .int 55, .ref 76], Wd f fl (va_up (va_up g 76 (upd (g 76) (s1.toNatClampNeg) s0)) 76 (upd (upd (g 76) (s1.toNatClampNeg) s0) (((39 : Int32) + l3).toNatClampNeg) l2)) gl hh v tx) P
  refine WP.run hP_134 2 (c' := (48, [some (.ref 74), some (.int l1), some (.int l2), some (.int l3)], [.int (((upd (upd (g 76) (s1.toNatClampNeg) s0) (((39 : Int32) + l3).toNatClampNeg) l2) 55) + (1 : Int32)), .int 55, .ref 76], Wd f fl (va_up (va_up g 76 (upd (g 76) (s1.toNatClampNeg) s0)) 76 (upd (upd (g 76) (s1.toNatClampNeg) s0) (((39 : Int32) + l3).toNatClampNeg) l2)) gl hh v tx)) rfl ?_
  refine WP.of (fun _ _ => Ex.iast hP_134 (w2 := Wd f fl (va_up (va_up (va_up g 76 (upd (g 76) (s1.toNatClampNeg) s0)) 76 (upd (upd (g 76) (s1.toNatClampNeg) s0) (((39 : Int32) + l3).toNatClampNeg) l2)) 76 (upd (upd (upd (g 76) (s1.toNatClampNeg) s0) (((39 : Int32) + l3).toNatClampNeg) l2) 55 (((upd (upd (g 76) (s1.toNatClampNeg) s0) (((39 : Int32) + l3).toNatClampNeg) l2) 55) + (1 : Int32)))) gl hh v tx) rfl (Wa_76 _ _ _ _ _ _ _) (by decide) (Ws_76 _ _ _ _ _ _ _ _)) ?_
  exact WP.ret hP_134 (r := none) (w' := Wd f fl (va_up (va_up (va_up g 76 (upd (g 76) (s1.toNatClampNeg) s0)) 76 (upd (upd (g 76) (s1.toNatClampNeg) s0) (((39 : Int32) + l3).toNatClampNeg) l2)) 76 (upd (upd (upd (g 76) (s1.toNatClampNeg) s0) (((39 : Int32) + l3).toNatClampNeg) l2) 55 (((upd (upd (g 76) (s1.toNatClampNeg) s0) (((39 : Int32) + l3).toNatClampNeg) l2) 55) + (1 : Int32)))) gl hh v tx) rfl h2

set_option maxRecDepth 20000 in
theorem b_m_isTaken_0 (X : mm_X) (d : Nat) (f : Nat → Int32) (fl : Nat → Int64) (g : Nat → Nat → Int32) (gl : Nat → Nat → Int64) (hh : Nat → Nat → Option Nat) (v : Nat → Value) (tx : mm_W) (p0 : Int32)  (P : Option Value → mm_W → Prop)
    (h : WP X (d) 135 (4, [some (.ref 74), some (.int p0), some (.int 0), some (.int 0)], [], Wd f fl g gl hh v tx) P) :
    WP X (d) 135 (0, [some (.ref 74), some (.int p0), none, none], [], Wd f fl g gl hh v tx) P := by
  refine WP.run hP_135 3 (c' := (3, [some (.ref 74), some (.int p0), some (.int 0), none], [.int 0], Wd f fl g gl hh v tx)) rfl ?_
  refine WP.run hP_135 1 (c' := (4, [some (.ref 74), some (.int p0), some (.int 0), some (.int 0)], [], Wd f fl g gl hh v tx)) rfl ?_
  exact h

set_option maxRecDepth 20000 in
theorem b_m_isTaken_4 (X : mm_X) (d : Nat) (f : Nat → Int32) (fl : Nat → Int64) (g : Nat → Nat → Int32) (gl : Nat → Nat → Int64) (hh : Nat → Nat → Option Nat) (v : Nat → Value) (tx : mm_W) (l1 : Int32) (l2 : Int32) (l3 : Int32)  (P : Option Value → mm_W → Prop)
    (h : ((((g 76) 55) ≤ l3) → ((l2 = 0 ∨ l2 = 1) ∧ P (some (.int l2)) (Wd f fl g gl hh v tx))) ∧
    ((¬ (((g 76) 55) ≤ l3)) → (((¬ l2 = 0) → WP X (d + 1) 135 (4, [some (.ref 74), some (.int l1), some (.int 1), some (.int (l3 + (1 : Int32)))], [], Wd f fl g gl hh v tx) P) ∧
      ((l2 = 0) → ((¬ (((23 : Int32) + l3) < 0 ∨ 5667 ≤ ((23 : Int32) + l3).toNatClampNeg)) ∧ (((¬ ((g 76) ((23 : Int32) + l3).toNatClampNeg) = l1) → WP X (d + 1) 135 (4, [some (.ref 74), some (.int l1), some (.int 0), some (.int (l3 + (1 : Int32)))], [], Wd f fl g gl hh v tx) P) ∧
        ((((g 76) ((23 : Int32) + l3).toNatClampNeg) = l1) → WP X (d + 1) 135 (4, [some (.ref 74), some (.int l1), some (.int 1), some (.int (l3 + (1 : Int32)))], [], Wd f fl g gl hh v tx) P))))))) :
    WP X (d + 1) 135 (4, [some (.ref 74), some (.int l1), some (.int l2), some (.int l3)], [], Wd f fl g gl hh v tx) P := by
  refine WP.run hP_135 2 (c' := (6, [some (.ref 74), some (.int l1), some (.int l2), some (.int l3)], [.ref 74, .int l3], Wd f fl g gl hh v tx)) rfl ?_
  refine WP.call hP_135 hP_129 (as := [.ref 74]) (pc' := 9) (L' := [some (.ref 74), some (.int l1), some (.int l2), some (.int l3)]) (st' := [.int l3]) (w1 := Wd f fl g gl hh v tx) rfl ⟨Nat.le_of_ble_eq_true rfl, Nat.le_of_ble_eq_true rfl⟩ rfl (b_m_signMany_0 X (d) f fl g gl hh v tx  _ ?_)
  refine WP.br hP_135 (q := ((g 76) 55) ≤ l3) (t := 41) (f := 12) (L := [some (.ref 74), some (.int l1), some (.int l2), some (.int l3)]) (st := []) (w := Wd f fl g gl hh v tx) rfl (fun c1 => ?_) (fun c1 => ?_)
  · have h2 := h.1 c1
    refine WP.run hP_135 1 (c' := (42, [none, none, some (.int l2), none], [.int l2], Wd f fl g gl hh v tx)) rfl ?_
    exact WP.retZ hP_135 rfl rfl h2.1 h2.2
  · have h3 := h.2 c1
    refine WP.run hP_135 1 (c' := (13, [some (.ref 74), some (.int l1), some (.int l2), some (.int l3)], [.int l2], Wd f fl g gl hh v tx)) rfl ?_
    refine WP.br hP_135 (q := ¬ l2 = 0) (t := 29) (f := 16) (L := [some (.ref 74), some (.int l1), some (.int l2), some (.int l3)]) (st := []) (w := Wd f fl g gl hh v tx) rfl (fun c4 => ?_) (fun c4 => ?_)
    · have h5 := h3.1 c4
      refine WP.run hP_135 2 (c' := (34, [some (.ref 74), some (.int l1), none, some (.int l3)], [.int 1], Wd f fl g gl hh v tx)) rfl ?_
      refine WP.run hP_135 1 (c' := (35, [some (.ref 74), some (.int l1), some (.int 1), some (.int l3)], [], Wd f fl g gl hh v tx)) rfl ?_
      refine WP.run hP_135 2 (c' := (4, [some (.ref 74), some (.int l1), some (.int 1), some (.int (l3 + (1 : Int32)))], [], Wd f fl g gl hh v tx)) rfl ?_
      exact h5
    · have h6 := h3.2 (Classical.not_not.mp c4)
      refine WP.run hP_135 5 (c' := (24, [some (.ref 74), some (.int l1), some (.int l2), some (.int l3)], [.int ((23 : Int32) + l3), .ref 76], Wd f fl g gl hh v tx)) rfl ?_
      refine WP.of (fun _ _ => Ex.iald hP_135 rfl (Wa_76 _ _ _ _ _ _ _) h6.1) ?_
      have h7 := h6.2
      refine WP.run hP_135 1 (c' := (26, [some (.ref 74), some (.int l1), some (.int l2), some (.int l3)], [.int l1, .int ((g 76) ((23 : Int32) + l3).toNatClampNeg)], Wd f fl g gl hh v tx)) rfl ?_
      refine WP.br hP_135 (q := ¬ ((g 76) ((23 : Int32) + l3).toNatClampNeg) = l1) (t := 33) (f := 29) (L := [some (.ref 74), some (.int l1), some (.int l2), some (.int l3)]) (st := []) (w := Wd f fl g gl hh v tx) rfl (fun c8 => ?_) (fun c8 => ?_)
      · have h9 := h7.1 c8
        refine WP.run hP_135 1 (c' := (34, [some (.ref 74), some (.int l1), none, some (.int l3)], [.int 0], Wd f fl g gl hh v tx)) rfl ?_
        refine WP.run hP_135 1 (c' := (35, [some (.ref 74), some (.int l1), some (.int 0), some (.int l3)], [], Wd f fl g gl hh v tx)) rfl ?_
        refine WP.run hP_135 2 (c' := (4, [some (.ref 74), some (.int l1), some (.int 0), some (.int (l3 + (1 : Int32)))], [], Wd f fl g gl hh v tx)) rfl ?_
        exact h9
      · have h10 := h7.2 (Classical.not_not.mp c8)
        refine WP.run hP_135 2 (c' := (34, [some (.ref 74), some (.int l1), none, some (.int l3)], [.int 1], Wd f fl g gl hh v tx)) rfl ?_
        refine WP.run hP_135 1 (c' := (35, [some (.ref 74), some (.int l1), some (.int 1), some (.int l3)], [], Wd f fl g gl hh v tx)) rfl ?_
        refine WP.run hP_135 2 (c' := (4, [some (.ref 74), some (.int l1), some (.int 1), some (.int (l3 + (1 : Int32)))], [], Wd f fl g gl hh v tx)) rfl ?_
        exact h10

set_option maxRecDepth 20000 in
theorem b_m_sign_0 (X : mm_X) (d : Nat) (f : Nat → Int32) (fl : Nat → Int64) (g : Nat → Nat → Int32) (gl : Nat → Nat → Int64) (hh : Nat → Nat → Option Nat) (v : Nat → Value) (tx : mm_W) (p0 : Int32) (p1 : Int32)  (P : Option Value → mm_W → Prop)
    (h : WP X (d) 133 (0, [some (.int p0), none, none, none], [], Wd f fl g gl hh v tx) (fun rv w2 => WP X (d + 1) 136 (4, [some (.ref 74), some (.int p0), some (.int p1)], rv.toList ++ [], w2) P)) :
    WP X (d + 1) 136 (0, [some (.ref 74), some (.int p0), some (.int p1)], [], Wd f fl g gl hh v tx) P := by
  refine WP.run hP_136 1 (c' := (1, [some (.ref 74), some (.int p0), some (.int p1)], [.int p0], Wd f fl g gl hh v tx)) rfl ?_
  refine WP.call hP_136 hP_133 (as := [.int p0]) (pc' := 4) (L' := [some (.ref 74), some (.int p0), some (.int p1)]) (st' := []) (w1 := Wd f fl g gl hh v tx) rfl ⟨Nat.le_of_ble_eq_true rfl, Nat.le_of_ble_eq_true rfl⟩ rfl ?_
  exact h

set_option maxRecDepth 20000 in
theorem b_m_sign_4 (X : mm_X) (d : Nat) (f : Nat → Int32) (fl : Nat → Int64) (g : Nat → Nat → Int32) (gl : Nat → Nat → Int64) (hh : Nat → Nat → Option Nat) (v : Nat → Value) (tx : mm_W) (l1 : Int32) (l2 : Int32) (s0 : Int32)  (P : Option Value → mm_W → Prop)
    (h : ((s0 = (-1)) → P (some (.int (-1))) (Wd (va_up f 4736 (-1 : Int32)) fl (va_up g 75 (upd (g 75) (1) (((g 75) 1) + (1 : Int32)))) gl hh v tx)) ∧
    ((¬ s0 = (-1)) → ((((0 : Int32) ≤ l2 ∧ l2 ≤ (5 : Int32)) → WP X (d) 135 (0, [some (.ref 74), some (.int l1), none, none], [], Wd f fl g gl hh v tx) (fun rv w2 => WP X (d + 1) 136 (28, [some (.ref 74), some (.int l1), some (.int l2)], rv.toList ++ [], w2) P)) ∧
      ((¬ ((0 : Int32) ≤ l2 ∧ l2 ≤ (5 : Int32))) → P (some (.int (-1))) (Wd (va_up f 4736 (-1 : Int32)) fl (va_up g 75 (upd (g 75) (1) (((g 75) 1) + (1 : Int32)))) gl hh v tx))))) :
    WP X (d + 1) 136 (4, [some (.ref 74), some (.int l1), some (.int l2)], [.int s0], Wd f fl g gl hh v tx) P := by
  refine WP.run hP_136 1 (c' := (5, [some (.ref 74), some (.int l1), some (.int l2)], [.int (-1), .int s0], Wd f fl g gl hh v tx)) rfl ?_
  refine WP.br hP_136 (q := s0 = (-1)) (t := 17) (f := 8) (L := [some (.ref 74), some (.int l1), some (.int l2)]) (st := []) (w := Wd f fl g gl hh v tx) rfl (fun c1 => ?_) (fun c1 => ?_)
  · have h2 := h.1 c1
    refine WP.run hP_136 2 (c' := (19, [some (.ref 74), none, none], [.int (-1), .ref 74], Wd f fl g gl hh v tx)) rfl ?_
    refine WP.call hP_136 hP_119 (as := [.ref 74, .int (-1)]) (pc' := 22) (L' := [some (.ref 74), none, none]) (st' := []) (w1 := Wd f fl g gl hh v tx) rfl ⟨Nat.le_of_ble_eq_true rfl, Nat.le_of_ble_eq_true rfl⟩ rfl (b_m_refuses_0 X (d) f fl g gl hh v tx (-1) _ ?_)
    refine ⟨by decide, ?_⟩
    refine ⟨by decide, ?_⟩
    exact WP.retI hP_136 rfl rfl h2
  · have h3 := h.2 c1
    refine WP.run hP_136 3 (c' := (11, [some (.ref 74), some (.int l1), some (.int l2)], [.int 5, .int 0, .int l2], Wd f fl g gl hh v tx)) rfl ?_
    refine WP.call hP_136 hP_116 (as := [.int l2, .int 0, .int 5]) (pc' := 14) (L' := [some (.ref 74), some (.int l1), some (.int l2)]) (st' := []) (w1 := Wd f fl g gl hh v tx) rfl ⟨Nat.le_of_ble_eq_true rfl, Nat.le_of_ble_eq_true rfl⟩ rfl (b_lies_m X (d) f fl g gl hh v tx l2 0 5 _ ?_)
    refine ⟨fun c4 => ?_, fun c4 => ?_⟩
    · have h5 := h3.1 c4
      refine WP.run hP_136 3 (c' := (25, [some (.ref 74), some (.int l1), some (.int l2)], [.int l1, .ref 74], Wd f fl g gl hh v tx)) rfl ?_
      refine WP.call hP_136 hP_135 (as := [.ref 74, .int l1]) (pc' := 28) (L' := [some (.ref 74), some (.int l1), some (.int l2)]) (st' := []) (w1 := Wd f fl g gl hh v tx) rfl ⟨Nat.le_of_ble_eq_true rfl, Nat.le_of_ble_eq_true rfl⟩ rfl ?_
      exact h5
    · have h6 := h3.2 c4
      refine WP.run hP_136 3 (c' := (19, [some (.ref 74), none, none], [.int (-1), .ref 74], Wd f fl g gl hh v tx)) rfl ?_
      refine WP.call hP_136 hP_119 (as := [.ref 74, .int (-1)]) (pc' := 22) (L' := [some (.ref 74), none, none]) (st' := []) (w1 := Wd f fl g gl hh v tx) rfl ⟨Nat.le_of_ble_eq_true rfl, Nat.le_of_ble_eq_true rfl⟩ rfl (b_m_refuses_0 X (d) f fl g gl hh v tx (-1) _ ?_)
      refine ⟨by decide, ?_⟩
      refine ⟨by decide, ?_⟩
      exact WP.retI hP_136 rfl rfl h6

set_option maxRecDepth 20000 in
theorem b_m_sign_28 (X : mm_X) (d : Nat) (f : Nat → Int32) (fl : Nat → Int64) (g : Nat → Nat → Int32) (gl : Nat → Nat → Int64) (hh : Nat → Nat → Option Nat) (v : Nat → Value) (tx : mm_W) (l1 : Int32) (l2 : Int32) (s0 : Int32)  (P : Option Value → mm_W → Prop)
    (h : ((s0 = 0) → (((¬ ((g 76) 55) = 8) → WP X (d) 134 (0, [some (.ref 74), some (.int l1), some (.int l2), none], [], Wd f fl g gl hh v tx) (fun rv w2 => WP X (d + 1) 136 (60, [some (.ref 74), some (.int l1), some (.int l2)], rv.toList ++ [], w2) P)) ∧
      ((((g 76) 55) = 8) → P (some (.int (-5))) (Wd (va_up f 4736 (-5 : Int32)) fl (va_up g 75 (upd (g 75) (5) (((g 75) 5) + (1 : Int32)))) gl hh v tx)))) ∧
    ((¬ s0 = 0) → P (some (.int (-3))) (Wd (va_up f 4736 (-3 : Int32)) fl (va_up g 75 (upd (g 75) (3) (((g 75) 3) + (1 : Int32)))) gl hh v tx))) :
    WP X (d + 1) 136 (28, [some (.ref 74), some (.int l1), some (.int l2)], [.int s0], Wd f fl g gl hh v tx) P := by
  refine WP.br hP_136 (q := s0 = 0) (t := 38) (f := 31) (L := [some (.ref 74), some (.int l1), some (.int l2)]) (st := []) (w := Wd f fl g gl hh v tx) rfl (fun c1 => ?_) (fun c1 => ?_)
  · have h2 := h.1 c1
    refine WP.run hP_136 1 (c' := (39, [some (.ref 74), some (.int l1), some (.int l2)], [.ref 74], Wd f fl g gl hh v tx)) rfl ?_
    refine WP.call hP_136 hP_129 (as := [.ref 74]) (pc' := 42) (L' := [some (.ref 74), some (.int l1), some (.int l2)]) (st' := []) (w1 := Wd f fl g gl hh v tx) rfl ⟨Nat.le_of_ble_eq_true rfl, Nat.le_of_ble_eq_true rfl⟩ rfl (b_m_signMany_0 X (d) f fl g gl hh v tx  _ ?_)
    refine WP.run hP_136 1 (c' := (44, [some (.ref 74), some (.int l1), some (.int l2)], [.int 8, .int ((g 76) 55)], Wd f fl g gl hh v tx)) rfl ?_
    refine WP.br hP_136 (q := ¬ ((g 76) 55) = 8) (t := 54) (f := 47) (L := [some (.ref 74), some (.int l1), some (.int l2)]) (st := []) (w := Wd f fl g gl hh v tx) rfl (fun c3 => ?_) (fun c3 => ?_)
    · have h4 := h2.1 c3
      refine WP.run hP_136 3 (c' := (57, [some (.ref 74), some (.int l1), some (.int l2)], [.int l2, .int l1, .ref 74], Wd f fl g gl hh v tx)) rfl ?_
      refine WP.call hP_136 hP_134 (as := [.ref 74, .int l1, .int l2]) (pc' := 60) (L' := [some (.ref 74), some (.int l1), some (.int l2)]) (st' := []) (w1 := Wd f fl g gl hh v tx) rfl ⟨Nat.le_of_ble_eq_true rfl, Nat.le_of_ble_eq_true rfl⟩ rfl ?_
      exact h4
    · have h5 := h2.2 (Classical.not_not.mp c3)
      refine WP.run hP_136 2 (c' := (50, [some (.ref 74), some (.int l1), some (.int l2)], [.int (-5), .ref 74], Wd f fl g gl hh v tx)) rfl ?_
      refine WP.call hP_136 hP_119 (as := [.ref 74, .int (-5)]) (pc' := 53) (L' := [some (.ref 74), some (.int l1), some (.int l2)]) (st' := []) (w1 := Wd f fl g gl hh v tx) rfl ⟨Nat.le_of_ble_eq_true rfl, Nat.le_of_ble_eq_true rfl⟩ rfl (b_m_refuses_0 X (d) f fl g gl hh v tx (-5) _ ?_)
      refine ⟨by decide, ?_⟩
      refine ⟨by decide, ?_⟩
      exact WP.retI hP_136 rfl rfl h5
  · have h6 := h.2 c1
    refine WP.run hP_136 2 (c' := (34, [some (.ref 74), some (.int l1), some (.int l2)], [.int (-3), .ref 74], Wd f fl g gl hh v tx)) rfl ?_
    refine WP.call hP_136 hP_119 (as := [.ref 74, .int (-3)]) (pc' := 37) (L' := [some (.ref 74), some (.int l1), some (.int l2)]) (st' := []) (w1 := Wd f fl g gl hh v tx) rfl ⟨Nat.le_of_ble_eq_true rfl, Nat.le_of_ble_eq_true rfl⟩ rfl (b_m_refuses_0 X (d) f fl g gl hh v tx (-3) _ ?_)
    refine ⟨by decide, ?_⟩
    refine ⟨by decide, ?_⟩
    exact WP.retI hP_136 rfl rfl h6

set_option maxRecDepth 20000 in
theorem b_m_sign_60 (X : mm_X) (d : Nat) (f : Nat → Int32) (fl : Nat → Int64) (g : Nat → Nat → Int32) (gl : Nat → Nat → Int64) (hh : Nat → Nat → Option Nat) (v : Nat → Value) (tx : mm_W) (l1 : Int32) (l2 : Int32)  (P : Option Value → mm_W → Prop)
    (h : P (some (.int (((g 76) 55) - (1 : Int32)))) (Wd (va_up f 4736 0) fl g gl hh v tx)) :
    WP X (d + 1) 136 (60, [some (.ref 74), some (.int l1), some (.int l2)], [], Wd f fl g gl hh v tx) P := by
  refine WP.run hP_136 2 (c' := (62, [some (.ref 74), some (.int l1), some (.int l2)], [.ref 74, .ref 74], Wd f fl g gl hh v tx)) rfl ?_
  refine WP.call hP_136 hP_129 (as := [.ref 74]) (pc' := 65) (L' := [some (.ref 74), some (.int l1), some (.int l2)]) (st' := [.ref 74]) (w1 := Wd f fl g gl hh v tx) rfl ⟨Nat.le_of_ble_eq_true rfl, Nat.le_of_ble_eq_true rfl⟩ rfl (b_m_signMany_0 X (d) f fl g gl hh v tx  _ ?_)
  refine WP.run hP_136 2 (c' := (67, [some (.ref 74), some (.int l1), some (.int l2)], [.int (((g 76) 55) - (1 : Int32)), .ref 74], Wd f fl g gl hh v tx)) rfl ?_
  refine WP.call hP_136 hP_120 (as := [.ref 74, .int (((g 76) 55) - (1 : Int32))]) (pc' := 70) (L' := [some (.ref 74), some (.int l1), some (.int l2)]) (st' := []) (w1 := Wd f fl g gl hh v tx) rfl ⟨Nat.le_of_ble_eq_true rfl, Nat.le_of_ble_eq_true rfl⟩ rfl (b_m_good_0 X (d) f fl g gl hh v tx (((g 76) 55) - (1 : Int32)) _ ?_)
  exact WP.retI hP_136 rfl rfl h

set_option maxRecDepth 20000 in
theorem b_m_clothsAt_0 (X : mm_X) (d : Nat) (f : Nat → Int32) (fl : Nat → Int64) (g : Nat → Nat → Int32) (gl : Nat → Nat → Int64) (hh : Nat → Nat → Option Nat) (v : Nat → Value) (tx : mm_W) (p0 : Int32)  (P : Option Value → mm_W → Prop)
    (h : WP X (d) 146 (7, [some (.ref 74), some (.int p0), some (.int 0), some (.int 1), some (.int 0), none], [], Wd f fl g gl hh v tx) P) :
    WP X (d) 146 (0, [some (.ref 74), some (.int p0), none, none, none, none], [], Wd f fl g gl hh v tx) P := by
  refine WP.run hP_146 3 (c' := (3, [some (.ref 74), some (.int p0), some (.int 0), none, none, none], [.int 1], Wd f fl g gl hh v tx)) rfl ?_
  refine WP.run hP_146 2 (c' := (5, [some (.ref 74), some (.int p0), some (.int 0), some (.int 1), none, none], [.int 0], Wd f fl g gl hh v tx)) rfl ?_
  refine WP.run hP_146 1 (c' := (7, [some (.ref 74), some (.int p0), some (.int 0), some (.int 1), some (.int 0), none], [], Wd f fl g gl hh v tx)) rfl ?_
  exact h

set_option maxRecDepth 20000 in
theorem b_m_clothsAt_7 (X : mm_X) (d : Nat) (f : Nat → Int32) (fl : Nat → Int64) (g : Nat → Nat → Int32) (gl : Nat → Nat → Int64) (hh : Nat → Nat → Option Nat) (v : Nat → Value) (tx : mm_W) (l1 : Int32) (l2 : Int32) (l3 : Int32) (l4 : Int32)  (P : Option Value → mm_W → Prop)
    (h : ((4 ≤ l4) → (((l3 = 0) → P (some (.int (-1))) (Wd f fl g gl hh v tx)) ∧
      ((¬ l3 = 0) → (((l2 ≤ 0) → P (some (.int (-1))) (Wd f fl g gl hh v tx)) ∧
        ((¬ (l2 ≤ 0)) → P (some (.int l2)) (Wd f fl g gl hh v tx)))))) ∧
    ((¬ (4 ≤ l4)) → ((¬ ((l1 + l4) < 0 ∨ 400 ≤ (l1 + l4).toNatClampNeg)) ∧ (((l3 = 0) → WP X (d + 1) 146 (66, [some (.ref 74), some (.int l1), some (.int l2), none, some (.int l4), some (.int ((g 81) (l1 + l4).toNatClampNeg))], [], Wd f fl g gl hh v tx) P) ∧
      ((¬ l3 = 0) → ((((0 : Int32) ≤ ((g 81) (l1 + l4).toNatClampNeg) ∧ ((g 81) (l1 + l4).toNatClampNeg) ≤ (4 : Int32)) → (((((g 81) (l1 + l4).toNatClampNeg) = 0) → WP X (d + 1) 146 (62, [some (.ref 74), some (.int l1), some (.int l2), none, some (.int l4), some (.int ((g 81) (l1 + l4).toNatClampNeg))], [], Wd f fl g gl hh v tx) P) ∧
          ((¬ ((g 81) (l1 + l4).toNatClampNeg) = 0) → (((l4 = 0) → WP X (d + 1) 146 (62, [some (.ref 74), some (.int l1), some (.int l2), none, some (.int l4), some (.int ((g 81) (l1 + l4).toNatClampNeg))], [], Wd f fl g gl hh v tx) P) ∧
            ((¬ l4 = 0) → ((¬ (((l1 + l4) - (1 : Int32)) < 0 ∨ 400 ≤ ((l1 + l4) - (1 : Int32)).toNatClampNeg)) ∧ (((((g 81) ((l1 + l4) - (1 : Int32)).toNatClampNeg) ≤ 0) → WP X (d + 1) 146 (66, [some (.ref 74), some (.int l1), some (.int l2), none, some (.int l4), some (.int ((g 81) (l1 + l4).toNatClampNeg))], [], Wd f fl g gl hh v tx) P) ∧
              ((¬ (((g 81) ((l1 + l4) - (1 : Int32)).toNatClampNeg) ≤ 0)) → WP X (d + 1) 146 (62, [some (.ref 74), some (.int l1), some (.int l2), none, some (.int l4), some (.int ((g 81) (l1 + l4).toNatClampNeg))], [], Wd f fl g gl hh v tx) P)))))))) ∧
        ((¬ ((0 : Int32) ≤ ((g 81) (l1 + l4).toNatClampNeg) ∧ ((g 81) (l1 + l4).toNatClampNeg) ≤ (4 : Int32))) → WP X (d + 1) 146 (66, [some (.ref 74), some (.int l1), some (.int l2), none, some (.int l4), some (.int ((g 81) (l1 + l4).toNatClampNeg))], [], Wd f fl g gl hh v tx) P))))))) :
    WP X (d + 1) 146 (7, [some (.ref 74), some (.int l1), some (.int l2), some (.int l3), some (.int l4), none], [], Wd f fl g gl hh v tx) P := by
  refine WP.run hP_146 2 (c' := (10, [some (.ref 74), some (.int l1), some (.int l2), some (.int l3), some (.int l4), none], [.int 4, .int l4], Wd f fl g gl hh v tx)) rfl ?_
  refine WP.br hP_146 (q := 4 ≤ l4) (t := 95) (f := 13) (L := [some (.ref 74), some (.int l1), some (.int l2), some (.int l3), some (.int l4), none]) (st := []) (w := Wd f fl g gl hh v tx) rfl (fun c1 => ?_) (fun c1 => ?_)
  · have h2 := h.1 c1
    refine WP.run hP_146 1 (c' := (96, [none, none, some (.int l2), some (.int l3), none, none], [.int l3], Wd f fl g gl hh v tx)) rfl ?_
    refine WP.br hP_146 (q := l3 = 0) (t := 107) (f := 99) (L := [none, none, some (.int l2), some (.int l3), none, none]) (st := []) (w := Wd f fl g gl hh v tx) rfl (fun c3 => ?_) (fun c3 => ?_)
    · have h4 := h2.1 c3
      refine WP.run hP_146 1 (c' := (108, [none, none, none, none, none, none], [.int (-1)], Wd f fl g gl hh v tx)) rfl ?_
      exact WP.retI hP_146 rfl rfl h4
    · have h5 := h2.2 c3
      refine WP.run hP_146 1 (c' := (100, [none, none, some (.int l2), some (.int l3), none, none], [.int l2], Wd f fl g gl hh v tx)) rfl ?_
      refine WP.br hP_146 (q := l2 ≤ 0) (t := 107) (f := 103) (L := [none, none, some (.int l2), some (.int l3), none, none]) (st := []) (w := Wd f fl g gl hh v tx) rfl (fun c6 => ?_) (fun c6 => ?_)
      · have h7 := h5.1 c6
        refine WP.run hP_146 1 (c' := (108, [none, none, none, none, none, none], [.int (-1)], Wd f fl g gl hh v tx)) rfl ?_
        exact WP.retI hP_146 rfl rfl h7
      · have h8 := h5.2 c6
        refine WP.run hP_146 2 (c' := (108, [none, none, some (.int l2), some (.int l3), none, none], [.int l2], Wd f fl g gl hh v tx)) rfl ?_
        exact WP.retI hP_146 rfl rfl h8
  · have h9 := h.2 c1
    refine WP.run hP_146 5 (c' := (21, [some (.ref 74), some (.int l1), some (.int l2), some (.int l3), some (.int l4), none], [.int (l1 + l4), .ref 81], Wd f fl g gl hh v tx)) rfl ?_
    refine WP.of (fun _ _ => Ex.bald hP_146 rfl (Wa_81 _ _ _ _ _ _ _) h9.1) ?_
    have h10 := h9.2
    refine WP.run hP_146 2 (c' := (25, [some (.ref 74), some (.int l1), some (.int l2), some (.int l3), some (.int l4), some (.int ((g 81) (l1 + l4).toNatClampNeg))], [.int l3], Wd f fl g gl hh v tx)) rfl ?_
    refine WP.br hP_146 (q := l3 = 0) (t := 66) (f := 28) (L := [some (.ref 74), some (.int l1), some (.int l2), some (.int l3), some (.int l4), some (.int ((g 81) (l1 + l4).toNatClampNeg))]) (st := []) (w := Wd f fl g gl hh v tx) rfl (fun c11 => ?_) (fun c11 => ?_)
    · have h12 := h10.1 c11
      refine WP.clr hP_146 (pc := 66) rfl ?_
      exact h12
    · have h13 := h10.2 c11
      refine WP.run hP_146 3 (c' := (32, [some (.ref 74), some (.int l1), some (.int l2), some (.int l3), some (.int l4), some (.int ((g 81) (l1 + l4).toNatClampNeg))], [.int 4, .int 0, .int ((g 81) (l1 + l4).toNatClampNeg)], Wd f fl g gl hh v tx)) rfl ?_
      refine WP.call hP_146 hP_116 (as := [.int ((g 81) (l1 + l4).toNatClampNeg), .int 0, .int 4]) (pc' := 35) (L' := [some (.ref 74), some (.int l1), some (.int l2), some (.int l3), some (.int l4), some (.int ((g 81) (l1 + l4).toNatClampNeg))]) (st' := []) (w1 := Wd f fl g gl hh v tx) rfl ⟨Nat.le_of_ble_eq_true rfl, Nat.le_of_ble_eq_true rfl⟩ rfl (b_lies_m X (d) f fl g gl hh v tx ((g 81) (l1 + l4).toNatClampNeg) 0 4 _ ?_)
      refine ⟨fun c14 => ?_, fun c14 => ?_⟩
      · have h15 := h13.1 c14
        refine WP.run hP_146 2 (c' := (40, [some (.ref 74), some (.int l1), some (.int l2), some (.int l3), some (.int l4), some (.int ((g 81) (l1 + l4).toNatClampNeg))], [.int ((g 81) (l1 + l4).toNatClampNeg)], Wd f fl g gl hh v tx)) rfl ?_
        refine WP.br hP_146 (q := ((g 81) (l1 + l4).toNatClampNeg) = 0) (t := 62) (f := 43) (L := [some (.ref 74), some (.int l1), some (.int l2), some (.int l3), some (.int l4), some (.int ((g 81) (l1 + l4).toNatClampNeg))]) (st := []) (w := Wd f fl g gl hh v tx) rfl (fun c16 => ?_) (fun c16 => ?_)
        · have h17 := h15.1 c16
          refine WP.clr hP_146 (pc := 62) rfl ?_
          exact h17
        · have h18 := h15.2 c16
          refine WP.run hP_146 1 (c' := (45, [some (.ref 74), some (.int l1), some (.int l2), some (.int l3), some (.int l4), some (.int ((g 81) (l1 + l4).toNatClampNeg))], [.int l4], Wd f fl g gl hh v tx)) rfl ?_
          refine WP.br hP_146 (q := l4 = 0) (t := 62) (f := 48) (L := [some (.ref 74), some (.int l1), some (.int l2), some (.int l3), some (.int l4), some (.int ((g 81) (l1 + l4).toNatClampNeg))]) (st := []) (w := Wd f fl g gl hh v tx) rfl (fun c19 => ?_) (fun c19 => ?_)
          · have h20 := h18.1 c19
            refine WP.clr hP_146 (pc := 62) rfl ?_
            exact h20
          · have h21 := h18.2 c19
            refine WP.run hP_146 7 (c' := (58, [some (.ref 74), some (.int l1), some (.int l2), some (.int l3), some (.int l4), some (.int ((g 81) (l1 + l4).toNatClampNeg))], [.int ((l1 + l4) - (1 : Int32)), .ref 81], Wd f fl g gl hh v tx)) rfl ?_
            refine WP.of (fun _ _ => Ex.bald hP_146 rfl (Wa_81 _ _ _ _ _ _ _) h21.1) ?_
            have h22 := h21.2
            refine WP.br hP_146 (q := ((g 81) ((l1 + l4) - (1 : Int32)).toNatClampNeg) ≤ 0) (t := 66) (f := 62) (L := [some (.ref 74), some (.int l1), some (.int l2), some (.int l3), some (.int l4), some (.int ((g 81) (l1 + l4).toNatClampNeg))]) (st := []) (w := Wd f fl g gl hh v tx) rfl (fun c23 => ?_) (fun c23 => ?_)
            · have h24 := h22.1 c23
              refine WP.clr hP_146 (pc := 66) rfl ?_
              exact h24
            · have h25 := h22.2 c23
              refine WP.clr hP_146 (pc := 62) rfl ?_
              exact h25
      · have h26 := h13.2 c14
        refine WP.run hP_146 1 (c' := (66, [some (.ref 74), some (.int l1), some (.int l2), some (.int l3), some (.int l4), some (.int ((g 81) (l1 + l4).toNatClampNeg))], [], Wd f fl g gl hh v tx)) rfl ?_
        refine WP.clr hP_146 (pc := 66) rfl ?_
        exact h26

set_option maxRecDepth 20000 in
theorem b_m_clothsAt_66 (X : mm_X) (d : Nat) (f : Nat → Int32) (fl : Nat → Int64) (g : Nat → Nat → Int32) (gl : Nat → Nat → Int64) (hh : Nat → Nat → Option Nat) (v : Nat → Value) (tx : mm_W) (l1 : Int32) (l2 : Int32) (l4 : Int32) (l5 : Int32)  (P : Option Value → mm_W → Prop)
    (h : WP X (d) 146 (67, [some (.ref 74), some (.int l1), some (.int l2), none, some (.int l4), some (.int l5)], [.int 0], Wd f fl g gl hh v tx) P) :
    WP X (d) 146 (66, [some (.ref 74), some (.int l1), some (.int l2), none, some (.int l4), some (.int l5)], [], Wd f fl g gl hh v tx) P := by
  refine WP.run hP_146 1 (c' := (67, [some (.ref 74), some (.int l1), some (.int l2), none, some (.int l4), some (.int l5)], [.int 0], Wd f fl g gl hh v tx)) rfl ?_
  exact h

set_option maxRecDepth 20000 in
theorem b_m_clothsAt_62 (X : mm_X) (d : Nat) (f : Nat → Int32) (fl : Nat → Int64) (g : Nat → Nat → Int32) (gl : Nat → Nat → Int64) (hh : Nat → Nat → Option Nat) (v : Nat → Value) (tx : mm_W) (l1 : Int32) (l2 : Int32) (l4 : Int32) (l5 : Int32)  (P : Option Value → mm_W → Prop)
    (h : WP X (d) 146 (67, [some (.ref 74), some (.int l1), some (.int l2), none, some (.int l4), some (.int l5)], [.int 1], Wd f fl g gl hh v tx) P) :
    WP X (d) 146 (62, [some (.ref 74), some (.int l1), some (.int l2), none, some (.int l4), some (.int l5)], [], Wd f fl g gl hh v tx) P := by
  refine WP.run hP_146 2 (c' := (67, [some (.ref 74), some (.int l1), some (.int l2), none, some (.int l4), some (.int l5)], [.int 1], Wd f fl g gl hh v tx)) rfl ?_
  exact h

set_option maxRecDepth 20000 in
theorem b_m_clothsAt_67 (X : mm_X) (d : Nat) (f : Nat → Int32) (fl : Nat → Int64) (g : Nat → Nat → Int32) (gl : Nat → Nat → Int64) (hh : Nat → Nat → Option Nat) (v : Nat → Value) (tx : mm_W) (l1 : Int32) (l2 : Int32) (l4 : Int32) (l5 : Int32) (s0 : Int32)  (P : Option Value → mm_W → Prop)
    (h : ((s0 = 0) → WP X (d) 146 (7, [some (.ref 74), some (.int l1), some (.int l2), some (.int s0), some (.int (l4 + (1 : Int32))), none], [], Wd f fl g gl hh v tx) P) ∧
    ((¬ s0 = 0) → (((l5 ≤ 0) → WP X (d) 146 (7, [some (.ref 74), some (.int l1), some (.int l2), some (.int s0), some (.int (l4 + (1 : Int32))), none], [], Wd f fl g gl hh v tx) P) ∧
      ((¬ (l5 ≤ 0)) → WP X (d) 146 (7, [some (.ref 74), some (.int l1), some (.int (((10 : Int32) * l2) + l5)), some (.int s0), some (.int (l4 + (1 : Int32))), none], [], Wd f fl g gl hh v tx) P)))) :
    WP X (d) 146 (67, [some (.ref 74), some (.int l1), some (.int l2), none, some (.int l4), some (.int l5)], [.int s0], Wd f fl g gl hh v tx) P := by
  refine WP.run hP_146 2 (c' := (69, [some (.ref 74), some (.int l1), some (.int l2), some (.int s0), some (.int l4), some (.int l5)], [.int s0], Wd f fl g gl hh v tx)) rfl ?_
  refine WP.br hP_146 (q := s0 = 0) (t := 87) (f := 72) (L := [some (.ref 74), some (.int l1), some (.int l2), some (.int s0), some (.int l4), some (.int l5)]) (st := []) (w := Wd f fl g gl hh v tx) rfl (fun c1 => ?_) (fun c1 => ?_)
  · have h2 := h.1 c1
    refine WP.run hP_146 1 (c' := (88, [some (.ref 74), some (.int l1), some (.int l2), some (.int s0), some (.int l4), none], [.int l2], Wd f fl g gl hh v tx)) rfl ?_
    refine WP.run hP_146 1 (c' := (89, [some (.ref 74), some (.int l1), some (.int l2), some (.int s0), some (.int l4), none], [], Wd f fl g gl hh v tx)) rfl ?_
    refine WP.run hP_146 2 (c' := (7, [some (.ref 74), some (.int l1), some (.int l2), some (.int s0), some (.int (l4 + (1 : Int32))), none], [], Wd f fl g gl hh v tx)) rfl ?_
    exact h2
  · have h3 := h.2 c1
    refine WP.run hP_146 1 (c' := (74, [some (.ref 74), some (.int l1), some (.int l2), some (.int s0), some (.int l4), some (.int l5)], [.int l5], Wd f fl g gl hh v tx)) rfl ?_
    refine WP.br hP_146 (q := l5 ≤ 0) (t := 87) (f := 77) (L := [some (.ref 74), some (.int l1), some (.int l2), some (.int s0), some (.int l4), some (.int l5)]) (st := []) (w := Wd f fl g gl hh v tx) rfl (fun c4 => ?_) (fun c4 => ?_)
    · have h5 := h3.1 c4
      refine WP.run hP_146 1 (c' := (88, [some (.ref 74), some (.int l1), some (.int l2), some (.int s0), some (.int l4), none], [.int l2], Wd f fl g gl hh v tx)) rfl ?_
      refine WP.run hP_146 1 (c' := (89, [some (.ref 74), some (.int l1), some (.int l2), some (.int s0), some (.int l4), none], [], Wd f fl g gl hh v tx)) rfl ?_
      refine WP.run hP_146 2 (c' := (7, [some (.ref 74), some (.int l1), some (.int l2), some (.int s0), some (.int (l4 + (1 : Int32))), none], [], Wd f fl g gl hh v tx)) rfl ?_
      exact h5
    · have h6 := h3.2 c4
      refine WP.run hP_146 7 (c' := (89, [some (.ref 74), some (.int l1), some (.int (((10 : Int32) * l2) + l5)), some (.int s0), some (.int l4), none], [], Wd f fl g gl hh v tx)) rfl ?_
      refine WP.run hP_146 2 (c' := (7, [some (.ref 74), some (.int l1), some (.int (((10 : Int32) * l2) + l5)), some (.int s0), some (.int (l4 + (1 : Int32))), none], [], Wd f fl g gl hh v tx)) rfl ?_
      exact h6

set_option maxRecDepth 20000 in
theorem b_m_row_0 (X : mm_X) (d : Nat) (f : Nat → Int32) (fl : Nat → Int64) (g : Nat → Nat → Int32) (gl : Nat → Nat → Int64) (hh : Nat → Nat → Option Nat) (v : Nat → Value) (tx : mm_W)   (P : Option Value → mm_W → Prop)
    (h : ((¬ (f 4749) = 0) → (((¬ ((f 4749) - ((f 4749) / (5 : Int32)) * (5 : Int32)) = 0) → WP X (d + 1) 147 (40, [some (.ref 74), some (.int (f 4749)), some (.int 0), some (.int 0), none], [], Wd (va_up (va_up f 4749 0) 4742 1) fl g gl hh v tx) P) ∧
      ((((f 4749) - ((f 4749) / (5 : Int32)) * (5 : Int32)) = 0) → WP X (d + 1) 147 (40, [some (.ref 74), some (.int (f 4749)), some (.int 0), some (.int 0), none], [], Wd (va_up (va_up f 4749 0) 4742 0) fl g gl hh v tx) P))) ∧
    (((f 4749) = 0) → P (some (.int (-6))) (Wd (va_up (va_up f 4749 0) 4736 (-6 : Int32)) fl (va_up g 75 (upd (g 75) (6) (((g 75) 6) + (1 : Int32)))) gl hh v tx))) :
    WP X (d + 1) 147 (0, [some (.ref 74), none, none, none, none], [], Wd f fl g gl hh v tx) P := by
  refine WP.run hP_147 7 (c' := (11, [some (.ref 74), some (.int (f 4749)), none, none, none], [.int (f 4749)], Wd (va_up f 4749 0) fl g gl hh v tx)) rfl ?_
  refine WP.br hP_147 (q := ¬ (f 4749) = 0) (t := 21) (f := 14) (L := [some (.ref 74), some (.int (f 4749)), none, none, none]) (st := []) (w := Wd (va_up f 4749 0) fl g gl hh v tx) rfl (fun c1 => ?_) (fun c1 => ?_)
  · have h2 := h.1 c1
    refine WP.run hP_147 1 (c' := (22, [some (.ref 74), some (.int (f 4749)), none, none, none], [.int 0], Wd (va_up f 4749 0) fl g gl hh v tx)) rfl ?_
    refine WP.run hP_147 5 (c' := (27, [some (.ref 74), some (.int (f 4749)), some (.int 0), none, none], [.int ((f 4749) - ((f 4749) / (5 : Int32)) * (5 : Int32)), .ref 74], Wd (va_up f 4749 0) fl g gl hh v tx)) rfl ?_
    refine WP.br hP_147 (q := ¬ ((f 4749) - ((f 4749) / (5 : Int32)) * (5 : Int32)) = 0) (t := 34) (f := 30) (L := [some (.ref 74), some (.int (f 4749)), some (.int 0), none, none]) (st := [.ref 74]) (w := Wd (va_up f 4749 0) fl g gl hh v tx) rfl (fun c3 => ?_) (fun c3 => ?_)
    · have h4 := h2.1 c3
      refine WP.run hP_147 1 (c' := (35, [some (.ref 74), some (.int (f 4749)), some (.int 0), none, none], [.int 1, .ref 74], Wd (va_up f 4749 0) fl g gl hh v tx)) rfl ?_
      refine WP.run hP_147 2 (c' := (39, [some (.ref 74), some (.int (f 4749)), some (.int 0), none, none], [.int 0], Wd (va_up (va_up f 4749 0) 4742 1) fl g gl hh v tx)) rfl ?_
      refine WP.run hP_147 1 (c' := (40, [some (.ref 74), some (.int (f 4749)), some (.int 0), some (.int 0), none], [], Wd (va_up (va_up f 4749 0) 4742 1) fl g gl hh v tx)) rfl ?_
      exact h4
    · have h5 := h2.2 (Classical.not_not.mp c3)
      refine WP.run hP_147 4 (c' := (39, [some (.ref 74), some (.int (f 4749)), some (.int 0), none, none], [.int 0], Wd (va_up (va_up f 4749 0) 4742 0) fl g gl hh v tx)) rfl ?_
      refine WP.run hP_147 1 (c' := (40, [some (.ref 74), some (.int (f 4749)), some (.int 0), some (.int 0), none], [], Wd (va_up (va_up f 4749 0) 4742 0) fl g gl hh v tx)) rfl ?_
      exact h5
  · have h6 := h.2 (Classical.not_not.mp c1)
    refine WP.run hP_147 2 (c' := (17, [some (.ref 74), some (.int (f 4749)), none, none, none], [.int (-6), .ref 74], Wd (va_up f 4749 0) fl g gl hh v tx)) rfl ?_
    refine WP.call hP_147 hP_119 (as := [.ref 74, .int (-6)]) (pc' := 20) (L' := [some (.ref 74), some (.int (f 4749)), none, none, none]) (st' := []) (w1 := Wd (va_up f 4749 0) fl g gl hh v tx) rfl ⟨Nat.le_of_ble_eq_true rfl, Nat.le_of_ble_eq_true rfl⟩ rfl (b_m_refuses_0 X (d) (va_up f 4749 0) fl g gl hh v tx (-6) _ ?_)
    refine ⟨by decide, ?_⟩
    refine ⟨by decide, ?_⟩
    exact WP.retI hP_147 rfl rfl h6

set_option maxRecDepth 20000 in
theorem b_m_row_40 (X : mm_X) (d : Nat) (f : Nat → Int32) (fl : Nat → Int64) (g : Nat → Nat → Int32) (gl : Nat → Nat → Int64) (hh : Nat → Nat → Option Nat) (v : Nat → Value) (tx : mm_W) (l1 : Int32) (l2 : Int32) (l3 : Int32)  (P : Option Value → mm_W → Prop)
    (h : ((l1 < (l3 + (5 : Int32))) → P (some (.int l2)) (Wd (va_up f 4736 0) fl g gl hh v tx)) ∧
    ((¬ (l1 < (l3 + (5 : Int32)))) → (((8 ≤ ((g 76) 55)) → WP X (d + 1) 147 (40, [some (.ref 74), some (.int l1), some (.int (l2 + (0 : Int32))), some (.int (l3 + (5 : Int32))), none], [], Wd (va_up f 4742 ((f 4742) + (1 : Int32))) fl g gl hh v tx) P) ∧
      ((¬ (8 ≤ ((g 76) 55))) → ((¬ (l3 < 0 ∨ 400 ≤ l3.toNatClampNeg)) ∧ ((((0 : Int32) ≤ ((g 81) l3.toNatClampNeg) ∧ ((g 81) l3.toNatClampNeg) ≤ (5 : Int32)) → WP X (d) 146 (0, [some (.ref 74), some (.int (l3 + (1 : Int32))), none, none, none, none], [], Wd f fl g gl hh v tx) (fun rv w2 => WP X (d + 1) 147 (77, [some (.ref 74), some (.int l1), some (.int l2), some (.int l3), none], rv.toList ++ [], w2) P)) ∧
        ((¬ ((0 : Int32) ≤ ((g 81) l3.toNatClampNeg) ∧ ((g 81) l3.toNatClampNeg) ≤ (5 : Int32))) → WP X (d + 1) 147 (40, [some (.ref 74), some (.int l1), some (.int (l2 + (0 : Int32))), some (.int (l3 + (5 : Int32))), none], [], Wd (va_up f 4742 ((f 4742) + (1 : Int32))) fl g gl hh v tx) P))))))) :
    WP X (d + 1) 147 (40, [some (.ref 74), some (.int l1), some (.int l2), some (.int l3), none], [], Wd f fl g gl hh v tx) P := by
  refine WP.run hP_147 4 (c' := (44, [some (.ref 74), some (.int l1), some (.int l2), some (.int l3), none], [.int l1, .int (l3 + (5 : Int32))], Wd f fl g gl hh v tx)) rfl ?_
  refine WP.br hP_147 (q := l1 < (l3 + (5 : Int32))) (t := 162) (f := 47) (L := [some (.ref 74), some (.int l1), some (.int l2), some (.int l3), none]) (st := []) (w := Wd f fl g gl hh v tx) rfl (fun c1 => ?_) (fun c1 => ?_)
  · have h2 := h.1 c1
    refine WP.run hP_147 2 (c' := (164, [some (.ref 74), none, some (.int l2), none, none], [.int l2, .ref 74], Wd f fl g gl hh v tx)) rfl ?_
    refine WP.call hP_147 hP_120 (as := [.ref 74, .int l2]) (pc' := 167) (L' := [some (.ref 74), none, some (.int l2), none, none]) (st' := []) (w1 := Wd f fl g gl hh v tx) rfl ⟨Nat.le_of_ble_eq_true rfl, Nat.le_of_ble_eq_true rfl⟩ rfl (b_m_good_0 X (d) f fl g gl hh v tx l2 _ ?_)
    exact WP.retI hP_147 rfl rfl h2
  · have h3 := h.2 c1
    refine WP.run hP_147 1 (c' := (48, [some (.ref 74), some (.int l1), some (.int l2), some (.int l3), none], [.ref 74], Wd f fl g gl hh v tx)) rfl ?_
    refine WP.call hP_147 hP_129 (as := [.ref 74]) (pc' := 51) (L' := [some (.ref 74), some (.int l1), some (.int l2), some (.int l3), none]) (st' := []) (w1 := Wd f fl g gl hh v tx) rfl ⟨Nat.le_of_ble_eq_true rfl, Nat.le_of_ble_eq_true rfl⟩ rfl (b_m_signMany_0 X (d) f fl g gl hh v tx  _ ?_)
    refine WP.run hP_147 1 (c' := (53, [some (.ref 74), some (.int l1), some (.int l2), some (.int l3), none], [.int 8, .int ((g 76) 55)], Wd f fl g gl hh v tx)) rfl ?_
    refine WP.br hP_147 (q := 8 ≤ ((g 76) 55)) (t := 99) (f := 56) (L := [some (.ref 74), some (.int l1), some (.int l2), some (.int l3), none]) (st := []) (w := Wd f fl g gl hh v tx) rfl (fun c4 => ?_) (fun c4 => ?_)
    · have h5 := h3.1 c4
      refine WP.run hP_147 1 (c' := (100, [some (.ref 74), some (.int l1), some (.int l2), some (.int l3), none], [.int 0], Wd f fl g gl hh v tx)) rfl ?_
      refine WP.run hP_147 6 (c' := (134, [some (.ref 74), some (.int l1), some (.int l2), some (.int l3), some (.int 0)], [.int l2], Wd f fl g gl hh v tx)) rfl ?_
      refine WP.run hP_147 1 (c' := (135, [some (.ref 74), some (.int l1), none, some (.int l3), some (.int 0)], [.int 0, .int l2], Wd f fl g gl hh v tx)) rfl ?_
      refine WP.run hP_147 1 (c' := (136, [some (.ref 74), some (.int l1), none, some (.int l3), some (.int 0)], [.int (l2 + (0 : Int32))], Wd f fl g gl hh v tx)) rfl ?_
      refine WP.run hP_147 6 (c' := (151, [some (.ref 74), some (.int l1), some (.int (l2 + (0 : Int32))), some (.int l3), some (.int 0)], [.int (f 4742), .ref 74], Wd f fl g gl hh v tx)) rfl ?_
      refine WP.run hP_147 1 (c' := (152, [some (.ref 74), some (.int l1), some (.int (l2 + (0 : Int32))), some (.int l3), none], [.int 1, .int (f 4742), .ref 74], Wd f fl g gl hh v tx)) rfl ?_
      refine WP.run hP_147 2 (c' := (156, [some (.ref 74), some (.int l1), some (.int (l2 + (0 : Int32))), some (.int l3), none], [], Wd (va_up f 4742 ((f 4742) + (1 : Int32))) fl g gl hh v tx)) rfl ?_
      refine WP.run hP_147 2 (c' := (40, [some (.ref 74), some (.int l1), some (.int (l2 + (0 : Int32))), some (.int (l3 + (5 : Int32))), none], [], Wd (va_up f 4742 ((f 4742) + (1 : Int32))) fl g gl hh v tx)) rfl ?_
      exact h5
    · have h6 := h3.2 c4
      refine WP.run hP_147 3 (c' := (61, [some (.ref 74), some (.int l1), some (.int l2), some (.int l3), none], [.int l3, .ref 81], Wd f fl g gl hh v tx)) rfl ?_
      refine WP.of (fun _ _ => Ex.bald hP_147 rfl (Wa_81 _ _ _ _ _ _ _) h6.1) ?_
      have h7 := h6.2
      refine WP.run hP_147 2 (c' := (64, [some (.ref 74), some (.int l1), some (.int l2), some (.int l3), none], [.int 5, .int 0, .int ((g 81) l3.toNatClampNeg)], Wd f fl g gl hh v tx)) rfl ?_
      refine WP.call hP_147 hP_116 (as := [.int ((g 81) l3.toNatClampNeg), .int 0, .int 5]) (pc' := 67) (L' := [some (.ref 74), some (.int l1), some (.int l2), some (.int l3), none]) (st' := []) (w1 := Wd f fl g gl hh v tx) rfl ⟨Nat.le_of_ble_eq_true rfl, Nat.le_of_ble_eq_true rfl⟩ rfl (b_lies_m X (d) f fl g gl hh v tx ((g 81) l3.toNatClampNeg) 0 5 _ ?_)
      refine ⟨fun c8 => ?_, fun c8 => ?_⟩
      · have h9 := h7.1 c8
        refine WP.run hP_147 5 (c' := (74, [some (.ref 74), some (.int l1), some (.int l2), some (.int l3), none], [.int (l3 + (1 : Int32)), .ref 74], Wd f fl g gl hh v tx)) rfl ?_
        refine WP.call hP_147 hP_146 (as := [.ref 74, .int (l3 + (1 : Int32))]) (pc' := 77) (L' := [some (.ref 74), some (.int l1), some (.int l2), some (.int l3), none]) (st' := []) (w1 := Wd f fl g gl hh v tx) rfl ⟨Nat.le_of_ble_eq_true rfl, Nat.le_of_ble_eq_true rfl⟩ rfl ?_
        exact h9
      · have h10 := h7.2 c8
        refine WP.run hP_147 2 (c' := (100, [some (.ref 74), some (.int l1), some (.int l2), some (.int l3), none], [.int 0], Wd f fl g gl hh v tx)) rfl ?_
        refine WP.run hP_147 6 (c' := (134, [some (.ref 74), some (.int l1), some (.int l2), some (.int l3), some (.int 0)], [.int l2], Wd f fl g gl hh v tx)) rfl ?_
        refine WP.run hP_147 1 (c' := (135, [some (.ref 74), some (.int l1), none, some (.int l3), some (.int 0)], [.int 0, .int l2], Wd f fl g gl hh v tx)) rfl ?_
        refine WP.run hP_147 1 (c' := (136, [some (.ref 74), some (.int l1), none, some (.int l3), some (.int 0)], [.int (l2 + (0 : Int32))], Wd f fl g gl hh v tx)) rfl ?_
        refine WP.run hP_147 6 (c' := (151, [some (.ref 74), some (.int l1), some (.int (l2 + (0 : Int32))), some (.int l3), some (.int 0)], [.int (f 4742), .ref 74], Wd f fl g gl hh v tx)) rfl ?_
        refine WP.run hP_147 1 (c' := (152, [some (.ref 74), some (.int l1), some (.int (l2 + (0 : Int32))), some (.int l3), none], [.int 1, .int (f 4742), .ref 74], Wd f fl g gl hh v tx)) rfl ?_
        refine WP.run hP_147 2 (c' := (156, [some (.ref 74), some (.int l1), some (.int (l2 + (0 : Int32))), some (.int l3), none], [], Wd (va_up f 4742 ((f 4742) + (1 : Int32))) fl g gl hh v tx)) rfl ?_
        refine WP.run hP_147 2 (c' := (40, [some (.ref 74), some (.int l1), some (.int (l2 + (0 : Int32))), some (.int (l3 + (5 : Int32))), none], [], Wd (va_up f 4742 ((f 4742) + (1 : Int32))) fl g gl hh v tx)) rfl ?_
        exact h10

set_option maxRecDepth 20000 in
theorem b_m_row_77 (X : mm_X) (d : Nat) (f : Nat → Int32) (fl : Nat → Int64) (g : Nat → Nat → Int32) (gl : Nat → Nat → Int64) (hh : Nat → Nat → Option Nat) (v : Nat → Value) (tx : mm_W) (l1 : Int32) (l2 : Int32) (l3 : Int32) (s0 : Int32)  (P : Option Value → mm_W → Prop)
    (h : ((s0 = (-1)) → WP X (d + 1) 147 (40, [some (.ref 74), some (.int l1), some (.int (l2 + (0 : Int32))), some (.int (l3 + (5 : Int32))), none], [], Wd (va_up f 4742 ((f 4742) + (1 : Int32))) fl g gl hh v tx) P) ∧
    ((¬ s0 = (-1)) → WP X (d) 146 (0, [some (.ref 74), some (.int (l3 + (1 : Int32))), none, none, none, none], [], Wd f fl g gl hh v tx) (fun rv w2 => WP X (d + 1) 147 (89, [some (.ref 74), some (.int l1), some (.int l2), some (.int l3), none], rv.toList ++ [.ref 74], w2) P))) :
    WP X (d + 1) 147 (77, [some (.ref 74), some (.int l1), some (.int l2), some (.int l3), none], [.int s0], Wd f fl g gl hh v tx) P := by
  refine WP.run hP_147 1 (c' := (78, [some (.ref 74), some (.int l1), some (.int l2), some (.int l3), none], [.int (-1), .int s0], Wd f fl g gl hh v tx)) rfl ?_
  refine WP.br hP_147 (q := s0 = (-1)) (t := 99) (f := 81) (L := [some (.ref 74), some (.int l1), some (.int l2), some (.int l3), none]) (st := []) (w := Wd f fl g gl hh v tx) rfl (fun c1 => ?_) (fun c1 => ?_)
  · have h2 := h.1 c1
    refine WP.run hP_147 1 (c' := (100, [some (.ref 74), some (.int l1), some (.int l2), some (.int l3), none], [.int 0], Wd f fl g gl hh v tx)) rfl ?_
    refine WP.run hP_147 6 (c' := (134, [some (.ref 74), some (.int l1), some (.int l2), some (.int l3), some (.int 0)], [.int l2], Wd f fl g gl hh v tx)) rfl ?_
    refine WP.run hP_147 1 (c' := (135, [some (.ref 74), some (.int l1), none, some (.int l3), some (.int 0)], [.int 0, .int l2], Wd f fl g gl hh v tx)) rfl ?_
    refine WP.run hP_147 1 (c' := (136, [some (.ref 74), some (.int l1), none, some (.int l3), some (.int 0)], [.int (l2 + (0 : Int32))], Wd f fl g gl hh v tx)) rfl ?_
    refine WP.run hP_147 6 (c' := (151, [some (.ref 74), some (.int l1), some (.int (l2 + (0 : Int32))), some (.int l3), some (.int 0)], [.int (f 4742), .ref 74], Wd f fl g gl hh v tx)) rfl ?_
    refine WP.run hP_147 1 (c' := (152, [some (.ref 74), some (.int l1), some (.int (l2 + (0 : Int32))), some (.int l3), none], [.int 1, .int (f 4742), .ref 74], Wd f fl g gl hh v tx)) rfl ?_
    refine WP.run hP_147 2 (c' := (156, [some (.ref 74), some (.int l1), some (.int (l2 + (0 : Int32))), some (.int l3), none], [], Wd (va_up f 4742 ((f 4742) + (1 : Int32))) fl g gl hh v tx)) rfl ?_
    refine WP.run hP_147 2 (c' := (40, [some (.ref 74), some (.int l1), some (.int (l2 + (0 : Int32))), some (.int (l3 + (5 : Int32))), none], [], Wd (va_up f 4742 ((f 4742) + (1 : Int32))) fl g gl hh v tx)) rfl ?_
    exact h2
  · have h3 := h.2 c1
    refine WP.run hP_147 5 (c' := (86, [some (.ref 74), some (.int l1), some (.int l2), some (.int l3), none], [.int (l3 + (1 : Int32)), .ref 74, .ref 74], Wd f fl g gl hh v tx)) rfl ?_
    refine WP.call hP_147 hP_146 (as := [.ref 74, .int (l3 + (1 : Int32))]) (pc' := 89) (L' := [some (.ref 74), some (.int l1), some (.int l2), some (.int l3), none]) (st' := [.ref 74]) (w1 := Wd f fl g gl hh v tx) rfl ⟨Nat.le_of_ble_eq_true rfl, Nat.le_of_ble_eq_true rfl⟩ rfl ?_
    exact h3

set_option maxRecDepth 20000 in
theorem b_m_row_89 (X : mm_X) (d : Nat) (f : Nat → Int32) (fl : Nat → Int64) (g : Nat → Nat → Int32) (gl : Nat → Nat → Int64) (hh : Nat → Nat → Option Nat) (v : Nat → Value) (tx : mm_W) (l1 : Int32) (l2 : Int32) (l3 : Int32) (s0 : Int32)  (P : Option Value → mm_W → Prop)
    (h : WP X (d) 135 (0, [some (.ref 74), some (.int s0), none, none], [], Wd f fl g gl hh v tx) (fun rv w2 => WP X (d + 1) 147 (92, [some (.ref 74), some (.int l1), some (.int l2), some (.int l3), none], rv.toList ++ [], w2) P)) :
    WP X (d + 1) 147 (89, [some (.ref 74), some (.int l1), some (.int l2), some (.int l3), none], [.int s0, .ref 74], Wd f fl g gl hh v tx) P := by
  refine WP.call hP_147 hP_135 (as := [.ref 74, .int s0]) (pc' := 92) (L' := [some (.ref 74), some (.int l1), some (.int l2), some (.int l3), none]) (st' := []) (w1 := Wd f fl g gl hh v tx) rfl ⟨Nat.le_of_ble_eq_true rfl, Nat.le_of_ble_eq_true rfl⟩ rfl ?_
  exact h

set_option maxRecDepth 20000 in
theorem b_m_row_92 (X : mm_X) (d : Nat) (f : Nat → Int32) (fl : Nat → Int64) (g : Nat → Nat → Int32) (gl : Nat → Nat → Int64) (hh : Nat → Nat → Option Nat) (v : Nat → Value) (tx : mm_W) (l1 : Int32) (l2 : Int32) (l3 : Int32) (s0 : Int32)  (P : Option Value → mm_W → Prop)
    (h : ((¬ s0 = 0) → WP X (d + 1) 147 (40, [some (.ref 74), some (.int l1), some (.int (l2 + (0 : Int32))), some (.int (l3 + (5 : Int32))), none], [], Wd (va_up f 4742 ((f 4742) + (1 : Int32))) fl g gl hh v tx) P) ∧
    ((s0 = 0) → WP X (d) 146 (0, [some (.ref 74), some (.int (l3 + (1 : Int32))), none, none, none, none], [], Wd f fl g gl hh v tx) (fun rv w2 => WP X (d + 1) 147 (115, [some (.ref 74), some (.int l1), some (.int l2), some (.int l3), some (.int 1)], rv.toList ++ [.ref 74], w2) P))) :
    WP X (d + 1) 147 (92, [some (.ref 74), some (.int l1), some (.int l2), some (.int l3), none], [.int s0], Wd f fl g gl hh v tx) P := by
  refine WP.br hP_147 (q := ¬ s0 = 0) (t := 99) (f := 95) (L := [some (.ref 74), some (.int l1), some (.int l2), some (.int l3), none]) (st := []) (w := Wd f fl g gl hh v tx) rfl (fun c1 => ?_) (fun c1 => ?_)
  · have h2 := h.1 c1
    refine WP.run hP_147 1 (c' := (100, [some (.ref 74), some (.int l1), some (.int l2), some (.int l3), none], [.int 0], Wd f fl g gl hh v tx)) rfl ?_
    refine WP.run hP_147 6 (c' := (134, [some (.ref 74), some (.int l1), some (.int l2), some (.int l3), some (.int 0)], [.int l2], Wd f fl g gl hh v tx)) rfl ?_
    refine WP.run hP_147 1 (c' := (135, [some (.ref 74), some (.int l1), none, some (.int l3), some (.int 0)], [.int 0, .int l2], Wd f fl g gl hh v tx)) rfl ?_
    refine WP.run hP_147 1 (c' := (136, [some (.ref 74), some (.int l1), none, some (.int l3), some (.int 0)], [.int (l2 + (0 : Int32))], Wd f fl g gl hh v tx)) rfl ?_
    refine WP.run hP_147 6 (c' := (151, [some (.ref 74), some (.int l1), some (.int (l2 + (0 : Int32))), some (.int l3), some (.int 0)], [.int (f 4742), .ref 74], Wd f fl g gl hh v tx)) rfl ?_
    refine WP.run hP_147 1 (c' := (152, [some (.ref 74), some (.int l1), some (.int (l2 + (0 : Int32))), some (.int l3), none], [.int 1, .int (f 4742), .ref 74], Wd f fl g gl hh v tx)) rfl ?_
    refine WP.run hP_147 2 (c' := (156, [some (.ref 74), some (.int l1), some (.int (l2 + (0 : Int32))), some (.int l3), none], [], Wd (va_up f 4742 ((f 4742) + (1 : Int32))) fl g gl hh v tx)) rfl ?_
    refine WP.run hP_147 2 (c' := (40, [some (.ref 74), some (.int l1), some (.int (l2 + (0 : Int32))), some (.int (l3 + (5 : Int32))), none], [], Wd (va_up f 4742 ((f 4742) + (1 : Int32))) fl g gl hh v tx)) rfl ?_
    exact h2
  · have h3 := h.2 (Classical.not_not.mp c1)
    refine WP.run hP_147 10 (c' := (112, [some (.ref 74), some (.int l1), some (.int l2), some (.int l3), some (.int 1)], [.int (l3 + (1 : Int32)), .ref 74, .ref 74], Wd f fl g gl hh v tx)) rfl ?_
    refine WP.call hP_147 hP_146 (as := [.ref 74, .int (l3 + (1 : Int32))]) (pc' := 115) (L' := [some (.ref 74), some (.int l1), some (.int l2), some (.int l3), some (.int 1)]) (st' := [.ref 74]) (w1 := Wd f fl g gl hh v tx) rfl ⟨Nat.le_of_ble_eq_true rfl, Nat.le_of_ble_eq_true rfl⟩ rfl ?_
    exact h3

set_option maxRecDepth 20000 in
theorem b_m_row_115 (X : mm_X) (d : Nat) (f : Nat → Int32) (fl : Nat → Int64) (g : Nat → Nat → Int32) (gl : Nat → Nat → Int64) (hh : Nat → Nat → Option Nat) (v : Nat → Value) (tx : mm_W) (l1 : Int32) (l2 : Int32) (l3 : Int32) (l4 : Int32) (s0 : Int32)  (P : Option Value → mm_W → Prop)
    (h : (¬ (l3 < 0 ∨ 400 ≤ l3.toNatClampNeg)) ∧ WP X (d) 134 (0, [some (.ref 74), some (.int s0), some (.int ((g 81) l3.toNatClampNeg)), none], [], Wd f fl g gl hh v tx) (fun rv w2 => WP X (d + 1) 147 (124, [some (.ref 74), some (.int l1), some (.int l2), some (.int l3), some (.int l4)], rv.toList ++ [], w2) P)) :
    WP X (d + 1) 147 (115, [some (.ref 74), some (.int l1), some (.int l2), some (.int l3), some (.int l4)], [.int s0, .ref 74], Wd f fl g gl hh v tx) P := by
  refine WP.run hP_147 3 (c' := (120, [some (.ref 74), some (.int l1), some (.int l2), some (.int l3), some (.int l4)], [.int l3, .ref 81, .int s0, .ref 74], Wd f fl g gl hh v tx)) rfl ?_
  refine WP.of (fun _ _ => Ex.bald hP_147 rfl (Wa_81 _ _ _ _ _ _ _) h.1) ?_
  have h1 := h.2
  refine WP.call hP_147 hP_134 (as := [.ref 74, .int s0, .int ((g 81) l3.toNatClampNeg)]) (pc' := 124) (L' := [some (.ref 74), some (.int l1), some (.int l2), some (.int l3), some (.int l4)]) (st' := []) (w1 := Wd f fl g gl hh v tx) rfl ⟨Nat.le_of_ble_eq_true rfl, Nat.le_of_ble_eq_true rfl⟩ rfl ?_
  exact h1

set_option maxRecDepth 20000 in
theorem b_m_row_124 (X : mm_X) (d : Nat) (f : Nat → Int32) (fl : Nat → Int64) (g : Nat → Nat → Int32) (gl : Nat → Nat → Int64) (hh : Nat → Nat → Option Nat) (v : Nat → Value) (tx : mm_W) (l1 : Int32) (l2 : Int32) (l3 : Int32) (l4 : Int32)  (P : Option Value → mm_W → Prop)
    (h : ((l4 = 0) → (((l4 = 0) → WP X (d) 147 (40, [some (.ref 74), some (.int l1), some (.int (l2 + (0 : Int32))), some (.int (l3 + (5 : Int32))), none], [], Wd (va_up f 4742 ((f 4742) + (1 : Int32))) fl g gl hh v tx) P) ∧
      ((¬ l4 = 0) → WP X (d) 147 (40, [some (.ref 74), some (.int l1), some (.int (l2 + (0 : Int32))), some (.int (l3 + (5 : Int32))), none], [], Wd (va_up f 4742 ((f 4742) + (0 : Int32))) fl g gl hh v tx) P))) ∧
    ((¬ l4 = 0) → (((l4 = 0) → WP X (d) 147 (40, [some (.ref 74), some (.int l1), some (.int (l2 + (1 : Int32))), some (.int (l3 + (5 : Int32))), none], [], Wd (va_up f 4742 ((f 4742) + (1 : Int32))) fl g gl hh v tx) P) ∧
      ((¬ l4 = 0) → WP X (d) 147 (40, [some (.ref 74), some (.int l1), some (.int (l2 + (1 : Int32))), some (.int (l3 + (5 : Int32))), none], [], Wd (va_up f 4742 ((f 4742) + (0 : Int32))) fl g gl hh v tx) P)))) :
    WP X (d) 147 (124, [some (.ref 74), some (.int l1), some (.int l2), some (.int l3), some (.int l4)], [], Wd f fl g gl hh v tx) P := by
  refine WP.run hP_147 2 (c' := (127, [some (.ref 74), some (.int l1), some (.int l2), some (.int l3), some (.int l4)], [.int l4, .int l2], Wd f fl g gl hh v tx)) rfl ?_
  refine WP.br hP_147 (q := l4 = 0) (t := 134) (f := 130) (L := [some (.ref 74), some (.int l1), some (.int l2), some (.int l3), some (.int l4)]) (st := [.int l2]) (w := Wd f fl g gl hh v tx) rfl (fun c1 => ?_) (fun c1 => ?_)
  · have h2 := h.1 c1
    refine WP.run hP_147 1 (c' := (135, [some (.ref 74), some (.int l1), none, some (.int l3), some (.int l4)], [.int 0, .int l2], Wd f fl g gl hh v tx)) rfl ?_
    refine WP.run hP_147 1 (c' := (136, [some (.ref 74), some (.int l1), none, some (.int l3), some (.int l4)], [.int (l2 + (0 : Int32))], Wd f fl g gl hh v tx)) rfl ?_
    refine WP.run hP_147 5 (c' := (144, [some (.ref 74), some (.int l1), some (.int (l2 + (0 : Int32))), some (.int l3), some (.int l4)], [.int l4, .int (f 4742), .ref 74], Wd f fl g gl hh v tx)) rfl ?_
    refine WP.br hP_147 (q := l4 = 0) (t := 151) (f := 147) (L := [some (.ref 74), some (.int l1), some (.int (l2 + (0 : Int32))), some (.int l3), some (.int l4)]) (st := [.int (f 4742), .ref 74]) (w := Wd f fl g gl hh v tx) rfl (fun c3 => ?_) (fun c3 => ?_)
    · have h4 := h2.1 c3
      refine WP.run hP_147 1 (c' := (152, [some (.ref 74), some (.int l1), some (.int (l2 + (0 : Int32))), some (.int l3), none], [.int 1, .int (f 4742), .ref 74], Wd f fl g gl hh v tx)) rfl ?_
      refine WP.run hP_147 2 (c' := (156, [some (.ref 74), some (.int l1), some (.int (l2 + (0 : Int32))), some (.int l3), none], [], Wd (va_up f 4742 ((f 4742) + (1 : Int32))) fl g gl hh v tx)) rfl ?_
      refine WP.run hP_147 2 (c' := (40, [some (.ref 74), some (.int l1), some (.int (l2 + (0 : Int32))), some (.int (l3 + (5 : Int32))), none], [], Wd (va_up f 4742 ((f 4742) + (1 : Int32))) fl g gl hh v tx)) rfl ?_
      exact h4
    · have h5 := h2.2 c3
      refine WP.run hP_147 4 (c' := (156, [some (.ref 74), some (.int l1), some (.int (l2 + (0 : Int32))), some (.int l3), none], [], Wd (va_up f 4742 ((f 4742) + (0 : Int32))) fl g gl hh v tx)) rfl ?_
      refine WP.run hP_147 2 (c' := (40, [some (.ref 74), some (.int l1), some (.int (l2 + (0 : Int32))), some (.int (l3 + (5 : Int32))), none], [], Wd (va_up f 4742 ((f 4742) + (0 : Int32))) fl g gl hh v tx)) rfl ?_
      exact h5
  · have h6 := h.2 c1
    refine WP.run hP_147 3 (c' := (136, [some (.ref 74), some (.int l1), none, some (.int l3), some (.int l4)], [.int (l2 + (1 : Int32))], Wd f fl g gl hh v tx)) rfl ?_
    refine WP.run hP_147 5 (c' := (144, [some (.ref 74), some (.int l1), some (.int (l2 + (1 : Int32))), some (.int l3), some (.int l4)], [.int l4, .int (f 4742), .ref 74], Wd f fl g gl hh v tx)) rfl ?_
    refine WP.br hP_147 (q := l4 = 0) (t := 151) (f := 147) (L := [some (.ref 74), some (.int l1), some (.int (l2 + (1 : Int32))), some (.int l3), some (.int l4)]) (st := [.int (f 4742), .ref 74]) (w := Wd f fl g gl hh v tx) rfl (fun c7 => ?_) (fun c7 => ?_)
    · have h8 := h6.1 c7
      refine WP.run hP_147 1 (c' := (152, [some (.ref 74), some (.int l1), some (.int (l2 + (1 : Int32))), some (.int l3), none], [.int 1, .int (f 4742), .ref 74], Wd f fl g gl hh v tx)) rfl ?_
      refine WP.run hP_147 2 (c' := (156, [some (.ref 74), some (.int l1), some (.int (l2 + (1 : Int32))), some (.int l3), none], [], Wd (va_up f 4742 ((f 4742) + (1 : Int32))) fl g gl hh v tx)) rfl ?_
      refine WP.run hP_147 2 (c' := (40, [some (.ref 74), some (.int l1), some (.int (l2 + (1 : Int32))), some (.int (l3 + (5 : Int32))), none], [], Wd (va_up f 4742 ((f 4742) + (1 : Int32))) fl g gl hh v tx)) rfl ?_
      exact h8
    · have h9 := h6.2 c7
      refine WP.run hP_147 4 (c' := (156, [some (.ref 74), some (.int l1), some (.int (l2 + (1 : Int32))), some (.int l3), none], [], Wd (va_up f 4742 ((f 4742) + (0 : Int32))) fl g gl hh v tx)) rfl ?_
      refine WP.run hP_147 2 (c' := (40, [some (.ref 74), some (.int l1), some (.int (l2 + (1 : Int32))), some (.int (l3 + (5 : Int32))), none], [], Wd (va_up f 4742 ((f 4742) + (0 : Int32))) fl g gl hh v tx)) rfl ?_
      exact h9
