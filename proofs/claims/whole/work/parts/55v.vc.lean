set_option maxRecDepth 20000 in
theorem b_yst_lawInForce_1_0 (X : mm_X) (d : Nat) (f : Nat → Int32) (fl : Nat → Int64) (g : Nat → Nat → Int32) (gl : Nat → Nat → Int64) (hh : Nat → Nat → Option Nat) (v : Nat → Value) (tx : mm_W)   (P : Option Value → mm_W → Prop)
    (h : ((0 ≤ (f 76) ∧ (f 76) < (f 74)) → ((¬ ((f 76) < 0 ∨ 6 ≤ (f 76).toNatClampNeg)) ∧ P (some ((mm_rf ((hh 7) (f 76).toNatClampNeg)))) (Wd f fl g gl hh v tx))) ∧
    ((¬ (0 ≤ (f 76) ∧ (f 76) < (f 74))) → P (some (.null)) (Wd f fl g gl hh v tx))) :
    WP X (d + 1) 46 (0, [some (.ref 1)], [], Wd f fl g gl hh v tx) P := by
  refine WP.run hP_46 4 (c' := (8, [some (.ref 1)], [.int (f 74), .int (f 76)], Wd f fl g gl hh v tx)) rfl ?_
  refine WP.call hP_46 hP_99 (as := [.int (f 76), .int (f 74)]) (pc' := 11) (L' := [some (.ref 1)]) (st' := []) (w1 := Wd f fl g gl hh v tx) rfl ⟨Nat.le_of_ble_eq_true rfl, Nat.le_of_ble_eq_true rfl⟩ rfl (b_within_m X (d) f fl g gl hh v tx (f 76) (f 74) _ ?_)
  refine ⟨fun c1 => ?_, fun c1 => ?_⟩
  · have h2 := h.1 c1
    refine WP.run hP_46 5 (c' := (22, [some (.ref 1)], [.int (f 76), .ref 7], Wd f fl g gl hh v tx)) rfl ?_
    refine WP.of (fun _ _ => Ex.aald4 hP_46 rfl (Wa_7 _ _ _ _ _ _ _) h2.1) ?_
    have h3 := h2.2
    refine WP.run hP_46 1 (c' := (27, [some (.ref 1)], [(mm_rf ((hh 7) (f 76).toNatClampNeg))], Wd f fl g gl hh v tx)) rfl ?_
    exact WP.retV hP_46 rfl rfl h3
  · have h4 := h.2 c1
    refine WP.run hP_46 2 (c' := (27, [none], [.null], Wd f fl g gl hh v tx)) rfl ?_
    exact WP.ret hP_46 (r := some (.null)) (w' := Wd f fl g gl hh v tx) rfl h4

set_option maxRecDepth 20000 in
theorem b_yst_lawInForce_19_0 (X : mm_X) (d : Nat) (f : Nat → Int32) (fl : Nat → Int64) (g : Nat → Nat → Int32) (gl : Nat → Nat → Int64) (hh : Nat → Nat → Option Nat) (v : Nat → Value) (tx : mm_W)   (P : Option Value → mm_W → Prop)
    (h : ((0 ≤ (f 1228) ∧ (f 1228) < (f 1226)) → ((¬ ((f 1228) < 0 ∨ 6 ≤ (f 1228).toNatClampNeg)) ∧ P (some ((mm_rf ((hh 25) (f 1228).toNatClampNeg)))) (Wd f fl g gl hh v tx))) ∧
    ((¬ (0 ≤ (f 1228) ∧ (f 1228) < (f 1226))) → P (some (.null)) (Wd f fl g gl hh v tx))) :
    WP X (d + 1) 46 (0, [some (.ref 19)], [], Wd f fl g gl hh v tx) P := by
  refine WP.run hP_46 4 (c' := (8, [some (.ref 19)], [.int (f 1226), .int (f 1228)], Wd f fl g gl hh v tx)) rfl ?_
  refine WP.call hP_46 hP_99 (as := [.int (f 1228), .int (f 1226)]) (pc' := 11) (L' := [some (.ref 19)]) (st' := []) (w1 := Wd f fl g gl hh v tx) rfl ⟨Nat.le_of_ble_eq_true rfl, Nat.le_of_ble_eq_true rfl⟩ rfl (b_within_m X (d) f fl g gl hh v tx (f 1228) (f 1226) _ ?_)
  refine ⟨fun c1 => ?_, fun c1 => ?_⟩
  · have h2 := h.1 c1
    refine WP.run hP_46 5 (c' := (22, [some (.ref 19)], [.int (f 1228), .ref 25], Wd f fl g gl hh v tx)) rfl ?_
    refine WP.of (fun _ _ => Ex.aald4 hP_46 rfl (Wa_25 _ _ _ _ _ _ _) h2.1) ?_
    have h3 := h2.2
    refine WP.run hP_46 1 (c' := (27, [some (.ref 19)], [(mm_rf ((hh 25) (f 1228).toNatClampNeg))], Wd f fl g gl hh v tx)) rfl ?_
    exact WP.retV hP_46 rfl rfl h3
  · have h4 := h.2 c1
    refine WP.run hP_46 2 (c' := (27, [none], [.null], Wd f fl g gl hh v tx)) rfl ?_
    exact WP.ret hP_46 (r := some (.null)) (w' := Wd f fl g gl hh v tx) rfl h4

set_option maxRecDepth 20000 in
theorem b_yte_head_32_0 (X : mm_X) (d : Nat) (f : Nat → Int32) (fl : Nat → Int64) (g : Nat → Nat → Int32) (gl : Nat → Nat → Int64) (hh : Nat → Nat → Option Nat) (v : Nat → Value) (tx : mm_W) (p0 : Int32) (p1 : Int32)  (P : Option Value → mm_W → Prop)
    (h : ((((p0 * (5 : Int32)) + p1) < 0) → P (some (.int 0)) (Wd f fl g gl hh v tx)) ∧
    ((¬ (((p0 * (5 : Int32)) + p1) < 0)) → (((60 ≤ ((p0 * (5 : Int32)) + p1)) → P (some (.int 0)) (Wd f fl g gl hh v tx)) ∧
      ((¬ (60 ≤ ((p0 * (5 : Int32)) + p1))) → ((¬ (((p0 * (5 : Int32)) + p1) < 0 ∨ 60 ≤ ((p0 * (5 : Int32)) + p1).toNatClampNeg)) ∧ P (some (.int ((g 33) ((p0 * (5 : Int32)) + p1).toNatClampNeg))) (Wd f fl g gl hh v tx)))))) :
    WP X (d) 56 (0, [some (.ref 32), some (.int p0), some (.int p1), none], [], Wd f fl g gl hh v tx) P := by
  refine WP.run hP_56 7 (c' := (7, [some (.ref 32), some (.int p0), some (.int p1), some (.int ((p0 * (5 : Int32)) + p1))], [.int ((p0 * (5 : Int32)) + p1)], Wd f fl g gl hh v tx)) rfl ?_
  refine WP.br hP_56 (q := ((p0 * (5 : Int32)) + p1) < 0) (t := 28) (f := 10) (L := [some (.ref 32), some (.int p0), some (.int p1), some (.int ((p0 * (5 : Int32)) + p1))]) (st := []) (w := Wd f fl g gl hh v tx) rfl (fun c1 => ?_) (fun c1 => ?_)
  · have h2 := h.1 c1
    refine WP.run hP_56 1 (c' := (29, [none, none, none, none], [.int 0], Wd f fl g gl hh v tx)) rfl ?_
    exact WP.retI hP_56 rfl rfl h2
  · have h3 := h.2 c1
    refine WP.run hP_56 4 (c' := (16, [some (.ref 32), some (.int p0), some (.int p1), some (.int ((p0 * (5 : Int32)) + p1))], [.int 60, .int ((p0 * (5 : Int32)) + p1)], Wd f fl g gl hh v tx)) rfl ?_
    refine WP.br hP_56 (q := 60 ≤ ((p0 * (5 : Int32)) + p1)) (t := 28) (f := 19) (L := [some (.ref 32), some (.int p0), some (.int p1), some (.int ((p0 * (5 : Int32)) + p1))]) (st := []) (w := Wd f fl g gl hh v tx) rfl (fun c4 => ?_) (fun c4 => ?_)
    · have h5 := h3.1 c4
      refine WP.run hP_56 1 (c' := (29, [none, none, none, none], [.int 0], Wd f fl g gl hh v tx)) rfl ?_
      exact WP.retI hP_56 rfl rfl h5
    · have h6 := h3.2 c4
      refine WP.run hP_56 3 (c' := (24, [some (.ref 32), some (.int p0), some (.int p1), some (.int ((p0 * (5 : Int32)) + p1))], [.int ((p0 * (5 : Int32)) + p1), .ref 33], Wd f fl g gl hh v tx)) rfl ?_
      refine WP.of (fun _ _ => Ex.iald hP_56 rfl (Wa_33 _ _ _ _ _ _ _) h6.1) ?_
      have h7 := h6.2
      refine WP.run hP_56 1 (c' := (29, [some (.ref 32), some (.int p0), some (.int p1), some (.int ((p0 * (5 : Int32)) + p1))], [.int ((g 33) ((p0 * (5 : Int32)) + p1).toNatClampNeg)], Wd f fl g gl hh v tx)) rfl ?_
      exact WP.retI hP_56 rfl rfl h7

set_option maxRecDepth 20000 in
theorem b_yma_combined_0 (X : mm_X) (d : Nat) (f : Nat → Int32) (fl : Nat → Int64) (g : Nat → Nat → Int32) (gl : Nat → Nat → Int64) (hh : Nat → Nat → Option Nat) (v : Nat → Value) (tx : mm_W) (p0 : Int32) (p1 : Int64) (p2 : Int64)  (P : Option Value → mm_W → Prop)
    (h : ((p0 = 2) → P (some (.long (p1 + p2))) (Wd f fl g gl hh v tx)) ∧
    ((¬ p0 = 2) → (((p0 = 3) → P (some (.long (p1 - p2))) (Wd f fl g gl hh v tx)) ∧
      ((¬ p0 = 3) → (((p0 = 4) → P (some (.long (p1 * p2))) (Wd f fl g gl hh v tx)) ∧
        ((¬ p0 = 4) → (((p0 = 5) → (((¬ (lg_cmp p2 0) = 0) → ((¬ p2 = 0) ∧ P (some (.long (p1 / p2))) (Wd f fl g gl hh v tx))) ∧
            (((lg_cmp p2 0) = 0) → P (some (.long (-4000000000000000000))) (Wd f fl g gl hh v tx)))) ∧
          ((¬ p0 = 5) → (((p0 = 6) → (((¬ (lg_cmp p2 0) = 0) → ((¬ p2 = 0) ∧ P (some (.long (p1 - (p1 / p2) * p2))) (Wd f fl g gl hh v tx))) ∧
              (((lg_cmp p2 0) = 0) → P (some (.long (-4000000000000000000))) (Wd f fl g gl hh v tx)))) ∧
            ((¬ p0 = 6) → (((p0 = 7) → (((0 ≤ (lg_cmp p1 p2)) → P (some (.long 0)) (Wd f fl g gl hh v tx)) ∧
                ((¬ (0 ≤ (lg_cmp p1 p2))) → P (some (.long 1)) (Wd f fl g gl hh v tx)))) ∧
              ((¬ p0 = 7) → (((p0 = 8) → ((((lg_cmp p1 p2) ≤ 0) → P (some (.long 0)) (Wd f fl g gl hh v tx)) ∧
                  ((¬ ((lg_cmp p1 p2) ≤ 0)) → P (some (.long 1)) (Wd f fl g gl hh v tx)))) ∧
                ((¬ p0 = 8) → (((¬ (lg_cmp p1 p2) = 0) → P (some (.long 0)) (Wd f fl g gl hh v tx)) ∧
                  (((lg_cmp p1 p2) = 0) → P (some (.long 1)) (Wd f fl g gl hh v tx))))))))))))))))) :
    WP X (d) 31 (0, [some (.int p0), some (.long p1), none, some (.long p2), none], [], Wd f fl g gl hh v tx) P := by
  refine WP.run hP_31 1 (c' := (1, [some (.int p0), some (.long p1), none, some (.long p2), none], [.int p0], Wd f fl g gl hh v tx)) rfl ?_
  refine WP.run hP_31 1 (c' := (mm_sw p0 2 [44, 48, 52, 56, 72, 88, 100] 112, [some (.int p0), some (.long p1), none, some (.long p2), none], [], Wd f fl g gl hh v tx)) rfl ?_
  refine WP.sw (lo' := 3) rfl (fun c1 => ?_) (fun c1 => ?_)
  · have h2 := h.1 c1
    refine WP.run hP_31 3 (c' := (47, [none, some (.long p1), none, some (.long p2), none], [.long (p1 + p2)], Wd f fl g gl hh v tx)) rfl ?_
    exact WP.ret hP_31 (r := some (.long (p1 + p2))) (w' := Wd f fl g gl hh v tx) rfl h2
  · have h3 := h.2 c1
    refine WP.sw (lo' := 4) rfl (fun c4 => ?_) (fun c4 => ?_)
    · have h5 := h3.1 c4
      refine WP.run hP_31 3 (c' := (51, [none, some (.long p1), none, some (.long p2), none], [.long (p1 - p2)], Wd f fl g gl hh v tx)) rfl ?_
      exact WP.ret hP_31 (r := some (.long (p1 - p2))) (w' := Wd f fl g gl hh v tx) rfl h5
    · have h6 := h3.2 c4
      refine WP.sw (lo' := 5) rfl (fun c7 => ?_) (fun c7 => ?_)
      · have h8 := h6.1 c7
        refine WP.run hP_31 3 (c' := (55, [none, some (.long p1), none, some (.long p2), none], [.long (p1 * p2)], Wd f fl g gl hh v tx)) rfl ?_
        exact WP.ret hP_31 (r := some (.long (p1 * p2))) (w' := Wd f fl g gl hh v tx) rfl h8
      · have h9 := h6.2 c7
        refine WP.sw (lo' := 6) rfl (fun c10 => ?_) (fun c10 => ?_)
        · have h11 := h9.1 c10
          refine WP.run hP_31 3 (c' := (59, [none, some (.long p1), none, some (.long p2), none], [.int (lg_cmp p2 0)], Wd f fl g gl hh v tx)) rfl ?_
          refine WP.br hP_31 (q := ¬ (lg_cmp p2 0) = 0) (t := 68) (f := 62) (L := [none, some (.long p1), none, some (.long p2), none]) (st := []) (w := Wd f fl g gl hh v tx) rfl (fun c12 => ?_) (fun c12 => ?_)
          · have h13 := h11.1 c12
            refine WP.run hP_31 2 (c' := (70, [none, some (.long p1), none, some (.long p2), none], [.long p2, .long p1], Wd f fl g gl hh v tx)) rfl ?_
            refine WP.of (fun _ _ => Ex.ldiv hP_31 rfl h13.1) ?_
            have h14 := h13.2
            exact WP.ret hP_31 (r := some (.long (p1 / p2))) (w' := Wd f fl g gl hh v tx) rfl h14
          · have h15 := h11.2 (Classical.not_not.mp c12)
            refine WP.run hP_31 2 (c' := (71, [none, some (.long p1), none, some (.long p2), none], [.long (-4000000000000000000)], Wd f fl g gl hh v tx)) rfl ?_
            exact WP.ret hP_31 (r := some (.long (-4000000000000000000))) (w' := Wd f fl g gl hh v tx) rfl h15
        · have h16 := h9.2 c10
          refine WP.sw (lo' := 7) rfl (fun c17 => ?_) (fun c17 => ?_)
          · have h18 := h16.1 c17
            refine WP.run hP_31 3 (c' := (75, [none, some (.long p1), none, some (.long p2), none], [.int (lg_cmp p2 0)], Wd f fl g gl hh v tx)) rfl ?_
            refine WP.br hP_31 (q := ¬ (lg_cmp p2 0) = 0) (t := 84) (f := 78) (L := [none, some (.long p1), none, some (.long p2), none]) (st := []) (w := Wd f fl g gl hh v tx) rfl (fun c19 => ?_) (fun c19 => ?_)
            · have h20 := h18.1 c19
              refine WP.run hP_31 2 (c' := (86, [none, some (.long p1), none, some (.long p2), none], [.long p2, .long p1], Wd f fl g gl hh v tx)) rfl ?_
              refine WP.of (fun _ _ => Ex.lrem hP_31 rfl h20.1) ?_
              have h21 := h20.2
              exact WP.ret hP_31 (r := some (.long (p1 - (p1 / p2) * p2))) (w' := Wd f fl g gl hh v tx) rfl h21
            · have h22 := h18.2 (Classical.not_not.mp c19)
              refine WP.run hP_31 2 (c' := (87, [none, some (.long p1), none, some (.long p2), none], [.long (-4000000000000000000)], Wd f fl g gl hh v tx)) rfl ?_
              exact WP.ret hP_31 (r := some (.long (-4000000000000000000))) (w' := Wd f fl g gl hh v tx) rfl h22
          · have h23 := h16.2 c17
            refine WP.sw (lo' := 8) rfl (fun c24 => ?_) (fun c24 => ?_)
            · have h25 := h23.1 c24
              refine WP.run hP_31 3 (c' := (91, [none, some (.long p1), none, some (.long p2), none], [.int (lg_cmp p1 p2)], Wd f fl g gl hh v tx)) rfl ?_
              refine WP.br hP_31 (q := 0 ≤ (lg_cmp p1 p2)) (t := 98) (f := 94) (L := [none, some (.long p1), none, some (.long p2), none]) (st := []) (w := Wd f fl g gl hh v tx) rfl (fun c26 => ?_) (fun c26 => ?_)
              · have h27 := h25.1 c26
                refine WP.run hP_31 1 (c' := (99, [none, none, none, none, none], [.long 0], Wd f fl g gl hh v tx)) rfl ?_
                exact WP.ret hP_31 (r := some (.long 0)) (w' := Wd f fl g gl hh v tx) rfl h27
              · have h28 := h25.2 c26
                refine WP.run hP_31 2 (c' := (99, [none, some (.long p1), none, some (.long p2), none], [.long 1], Wd f fl g gl hh v tx)) rfl ?_
                exact WP.ret hP_31 (r := some (.long 1)) (w' := Wd f fl g gl hh v tx) rfl h28
            · have h29 := h23.2 c24
              refine WP.sw (lo' := 9) rfl (fun c30 => ?_) (fun c30 => ?_)
              · have h31 := h29.1 c30
                refine WP.run hP_31 3 (c' := (103, [none, some (.long p1), none, some (.long p2), none], [.int (lg_cmp p1 p2)], Wd f fl g gl hh v tx)) rfl ?_
                refine WP.br hP_31 (q := (lg_cmp p1 p2) ≤ 0) (t := 110) (f := 106) (L := [none, some (.long p1), none, some (.long p2), none]) (st := []) (w := Wd f fl g gl hh v tx) rfl (fun c32 => ?_) (fun c32 => ?_)
                · have h33 := h31.1 c32
                  refine WP.run hP_31 1 (c' := (111, [none, none, none, none, none], [.long 0], Wd f fl g gl hh v tx)) rfl ?_
                  exact WP.ret hP_31 (r := some (.long 0)) (w' := Wd f fl g gl hh v tx) rfl h33
                · have h34 := h31.2 c32
                  refine WP.run hP_31 2 (c' := (111, [none, some (.long p1), none, some (.long p2), none], [.long 1], Wd f fl g gl hh v tx)) rfl ?_
                  exact WP.ret hP_31 (r := some (.long 1)) (w' := Wd f fl g gl hh v tx) rfl h34
              · have h35 := h29.2 c30
                show WP X _ 31 (112, [some (.int p0), some (.long p1), none, some (.long p2), none], [], Wd f fl g gl hh v tx) P
                refine WP.run hP_31 3 (c' := (115, [none, some (.long p1), none, some (.long p2), none], [.int (lg_cmp p1 p2)], Wd f fl g gl hh v tx)) rfl ?_
                refine WP.br hP_31 (q := ¬ (lg_cmp p1 p2) = 0) (t := 122) (f := 118) (L := [none, some (.long p1), none, some (.long p2), none]) (st := []) (w := Wd f fl g gl hh v tx) rfl (fun c36 => ?_) (fun c36 => ?_)
                · have h37 := h35.1 c36
                  refine WP.run hP_31 1 (c' := (123, [none, none, none, none, none], [.long 0], Wd f fl g gl hh v tx)) rfl ?_
                  exact WP.ret hP_31 (r := some (.long 0)) (w' := Wd f fl g gl hh v tx) rfl h37
                · have h38 := h35.2 (Classical.not_not.mp c36)
                  refine WP.run hP_31 2 (c' := (123, [none, some (.long p1), none, some (.long p2), none], [.long 1], Wd f fl g gl hh v tx)) rfl ?_
                  exact WP.ret hP_31 (r := some (.long 1)) (w' := Wd f fl g gl hh v tx) rfl h38

set_option maxRecDepth 20000 in
theorem b_yma_value_35_32_37_0 (X : mm_X) (d : Nat) (f : Nat → Int32) (fl : Nat → Int64) (g : Nat → Nat → Int32) (gl : Nat → Nat → Int64) (hh : Nat → Nat → Option Nat) (v : Nat → Value) (tx : mm_W) (p0 : Int32) (p1 : Int32)  (P : Option Value → mm_W → Prop)
    (h : ((((p0 * (5 : Int32)) + p1) < 0) → (((((p0 * (5 : Int32)) + (p1 + (1 : Int32))) < 0) → P (some (.long 1)) (Wd f fl g gl hh v tx)) ∧
      ((¬ (((p0 * (5 : Int32)) + (p1 + (1 : Int32))) < 0)) → (((60 ≤ ((p0 * (5 : Int32)) + (p1 + (1 : Int32)))) → P (some (.long 1)) (Wd f fl g gl hh v tx)) ∧
        ((¬ (60 ≤ ((p0 * (5 : Int32)) + (p1 + (1 : Int32))))) → ((¬ (((p0 * (5 : Int32)) + (p1 + (1 : Int32))) < 0 ∨ 60 ≤ ((p0 * (5 : Int32)) + (p1 + (1 : Int32))).toNatClampNeg)) ∧ (((0 < (if 400 < ((g 33) ((p0 * (5 : Int32)) + (p1 + (1 : Int32))).toNatClampNeg) then 400 else ((g 33) ((p0 * (5 : Int32)) + (p1 + (1 : Int32))).toNatClampNeg))) → WP X (d + 1) 30 (47, [some (.ref 35), some (.ref 32), none, none, some (.ref 37), none, some (.int (if 400 < ((g 33) ((p0 * (5 : Int32)) + (p1 + (1 : Int32))).toNatClampNeg) then 400 else ((g 33) ((p0 * (5 : Int32)) + (p1 + (1 : Int32))).toNatClampNeg))), some (.int 0), some (.int 0), none, none, none, none], [], Wd f fl g gl hh v tx) P) ∧
          ((¬ (0 < (if 400 < ((g 33) ((p0 * (5 : Int32)) + (p1 + (1 : Int32))).toNatClampNeg) then 400 else ((g 33) ((p0 * (5 : Int32)) + (p1 + (1 : Int32))).toNatClampNeg)))) → P (some (.long 1)) (Wd f fl g gl hh v tx))))))))) ∧
    ((¬ (((p0 * (5 : Int32)) + p1) < 0)) → (((60 ≤ ((p0 * (5 : Int32)) + p1)) → (((((p0 * (5 : Int32)) + (p1 + (1 : Int32))) < 0) → P (some (.long 1)) (Wd f fl g gl hh v tx)) ∧
        ((¬ (((p0 * (5 : Int32)) + (p1 + (1 : Int32))) < 0)) → (((60 ≤ ((p0 * (5 : Int32)) + (p1 + (1 : Int32)))) → P (some (.long 1)) (Wd f fl g gl hh v tx)) ∧
          ((¬ (60 ≤ ((p0 * (5 : Int32)) + (p1 + (1 : Int32))))) → ((¬ (((p0 * (5 : Int32)) + (p1 + (1 : Int32))) < 0 ∨ 60 ≤ ((p0 * (5 : Int32)) + (p1 + (1 : Int32))).toNatClampNeg)) ∧ (((0 < (if 400 < ((g 33) ((p0 * (5 : Int32)) + (p1 + (1 : Int32))).toNatClampNeg) then 400 else ((g 33) ((p0 * (5 : Int32)) + (p1 + (1 : Int32))).toNatClampNeg))) → WP X (d + 1) 30 (47, [some (.ref 35), some (.ref 32), none, none, some (.ref 37), none, some (.int (if 400 < ((g 33) ((p0 * (5 : Int32)) + (p1 + (1 : Int32))).toNatClampNeg) then 400 else ((g 33) ((p0 * (5 : Int32)) + (p1 + (1 : Int32))).toNatClampNeg))), some (.int 0), some (.int 0), none, none, none, none], [], Wd f fl g gl hh v tx) P) ∧
            ((¬ (0 < (if 400 < ((g 33) ((p0 * (5 : Int32)) + (p1 + (1 : Int32))).toNatClampNeg) then 400 else ((g 33) ((p0 * (5 : Int32)) + (p1 + (1 : Int32))).toNatClampNeg)))) → P (some (.long 1)) (Wd f fl g gl hh v tx))))))))) ∧
      ((¬ (60 ≤ ((p0 * (5 : Int32)) + p1))) → ((¬ (((p0 * (5 : Int32)) + p1) < 0 ∨ 60 ≤ ((p0 * (5 : Int32)) + p1).toNatClampNeg)) ∧ (((((p0 * (5 : Int32)) + (p1 + (1 : Int32))) < 0) → (((((g 33) ((p0 * (5 : Int32)) + p1).toNatClampNeg) < 0) → P (some (.long 1)) (Wd f fl g gl hh v tx)) ∧
          ((¬ (((g 33) ((p0 * (5 : Int32)) + p1).toNatClampNeg) < 0)) → (((((g 33) ((p0 * (5 : Int32)) + p1).toNatClampNeg) < 0) → WP X (d + 1) 30 (47, [some (.ref 35), some (.ref 32), none, none, some (.ref 37), none, some (.int 0), some (.int 0), some (.int ((g 33) ((p0 * (5 : Int32)) + p1).toNatClampNeg)), none, none, none, none], [], Wd f fl g gl hh v tx) P) ∧
            ((¬ (((g 33) ((p0 * (5 : Int32)) + p1).toNatClampNeg) < 0)) → P (some (.long 1)) (Wd f fl g gl hh v tx)))))) ∧
        ((¬ (((p0 * (5 : Int32)) + (p1 + (1 : Int32))) < 0)) → (((60 ≤ ((p0 * (5 : Int32)) + (p1 + (1 : Int32)))) → (((((g 33) ((p0 * (5 : Int32)) + p1).toNatClampNeg) < 0) → P (some (.long 1)) (Wd f fl g gl hh v tx)) ∧
            ((¬ (((g 33) ((p0 * (5 : Int32)) + p1).toNatClampNeg) < 0)) → (((((g 33) ((p0 * (5 : Int32)) + p1).toNatClampNeg) < 0) → WP X (d + 1) 30 (47, [some (.ref 35), some (.ref 32), none, none, some (.ref 37), none, some (.int 0), some (.int 0), some (.int ((g 33) ((p0 * (5 : Int32)) + p1).toNatClampNeg)), none, none, none, none], [], Wd f fl g gl hh v tx) P) ∧
              ((¬ (((g 33) ((p0 * (5 : Int32)) + p1).toNatClampNeg) < 0)) → P (some (.long 1)) (Wd f fl g gl hh v tx)))))) ∧
          ((¬ (60 ≤ ((p0 * (5 : Int32)) + (p1 + (1 : Int32))))) → ((¬ (((p0 * (5 : Int32)) + (p1 + (1 : Int32))) < 0 ∨ 60 ≤ ((p0 * (5 : Int32)) + (p1 + (1 : Int32))).toNatClampNeg)) ∧ (((((g 33) ((p0 * (5 : Int32)) + p1).toNatClampNeg) < 0) → P (some (.long 1)) (Wd f fl g gl hh v tx)) ∧
            ((¬ (((g 33) ((p0 * (5 : Int32)) + p1).toNatClampNeg) < 0)) → (((((g 33) ((p0 * (5 : Int32)) + p1).toNatClampNeg) < (if 400 < ((g 33) ((p0 * (5 : Int32)) + (p1 + (1 : Int32))).toNatClampNeg) then 400 else ((g 33) ((p0 * (5 : Int32)) + (p1 + (1 : Int32))).toNatClampNeg))) → WP X (d + 1) 30 (47, [some (.ref 35), some (.ref 32), none, none, some (.ref 37), none, some (.int (if 400 < ((g 33) ((p0 * (5 : Int32)) + (p1 + (1 : Int32))).toNatClampNeg) then 400 else ((g 33) ((p0 * (5 : Int32)) + (p1 + (1 : Int32))).toNatClampNeg))), some (.int 0), some (.int ((g 33) ((p0 * (5 : Int32)) + p1).toNatClampNeg)), none, none, none, none], [], Wd f fl g gl hh v tx) P) ∧
              ((¬ (((g 33) ((p0 * (5 : Int32)) + p1).toNatClampNeg) < (if 400 < ((g 33) ((p0 * (5 : Int32)) + (p1 + (1 : Int32))).toNatClampNeg) then 400 else ((g 33) ((p0 * (5 : Int32)) + (p1 + (1 : Int32))).toNatClampNeg)))) → P (some (.long 1)) (Wd f fl g gl hh v tx))))))))))))))) :
    WP X (d + 1) 30 (0, [some (.ref 35), some (.ref 32), some (.int p0), some (.int p1), some (.ref 37), none, none, none, none, none, none, none, none], [], Wd f fl g gl hh v tx) P := by
  refine WP.run hP_30 3 (c' := (3, [some (.ref 35), some (.ref 32), some (.int p0), some (.int p1), some (.ref 37), none, none, none, none, none, none, none, none], [.int p1, .int p0, .ref 32], Wd f fl g gl hh v tx)) rfl ?_
  refine WP.call hP_30 hP_56 (as := [.ref 32, .int p0, .int p1]) (pc' := 6) (L' := [some (.ref 35), some (.ref 32), some (.int p0), some (.int p1), some (.ref 37), none, none, none, none, none, none, none, none]) (st' := []) (w1 := Wd f fl g gl hh v tx) rfl ⟨Nat.le_of_ble_eq_true rfl, Nat.le_of_ble_eq_true rfl⟩ rfl (b_yte_head_32_0 X (d) f fl g gl hh v tx p0 p1 _ ?_)
  refine ⟨fun c1 => ?_, fun c1 => ?_⟩
  · have h2 := h.1 c1
    refine WP.run hP_30 6 (c' := (13, [some (.ref 35), some (.ref 32), some (.int p0), some (.int p1), some (.ref 37), some (.int 0), none, none, none, none, none, none, none], [.int (p1 + (1 : Int32)), .int p0, .ref 32], Wd f fl g gl hh v tx)) rfl ?_
    refine WP.call hP_30 hP_56 (as := [.ref 32, .int p0, .int (p1 + (1 : Int32))]) (pc' := 16) (L' := [some (.ref 35), some (.ref 32), some (.int p0), some (.int p1), some (.ref 37), some (.int 0), none, none, none, none, none, none, none]) (st' := []) (w1 := Wd f fl g gl hh v tx) rfl ⟨Nat.le_of_ble_eq_true rfl, Nat.le_of_ble_eq_true rfl⟩ rfl (b_yte_head_32_0 X (d) f fl g gl hh v tx p0 (p1 + (1 : Int32)) _ ?_)
    refine ⟨fun c3 => ?_, fun c3 => ?_⟩
    · have h4 := h2.1 c3
      refine WP.run hP_30 10 (c' := (38, [some (.ref 35), some (.ref 32), some (.int p0), some (.int p1), some (.ref 37), some (.int 0), some (.int 0), none, none, none, none, none, none], [], Wd f fl g gl hh v tx)) rfl ?_
      refine WP.run hP_30 1 (c' := (39, [none, none, none, none, none, none, none, none, none, none, none, none, none], [.long 1], Wd f fl g gl hh v tx)) rfl ?_
      exact WP.ret hP_30 (r := some (.long 1)) (w' := Wd f fl g gl hh v tx) rfl h4
    · have h5 := h2.2 c3
      refine ⟨fun c6 => ?_, fun c6 => ?_⟩
      · have h7 := h5.1 c6
        refine WP.run hP_30 10 (c' := (38, [some (.ref 35), some (.ref 32), some (.int p0), some (.int p1), some (.ref 37), some (.int 0), some (.int 0), none, none, none, none, none, none], [], Wd f fl g gl hh v tx)) rfl ?_
        refine WP.run hP_30 1 (c' := (39, [none, none, none, none, none, none, none, none, none, none, none, none, none], [.long 1], Wd f fl g gl hh v tx)) rfl ?_
        exact WP.ret hP_30 (r := some (.long 1)) (w' := Wd f fl g gl hh v tx) rfl h7
      · have h8 := h5.2 c6
        refine ⟨h8.1, ?_⟩
        have h9 := h8.2
        refine WP.run hP_30 9 (c' := (35, [some (.ref 35), some (.ref 32), some (.int p0), some (.int p1), some (.ref 37), some (.int 0), some (.int (if 400 < ((g 33) ((p0 * (5 : Int32)) + (p1 + (1 : Int32))).toNatClampNeg) then 400 else ((g 33) ((p0 * (5 : Int32)) + (p1 + (1 : Int32))).toNatClampNeg))), none, none, none, none, none, none], [.int (if 400 < ((g 33) ((p0 * (5 : Int32)) + (p1 + (1 : Int32))).toNatClampNeg) then 400 else ((g 33) ((p0 * (5 : Int32)) + (p1 + (1 : Int32))).toNatClampNeg)), .int 0], Wd f fl g gl hh v tx)) rfl ?_
        refine WP.br hP_30 (q := 0 < (if 400 < ((g 33) ((p0 * (5 : Int32)) + (p1 + (1 : Int32))).toNatClampNeg) then 400 else ((g 33) ((p0 * (5 : Int32)) + (p1 + (1 : Int32))).toNatClampNeg))) (t := 40) (f := 38) (L := [some (.ref 35), some (.ref 32), some (.int p0), some (.int p1), some (.ref 37), some (.int 0), some (.int (if 400 < ((g 33) ((p0 * (5 : Int32)) + (p1 + (1 : Int32))).toNatClampNeg) then 400 else ((g 33) ((p0 * (5 : Int32)) + (p1 + (1 : Int32))).toNatClampNeg))), none, none, none, none, none, none]) (st := []) (w := Wd f fl g gl hh v tx) rfl (fun c10 => ?_) (fun c10 => ?_)
        · have h11 := h9.1 c10
          refine WP.run hP_30 1 (c' := (41, [some (.ref 35), some (.ref 32), none, none, some (.ref 37), some (.int 0), some (.int (if 400 < ((g 33) ((p0 * (5 : Int32)) + (p1 + (1 : Int32))).toNatClampNeg) then 400 else ((g 33) ((p0 * (5 : Int32)) + (p1 + (1 : Int32))).toNatClampNeg))), none, none, none, none, none, none], [.int 0], Wd f fl g gl hh v tx)) rfl ?_
          refine WP.run hP_30 2 (c' := (45, [some (.ref 35), some (.ref 32), none, none, some (.ref 37), some (.int 0), some (.int (if 400 < ((g 33) ((p0 * (5 : Int32)) + (p1 + (1 : Int32))).toNatClampNeg) then 400 else ((g 33) ((p0 * (5 : Int32)) + (p1 + (1 : Int32))).toNatClampNeg))), some (.int 0), none, none, none, none, none], [.int 0], Wd f fl g gl hh v tx)) rfl ?_
          refine WP.run hP_30 1 (c' := (47, [some (.ref 35), some (.ref 32), none, none, some (.ref 37), some (.int 0), some (.int (if 400 < ((g 33) ((p0 * (5 : Int32)) + (p1 + (1 : Int32))).toNatClampNeg) then 400 else ((g 33) ((p0 * (5 : Int32)) + (p1 + (1 : Int32))).toNatClampNeg))), some (.int 0), some (.int 0), none, none, none, none], [], Wd f fl g gl hh v tx)) rfl ?_
          refine WP.clr hP_30 (pc := 47) rfl ?_
          exact h11
        · have h12 := h9.2 c10
          refine WP.run hP_30 1 (c' := (39, [none, none, none, none, none, none, none, none, none, none, none, none, none], [.long 1], Wd f fl g gl hh v tx)) rfl ?_
          exact WP.ret hP_30 (r := some (.long 1)) (w' := Wd f fl g gl hh v tx) rfl h12
  · have h13 := h.2 c1
    refine ⟨fun c14 => ?_, fun c14 => ?_⟩
    · have h15 := h13.1 c14
      refine WP.run hP_30 6 (c' := (13, [some (.ref 35), some (.ref 32), some (.int p0), some (.int p1), some (.ref 37), some (.int 0), none, none, none, none, none, none, none], [.int (p1 + (1 : Int32)), .int p0, .ref 32], Wd f fl g gl hh v tx)) rfl ?_
      refine WP.call hP_30 hP_56 (as := [.ref 32, .int p0, .int (p1 + (1 : Int32))]) (pc' := 16) (L' := [some (.ref 35), some (.ref 32), some (.int p0), some (.int p1), some (.ref 37), some (.int 0), none, none, none, none, none, none, none]) (st' := []) (w1 := Wd f fl g gl hh v tx) rfl ⟨Nat.le_of_ble_eq_true rfl, Nat.le_of_ble_eq_true rfl⟩ rfl (b_yte_head_32_0 X (d) f fl g gl hh v tx p0 (p1 + (1 : Int32)) _ ?_)
      refine ⟨fun c16 => ?_, fun c16 => ?_⟩
      · have h17 := h15.1 c16
        refine WP.run hP_30 10 (c' := (38, [some (.ref 35), some (.ref 32), some (.int p0), some (.int p1), some (.ref 37), some (.int 0), some (.int 0), none, none, none, none, none, none], [], Wd f fl g gl hh v tx)) rfl ?_
        refine WP.run hP_30 1 (c' := (39, [none, none, none, none, none, none, none, none, none, none, none, none, none], [.long 1], Wd f fl g gl hh v tx)) rfl ?_
        exact WP.ret hP_30 (r := some (.long 1)) (w' := Wd f fl g gl hh v tx) rfl h17
      · have h18 := h15.2 c16
        refine ⟨fun c19 => ?_, fun c19 => ?_⟩
        · have h20 := h18.1 c19
          refine WP.run hP_30 10 (c' := (38, [some (.ref 35), some (.ref 32), some (.int p0), some (.int p1), some (.ref 37), some (.int 0), some (.int 0), none, none, none, none, none, none], [], Wd f fl g gl hh v tx)) rfl ?_
          refine WP.run hP_30 1 (c' := (39, [none, none, none, none, none, none, none, none, none, none, none, none, none], [.long 1], Wd f fl g gl hh v tx)) rfl ?_
          exact WP.ret hP_30 (r := some (.long 1)) (w' := Wd f fl g gl hh v tx) rfl h20
        · have h21 := h18.2 c19
          refine ⟨h21.1, ?_⟩
          have h22 := h21.2
          refine WP.run hP_30 9 (c' := (35, [some (.ref 35), some (.ref 32), some (.int p0), some (.int p1), some (.ref 37), some (.int 0), some (.int (if 400 < ((g 33) ((p0 * (5 : Int32)) + (p1 + (1 : Int32))).toNatClampNeg) then 400 else ((g 33) ((p0 * (5 : Int32)) + (p1 + (1 : Int32))).toNatClampNeg))), none, none, none, none, none, none], [.int (if 400 < ((g 33) ((p0 * (5 : Int32)) + (p1 + (1 : Int32))).toNatClampNeg) then 400 else ((g 33) ((p0 * (5 : Int32)) + (p1 + (1 : Int32))).toNatClampNeg)), .int 0], Wd f fl g gl hh v tx)) rfl ?_
          refine WP.br hP_30 (q := 0 < (if 400 < ((g 33) ((p0 * (5 : Int32)) + (p1 + (1 : Int32))).toNatClampNeg) then 400 else ((g 33) ((p0 * (5 : Int32)) + (p1 + (1 : Int32))).toNatClampNeg))) (t := 40) (f := 38) (L := [some (.ref 35), some (.ref 32), some (.int p0), some (.int p1), some (.ref 37), some (.int 0), some (.int (if 400 < ((g 33) ((p0 * (5 : Int32)) + (p1 + (1 : Int32))).toNatClampNeg) then 400 else ((g 33) ((p0 * (5 : Int32)) + (p1 + (1 : Int32))).toNatClampNeg))), none, none, none, none, none, none]) (st := []) (w := Wd f fl g gl hh v tx) rfl (fun c23 => ?_) (fun c23 => ?_)
          · have h24 := h22.1 c23
            refine WP.run hP_30 1 (c' := (41, [some (.ref 35), some (.ref 32), none, none, some (.ref 37), some (.int 0), some (.int (if 400 < ((g 33) ((p0 * (5 : Int32)) + (p1 + (1 : Int32))).toNatClampNeg) then 400 else ((g 33) ((p0 * (5 : Int32)) + (p1 + (1 : Int32))).toNatClampNeg))), none, none, none, none, none, none], [.int 0], Wd f fl g gl hh v tx)) rfl ?_
            refine WP.run hP_30 2 (c' := (45, [some (.ref 35), some (.ref 32), none, none, some (.ref 37), some (.int 0), some (.int (if 400 < ((g 33) ((p0 * (5 : Int32)) + (p1 + (1 : Int32))).toNatClampNeg) then 400 else ((g 33) ((p0 * (5 : Int32)) + (p1 + (1 : Int32))).toNatClampNeg))), some (.int 0), none, none, none, none, none], [.int 0], Wd f fl g gl hh v tx)) rfl ?_
            refine WP.run hP_30 1 (c' := (47, [some (.ref 35), some (.ref 32), none, none, some (.ref 37), some (.int 0), some (.int (if 400 < ((g 33) ((p0 * (5 : Int32)) + (p1 + (1 : Int32))).toNatClampNeg) then 400 else ((g 33) ((p0 * (5 : Int32)) + (p1 + (1 : Int32))).toNatClampNeg))), some (.int 0), some (.int 0), none, none, none, none], [], Wd f fl g gl hh v tx)) rfl ?_
            refine WP.clr hP_30 (pc := 47) rfl ?_
            exact h24
          · have h25 := h22.2 c23
            refine WP.run hP_30 1 (c' := (39, [none, none, none, none, none, none, none, none, none, none, none, none, none], [.long 1], Wd f fl g gl hh v tx)) rfl ?_
            exact WP.ret hP_30 (r := some (.long 1)) (w' := Wd f fl g gl hh v tx) rfl h25
    · have h26 := h13.2 c14
      refine ⟨h26.1, ?_⟩
      have h27 := h26.2
      refine WP.run hP_30 6 (c' := (13, [some (.ref 35), some (.ref 32), some (.int p0), some (.int p1), some (.ref 37), some (.int ((g 33) ((p0 * (5 : Int32)) + p1).toNatClampNeg)), none, none, none, none, none, none, none], [.int (p1 + (1 : Int32)), .int p0, .ref 32], Wd f fl g gl hh v tx)) rfl ?_
      refine WP.call hP_30 hP_56 (as := [.ref 32, .int p0, .int (p1 + (1 : Int32))]) (pc' := 16) (L' := [some (.ref 35), some (.ref 32), some (.int p0), some (.int p1), some (.ref 37), some (.int ((g 33) ((p0 * (5 : Int32)) + p1).toNatClampNeg)), none, none, none, none, none, none, none]) (st' := []) (w1 := Wd f fl g gl hh v tx) rfl ⟨Nat.le_of_ble_eq_true rfl, Nat.le_of_ble_eq_true rfl⟩ rfl (b_yte_head_32_0 X (d) f fl g gl hh v tx p0 (p1 + (1 : Int32)) _ ?_)
      refine ⟨fun c28 => ?_, fun c28 => ?_⟩
      · have h29 := h27.1 c28
        refine WP.run hP_30 6 (c' := (28, [some (.ref 35), some (.ref 32), some (.int p0), some (.int p1), some (.ref 37), some (.int ((g 33) ((p0 * (5 : Int32)) + p1).toNatClampNeg)), some (.int 0), none, none, none, none, none, none], [.int ((g 33) ((p0 * (5 : Int32)) + p1).toNatClampNeg)], Wd f fl g gl hh v tx)) rfl ?_
        refine WP.br hP_30 (q := ((g 33) ((p0 * (5 : Int32)) + p1).toNatClampNeg) < 0) (t := 38) (f := 31) (L := [some (.ref 35), some (.ref 32), some (.int p0), some (.int p1), some (.ref 37), some (.int ((g 33) ((p0 * (5 : Int32)) + p1).toNatClampNeg)), some (.int 0), none, none, none, none, none, none]) (st := []) (w := Wd f fl g gl hh v tx) rfl (fun c30 => ?_) (fun c30 => ?_)
        · have h31 := h29.1 c30
          refine WP.run hP_30 1 (c' := (39, [none, none, none, none, none, none, none, none, none, none, none, none, none], [.long 1], Wd f fl g gl hh v tx)) rfl ?_
          exact WP.ret hP_30 (r := some (.long 1)) (w' := Wd f fl g gl hh v tx) rfl h31
        · have h32 := h29.2 c30
          refine WP.run hP_30 2 (c' := (35, [some (.ref 35), some (.ref 32), some (.int p0), some (.int p1), some (.ref 37), some (.int ((g 33) ((p0 * (5 : Int32)) + p1).toNatClampNeg)), some (.int 0), none, none, none, none, none, none], [.int 0, .int ((g 33) ((p0 * (5 : Int32)) + p1).toNatClampNeg)], Wd f fl g gl hh v tx)) rfl ?_
          refine WP.br hP_30 (q := ((g 33) ((p0 * (5 : Int32)) + p1).toNatClampNeg) < 0) (t := 40) (f := 38) (L := [some (.ref 35), some (.ref 32), some (.int p0), some (.int p1), some (.ref 37), some (.int ((g 33) ((p0 * (5 : Int32)) + p1).toNatClampNeg)), some (.int 0), none, none, none, none, none, none]) (st := []) (w := Wd f fl g gl hh v tx) rfl (fun c33 => ?_) (fun c33 => ?_)
          · have h34 := h32.1 c33
            refine WP.run hP_30 1 (c' := (41, [some (.ref 35), some (.ref 32), none, none, some (.ref 37), some (.int ((g 33) ((p0 * (5 : Int32)) + p1).toNatClampNeg)), some (.int 0), none, none, none, none, none, none], [.int 0], Wd f fl g gl hh v tx)) rfl ?_
            refine WP.run hP_30 2 (c' := (45, [some (.ref 35), some (.ref 32), none, none, some (.ref 37), some (.int ((g 33) ((p0 * (5 : Int32)) + p1).toNatClampNeg)), some (.int 0), some (.int 0), none, none, none, none, none], [.int ((g 33) ((p0 * (5 : Int32)) + p1).toNatClampNeg)], Wd f fl g gl hh v tx)) rfl ?_
            refine WP.run hP_30 1 (c' := (47, [some (.ref 35), some (.ref 32), none, none, some (.ref 37), some (.int ((g 33) ((p0 * (5 : Int32)) + p1).toNatClampNeg)), some (.int 0), some (.int 0), some (.int ((g 33) ((p0 * (5 : Int32)) + p1).toNatClampNeg)), none, none, none, none], [], Wd f fl g gl hh v tx)) rfl ?_
            refine WP.clr hP_30 (pc := 47) rfl ?_
            exact h34
          · have h35 := h32.2 c33
            refine WP.run hP_30 1 (c' := (39, [none, none, none, none, none, none, none, none, none, none, none, none, none], [.long 1], Wd f fl g gl hh v tx)) rfl ?_
            exact WP.ret hP_30 (r := some (.long 1)) (w' := Wd f fl g gl hh v tx) rfl h35
      · have h36 := h27.2 c28
        refine ⟨fun c37 => ?_, fun c37 => ?_⟩
        · have h38 := h36.1 c37
          refine WP.run hP_30 6 (c' := (28, [some (.ref 35), some (.ref 32), some (.int p0), some (.int p1), some (.ref 37), some (.int ((g 33) ((p0 * (5 : Int32)) + p1).toNatClampNeg)), some (.int 0), none, none, none, none, none, none], [.int ((g 33) ((p0 * (5 : Int32)) + p1).toNatClampNeg)], Wd f fl g gl hh v tx)) rfl ?_
          refine WP.br hP_30 (q := ((g 33) ((p0 * (5 : Int32)) + p1).toNatClampNeg) < 0) (t := 38) (f := 31) (L := [some (.ref 35), some (.ref 32), some (.int p0), some (.int p1), some (.ref 37), some (.int ((g 33) ((p0 * (5 : Int32)) + p1).toNatClampNeg)), some (.int 0), none, none, none, none, none, none]) (st := []) (w := Wd f fl g gl hh v tx) rfl (fun c39 => ?_) (fun c39 => ?_)
          · have h40 := h38.1 c39
            refine WP.run hP_30 1 (c' := (39, [none, none, none, none, none, none, none, none, none, none, none, none, none], [.long 1], Wd f fl g gl hh v tx)) rfl ?_
            exact WP.ret hP_30 (r := some (.long 1)) (w' := Wd f fl g gl hh v tx) rfl h40
          · have h41 := h38.2 c39
            refine WP.run hP_30 2 (c' := (35, [some (.ref 35), some (.ref 32), some (.int p0), some (.int p1), some (.ref 37), some (.int ((g 33) ((p0 * (5 : Int32)) + p1).toNatClampNeg)), some (.int 0), none, none, none, none, none, none], [.int 0, .int ((g 33) ((p0 * (5 : Int32)) + p1).toNatClampNeg)], Wd f fl g gl hh v tx)) rfl ?_
            refine WP.br hP_30 (q := ((g 33) ((p0 * (5 : Int32)) + p1).toNatClampNeg) < 0) (t := 40) (f := 38) (L := [some (.ref 35), some (.ref 32), some (.int p0), some (.int p1), some (.ref 37), some (.int ((g 33) ((p0 * (5 : Int32)) + p1).toNatClampNeg)), some (.int 0), none, none, none, none, none, none]) (st := []) (w := Wd f fl g gl hh v tx) rfl (fun c42 => ?_) (fun c42 => ?_)
            · have h43 := h41.1 c42
              refine WP.run hP_30 1 (c' := (41, [some (.ref 35), some (.ref 32), none, none, some (.ref 37), some (.int ((g 33) ((p0 * (5 : Int32)) + p1).toNatClampNeg)), some (.int 0), none, none, none, none, none, none], [.int 0], Wd f fl g gl hh v tx)) rfl ?_
              refine WP.run hP_30 2 (c' := (45, [some (.ref 35), some (.ref 32), none, none, some (.ref 37), some (.int ((g 33) ((p0 * (5 : Int32)) + p1).toNatClampNeg)), some (.int 0), some (.int 0), none, none, none, none, none], [.int ((g 33) ((p0 * (5 : Int32)) + p1).toNatClampNeg)], Wd f fl g gl hh v tx)) rfl ?_
              refine WP.run hP_30 1 (c' := (47, [some (.ref 35), some (.ref 32), none, none, some (.ref 37), some (.int ((g 33) ((p0 * (5 : Int32)) + p1).toNatClampNeg)), some (.int 0), some (.int 0), some (.int ((g 33) ((p0 * (5 : Int32)) + p1).toNatClampNeg)), none, none, none, none], [], Wd f fl g gl hh v tx)) rfl ?_
              refine WP.clr hP_30 (pc := 47) rfl ?_
              exact h43
            · have h44 := h41.2 c42
              refine WP.run hP_30 1 (c' := (39, [none, none, none, none, none, none, none, none, none, none, none, none, none], [.long 1], Wd f fl g gl hh v tx)) rfl ?_
              exact WP.ret hP_30 (r := some (.long 1)) (w' := Wd f fl g gl hh v tx) rfl h44
        · have h45 := h36.2 c37
          refine ⟨h45.1, ?_⟩
          have h46 := h45.2
          refine WP.run hP_30 6 (c' := (28, [some (.ref 35), some (.ref 32), some (.int p0), some (.int p1), some (.ref 37), some (.int ((g 33) ((p0 * (5 : Int32)) + p1).toNatClampNeg)), some (.int (if 400 < ((g 33) ((p0 * (5 : Int32)) + (p1 + (1 : Int32))).toNatClampNeg) then 400 else ((g 33) ((p0 * (5 : Int32)) + (p1 + (1 : Int32))).toNatClampNeg))), none, none, none, none, none, none], [.int ((g 33) ((p0 * (5 : Int32)) + p1).toNatClampNeg)], Wd f fl g gl hh v tx)) rfl ?_
          refine WP.br hP_30 (q := ((g 33) ((p0 * (5 : Int32)) + p1).toNatClampNeg) < 0) (t := 38) (f := 31) (L := [some (.ref 35), some (.ref 32), some (.int p0), some (.int p1), some (.ref 37), some (.int ((g 33) ((p0 * (5 : Int32)) + p1).toNatClampNeg)), some (.int (if 400 < ((g 33) ((p0 * (5 : Int32)) + (p1 + (1 : Int32))).toNatClampNeg) then 400 else ((g 33) ((p0 * (5 : Int32)) + (p1 + (1 : Int32))).toNatClampNeg))), none, none, none, none, none, none]) (st := []) (w := Wd f fl g gl hh v tx) rfl (fun c47 => ?_) (fun c47 => ?_)
          · have h48 := h46.1 c47
            refine WP.run hP_30 1 (c' := (39, [none, none, none, none, none, none, none, none, none, none, none, none, none], [.long 1], Wd f fl g gl hh v tx)) rfl ?_
            exact WP.ret hP_30 (r := some (.long 1)) (w' := Wd f fl g gl hh v tx) rfl h48
          · have h49 := h46.2 c47
            refine WP.run hP_30 2 (c' := (35, [some (.ref 35), some (.ref 32), some (.int p0), some (.int p1), some (.ref 37), some (.int ((g 33) ((p0 * (5 : Int32)) + p1).toNatClampNeg)), some (.int (if 400 < ((g 33) ((p0 * (5 : Int32)) + (p1 + (1 : Int32))).toNatClampNeg) then 400 else ((g 33) ((p0 * (5 : Int32)) + (p1 + (1 : Int32))).toNatClampNeg))), none, none, none, none, none, none], [.int (if 400 < ((g 33) ((p0 * (5 : Int32)) + (p1 + (1 : Int32))).toNatClampNeg) then 400 else ((g 33) ((p0 * (5 : Int32)) + (p1 + (1 : Int32))).toNatClampNeg)), .int ((g 33) ((p0 * (5 : Int32)) + p1).toNatClampNeg)], Wd f fl g gl hh v tx)) rfl ?_
            refine WP.br hP_30 (q := ((g 33) ((p0 * (5 : Int32)) + p1).toNatClampNeg) < (if 400 < ((g 33) ((p0 * (5 : Int32)) + (p1 + (1 : Int32))).toNatClampNeg) then 400 else ((g 33) ((p0 * (5 : Int32)) + (p1 + (1 : Int32))).toNatClampNeg))) (t := 40) (f := 38) (L := [some (.ref 35), some (.ref 32), some (.int p0), some (.int p1), some (.ref 37), some (.int ((g 33) ((p0 * (5 : Int32)) + p1).toNatClampNeg)), some (.int (if 400 < ((g 33) ((p0 * (5 : Int32)) + (p1 + (1 : Int32))).toNatClampNeg) then 400 else ((g 33) ((p0 * (5 : Int32)) + (p1 + (1 : Int32))).toNatClampNeg))), none, none, none, none, none, none]) (st := []) (w := Wd f fl g gl hh v tx) rfl (fun c50 => ?_) (fun c50 => ?_)
            · have h51 := h49.1 c50
              refine WP.run hP_30 1 (c' := (41, [some (.ref 35), some (.ref 32), none, none, some (.ref 37), some (.int ((g 33) ((p0 * (5 : Int32)) + p1).toNatClampNeg)), some (.int (if 400 < ((g 33) ((p0 * (5 : Int32)) + (p1 + (1 : Int32))).toNatClampNeg) then 400 else ((g 33) ((p0 * (5 : Int32)) + (p1 + (1 : Int32))).toNatClampNeg))), none, none, none, none, none, none], [.int 0], Wd f fl g gl hh v tx)) rfl ?_
              refine WP.run hP_30 2 (c' := (45, [some (.ref 35), some (.ref 32), none, none, some (.ref 37), some (.int ((g 33) ((p0 * (5 : Int32)) + p1).toNatClampNeg)), some (.int (if 400 < ((g 33) ((p0 * (5 : Int32)) + (p1 + (1 : Int32))).toNatClampNeg) then 400 else ((g 33) ((p0 * (5 : Int32)) + (p1 + (1 : Int32))).toNatClampNeg))), some (.int 0), none, none, none, none, none], [.int ((g 33) ((p0 * (5 : Int32)) + p1).toNatClampNeg)], Wd f fl g gl hh v tx)) rfl ?_
              refine WP.run hP_30 1 (c' := (47, [some (.ref 35), some (.ref 32), none, none, some (.ref 37), some (.int ((g 33) ((p0 * (5 : Int32)) + p1).toNatClampNeg)), some (.int (if 400 < ((g 33) ((p0 * (5 : Int32)) + (p1 + (1 : Int32))).toNatClampNeg) then 400 else ((g 33) ((p0 * (5 : Int32)) + (p1 + (1 : Int32))).toNatClampNeg))), some (.int 0), some (.int ((g 33) ((p0 * (5 : Int32)) + p1).toNatClampNeg)), none, none, none, none], [], Wd f fl g gl hh v tx)) rfl ?_
              refine WP.clr hP_30 (pc := 47) rfl ?_
              exact h51
            · have h52 := h49.2 c50
              refine WP.run hP_30 1 (c' := (39, [none, none, none, none, none, none, none, none, none, none, none, none, none], [.long 1], Wd f fl g gl hh v tx)) rfl ?_
              exact WP.ret hP_30 (r := some (.long 1)) (w' := Wd f fl g gl hh v tx) rfl h52

set_option maxRecDepth 20000 in
theorem b_yma_value_35_32_37_47 (X : mm_X) (d : Nat) (f : Nat → Int32) (fl : Nat → Int64) (g : Nat → Nat → Int32) (gl : Nat → Nat → Int64) (hh : Nat → Nat → Option Nat) (v : Nat → Value) (tx : mm_W) (l6 : Int32) (l7 : Int32) (l8 : Int32)  (P : Option Value → mm_W → Prop)
    (h : ((l6 ≤ l8) → (((¬ l7 = 1) → P (some (.long (-4000000000000000000))) (Wd f fl g gl hh v tx)) ∧
      ((l7 = 1) → P (some (.long ((gl 36) 0))) (Wd f fl g gl hh v tx)))) ∧
    ((¬ (l6 ≤ l8)) → ((¬ (l8 < 0 ∨ 400 ≤ l8.toNatClampNeg)) ∧ ((¬ (l8 < 0 ∨ 400 ≤ l8.toNatClampNeg)) ∧ (((1 < ((((g 34) l8.toNatClampNeg) >>> ((12 : Int32) &&& (31 : Int32))) : Int32)) → (((l7 < 1) → P (some (.long (-4000000000000000000))) (Wd f fl g gl hh v tx)) ∧
        ((¬ (l7 < 1)) → (((10 ≤ ((((g 34) l8.toNatClampNeg) >>> ((12 : Int32) &&& (31 : Int32))) : Int32)) → WP X (d) 30 (167, [some (.ref 35), some (.ref 32), none, none, some (.ref 37), none, some (.int l6), some (.int l7), some (.int l8), some (.int ((((g 34) l8.toNatClampNeg) >>> ((12 : Int32) &&& (31 : Int32))) : Int32)), some (.int (((g 34) l8.toNatClampNeg) &&& (4095 : Int32))), none, none], [], Wd f fl g gl hh v tx) P) ∧
          ((¬ (10 ≤ ((((g 34) l8.toNatClampNeg) >>> ((12 : Int32) &&& (31 : Int32))) : Int32))) → (((2 ≤ l7) → WP X (d) 30 (167, [some (.ref 35), some (.ref 32), none, none, some (.ref 37), none, some (.int l6), some (.int l7), some (.int l8), some (.int ((((g 34) l8.toNatClampNeg) >>> ((12 : Int32) &&& (31 : Int32))) : Int32)), some (.int (((g 34) l8.toNatClampNeg) &&& (4095 : Int32))), none, none], [], Wd f fl g gl hh v tx) P) ∧
            ((¬ (2 ≤ l7)) → P (some (.long (-4000000000000000000))) (Wd f fl g gl hh v tx)))))))) ∧
      ((¬ (1 < ((((g 34) l8.toNatClampNeg) >>> ((12 : Int32) &&& (31 : Int32))) : Int32))) → (((64 ≤ l7) → P (some (.long (-4000000000000000000))) (Wd f fl g gl hh v tx)) ∧
        ((¬ (64 ≤ l7)) → (((¬ ((((g 34) l8.toNatClampNeg) >>> ((12 : Int32) &&& (31 : Int32))) : Int32) = 1) → WP X (d) 30 (113, [some (.ref 35), some (.ref 32), none, none, some (.ref 37), none, some (.int l6), some (.int l7), some (.int l8), some (.int ((((g 34) l8.toNatClampNeg) >>> ((12 : Int32) &&& (31 : Int32))) : Int32)), some (.int (((g 34) l8.toNatClampNeg) &&& (4095 : Int32))), none, none], [], Wd f fl g gl hh v tx) P) ∧
          ((((((g 34) l8.toNatClampNeg) >>> ((12 : Int32) &&& (31 : Int32))) : Int32) = 1) → ((((((g 34) l8.toNatClampNeg) &&& (4095 : Int32)) < 11) → WP X (d) 30 (113, [some (.ref 35), some (.ref 32), none, none, some (.ref 37), none, some (.int l6), some (.int l7), some (.int l8), some (.int ((((g 34) l8.toNatClampNeg) >>> ((12 : Int32) &&& (31 : Int32))) : Int32)), some (.int (((g 34) l8.toNatClampNeg) &&& (4095 : Int32))), none, none], [], Wd f fl g gl hh v tx) P) ∧
            ((¬ ((((g 34) l8.toNatClampNeg) &&& (4095 : Int32)) < 11)) → P (some (.long (-4000000000000000000))) (Wd f fl g gl hh v tx))))))))))))) :
    WP X (d) 30 (47, [some (.ref 35), some (.ref 32), none, none, some (.ref 37), none, some (.int l6), some (.int l7), some (.int l8), none, none, none, none], [], Wd f fl g gl hh v tx) P := by
  refine WP.run hP_30 2 (c' := (51, [some (.ref 35), some (.ref 32), none, none, some (.ref 37), none, some (.int l6), some (.int l7), some (.int l8), none, none, none, none], [.int l6, .int l8], Wd f fl g gl hh v tx)) rfl ?_
  refine WP.br hP_30 (q := l6 ≤ l8) (t := 352) (f := 54) (L := [some (.ref 35), some (.ref 32), none, none, some (.ref 37), none, some (.int l6), some (.int l7), some (.int l8), none, none, none, none]) (st := []) (w := Wd f fl g gl hh v tx) rfl (fun c1 => ?_) (fun c1 => ?_)
  · have h2 := h.1 c1
    refine WP.run hP_30 2 (c' := (355, [some (.ref 35), none, none, none, none, none, none, some (.int l7), none, none, none, none, none], [.int 1, .int l7], Wd f fl g gl hh v tx)) rfl ?_
    refine WP.br hP_30 (q := ¬ l7 = 1) (t := 367) (f := 358) (L := [some (.ref 35), none, none, none, none, none, none, some (.int l7), none, none, none, none, none]) (st := []) (w := Wd f fl g gl hh v tx) rfl (fun c3 => ?_) (fun c3 => ?_)
    · have h4 := h2.1 c3
      refine WP.run hP_30 1 (c' := (370, [none, none, none, none, none, none, none, none, none, none, none, none, none], [.long (-4000000000000000000)], Wd f fl g gl hh v tx)) rfl ?_
      exact WP.ret hP_30 (r := some (.long (-4000000000000000000))) (w' := Wd f fl g gl hh v tx) rfl h4
    · have h5 := h2.2 (Classical.not_not.mp c3)
      refine WP.run hP_30 3 (c' := (363, [some (.ref 35), none, none, none, none, none, none, some (.int l7), none, none, none, none, none], [.int 0, .ref 36], Wd f fl g gl hh v tx)) rfl ?_
      refine WP.of (fun _ _ => Ex.lald hP_30 rfl (Wa_36 _ _ _ _ _ _ _) (by decide)) ?_
      show WP X _ 30 (364, [some (.ref 35), none, none, none, none, none, none, some (.int l7), none, none, none, none, none], [.long ((gl 36) 0)], Wd f fl g gl hh v tx) P
      refine WP.run hP_30 1 (c' := (370, [some (.ref 35), none, none, none, none, none, none, some (.int l7), none, none, none, none, none], [.long ((gl 36) 0)], Wd f fl g gl hh v tx)) rfl ?_
      exact WP.ret hP_30 (r := some (.long ((gl 36) 0))) (w' := Wd f fl g gl hh v tx) rfl h5
  · have h6 := h.2 c1
    refine WP.run hP_30 3 (c' := (60, [some (.ref 35), some (.ref 32), none, none, some (.ref 37), none, some (.int l6), some (.int l7), some (.int l8), none, none, none, none], [.int l8, .ref 34], Wd f fl g gl hh v tx)) rfl ?_
    refine WP.of (fun _ _ => Ex.iald hP_30 rfl (Wa_34 _ _ _ _ _ _ _) h6.1) ?_
    have h7 := h6.2
    refine WP.run hP_30 6 (c' := (72, [some (.ref 35), some (.ref 32), none, none, some (.ref 37), none, some (.int l6), some (.int l7), some (.int l8), some (.int ((((g 34) l8.toNatClampNeg) >>> ((12 : Int32) &&& (31 : Int32))) : Int32)), none, none, none], [.int l8, .ref 34], Wd f fl g gl hh v tx)) rfl ?_
    refine WP.of (fun _ _ => Ex.iald hP_30 rfl (Wa_34 _ _ _ _ _ _ _) h7.1) ?_
    have h8 := h7.2
    refine WP.run hP_30 5 (c' := (82, [some (.ref 35), some (.ref 32), none, none, some (.ref 37), none, some (.int l6), some (.int l7), some (.int l8), some (.int ((((g 34) l8.toNatClampNeg) >>> ((12 : Int32) &&& (31 : Int32))) : Int32)), some (.int (((g 34) l8.toNatClampNeg) &&& (4095 : Int32))), none, none], [.int 1, .int ((((g 34) l8.toNatClampNeg) >>> ((12 : Int32) &&& (31 : Int32))) : Int32)], Wd f fl g gl hh v tx)) rfl ?_
    refine WP.br hP_30 (q := 1 < ((((g 34) l8.toNatClampNeg) >>> ((12 : Int32) &&& (31 : Int32))) : Int32)) (t := 144) (f := 85) (L := [some (.ref 35), some (.ref 32), none, none, some (.ref 37), none, some (.int l6), some (.int l7), some (.int l8), some (.int ((((g 34) l8.toNatClampNeg) >>> ((12 : Int32) &&& (31 : Int32))) : Int32)), some (.int (((g 34) l8.toNatClampNeg) &&& (4095 : Int32))), none, none]) (st := []) (w := Wd f fl g gl hh v tx) rfl (fun c9 => ?_) (fun c9 => ?_)
    · have h10 := h8.1 c9
      refine WP.run hP_30 2 (c' := (147, [some (.ref 35), some (.ref 32), none, none, some (.ref 37), none, some (.int l6), some (.int l7), some (.int l8), some (.int ((((g 34) l8.toNatClampNeg) >>> ((12 : Int32) &&& (31 : Int32))) : Int32)), some (.int (((g 34) l8.toNatClampNeg) &&& (4095 : Int32))), none, none], [.int 1, .int l7], Wd f fl g gl hh v tx)) rfl ?_
      refine WP.br hP_30 (q := l7 < 1) (t := 163) (f := 150) (L := [some (.ref 35), some (.ref 32), none, none, some (.ref 37), none, some (.int l6), some (.int l7), some (.int l8), some (.int ((((g 34) l8.toNatClampNeg) >>> ((12 : Int32) &&& (31 : Int32))) : Int32)), some (.int (((g 34) l8.toNatClampNeg) &&& (4095 : Int32))), none, none]) (st := []) (w := Wd f fl g gl hh v tx) rfl (fun c11 => ?_) (fun c11 => ?_)
      · have h12 := h10.1 c11
        refine WP.run hP_30 1 (c' := (166, [none, none, none, none, none, none, none, none, none, none, none, none, none], [.long (-4000000000000000000)], Wd f fl g gl hh v tx)) rfl ?_
        exact WP.ret hP_30 (r := some (.long (-4000000000000000000))) (w' := Wd f fl g gl hh v tx) rfl h12
      · have h13 := h10.2 c11
        refine WP.run hP_30 2 (c' := (154, [some (.ref 35), some (.ref 32), none, none, some (.ref 37), none, some (.int l6), some (.int l7), some (.int l8), some (.int ((((g 34) l8.toNatClampNeg) >>> ((12 : Int32) &&& (31 : Int32))) : Int32)), some (.int (((g 34) l8.toNatClampNeg) &&& (4095 : Int32))), none, none], [.int 10, .int ((((g 34) l8.toNatClampNeg) >>> ((12 : Int32) &&& (31 : Int32))) : Int32)], Wd f fl g gl hh v tx)) rfl ?_
        refine WP.br hP_30 (q := 10 ≤ ((((g 34) l8.toNatClampNeg) >>> ((12 : Int32) &&& (31 : Int32))) : Int32)) (t := 167) (f := 157) (L := [some (.ref 35), some (.ref 32), none, none, some (.ref 37), none, some (.int l6), some (.int l7), some (.int l8), some (.int ((((g 34) l8.toNatClampNeg) >>> ((12 : Int32) &&& (31 : Int32))) : Int32)), some (.int (((g 34) l8.toNatClampNeg) &&& (4095 : Int32))), none, none]) (st := []) (w := Wd f fl g gl hh v tx) rfl (fun c14 => ?_) (fun c14 => ?_)
        · have h15 := h13.1 c14
          exact h15
        · have h16 := h13.2 c14
          refine WP.run hP_30 2 (c' := (160, [some (.ref 35), some (.ref 32), none, none, some (.ref 37), none, some (.int l6), some (.int l7), some (.int l8), some (.int ((((g 34) l8.toNatClampNeg) >>> ((12 : Int32) &&& (31 : Int32))) : Int32)), some (.int (((g 34) l8.toNatClampNeg) &&& (4095 : Int32))), none, none], [.int 2, .int l7], Wd f fl g gl hh v tx)) rfl ?_
          refine WP.br hP_30 (q := 2 ≤ l7) (t := 167) (f := 163) (L := [some (.ref 35), some (.ref 32), none, none, some (.ref 37), none, some (.int l6), some (.int l7), some (.int l8), some (.int ((((g 34) l8.toNatClampNeg) >>> ((12 : Int32) &&& (31 : Int32))) : Int32)), some (.int (((g 34) l8.toNatClampNeg) &&& (4095 : Int32))), none, none]) (st := []) (w := Wd f fl g gl hh v tx) rfl (fun c17 => ?_) (fun c17 => ?_)
          · have h18 := h16.1 c17
            exact h18
          · have h19 := h16.2 c17
            refine WP.run hP_30 1 (c' := (166, [none, none, none, none, none, none, none, none, none, none, none, none, none], [.long (-4000000000000000000)], Wd f fl g gl hh v tx)) rfl ?_
            exact WP.ret hP_30 (r := some (.long (-4000000000000000000))) (w' := Wd f fl g gl hh v tx) rfl h19
    · have h20 := h8.2 c9
      refine WP.run hP_30 4 (c' := (92, [some (.ref 35), some (.ref 32), none, none, some (.ref 37), none, some (.int l6), some (.int l7), some (.int l8), some (.int ((((g 34) l8.toNatClampNeg) >>> ((12 : Int32) &&& (31 : Int32))) : Int32)), some (.int (((g 34) l8.toNatClampNeg) &&& (4095 : Int32))), none, none], [.int 64, .int l7], Wd f fl g gl hh v tx)) rfl ?_
      refine WP.br hP_30 (q := 64 ≤ l7) (t := 109) (f := 95) (L := [some (.ref 35), some (.ref 32), none, none, some (.ref 37), none, some (.int l6), some (.int l7), some (.int l8), some (.int ((((g 34) l8.toNatClampNeg) >>> ((12 : Int32) &&& (31 : Int32))) : Int32)), some (.int (((g 34) l8.toNatClampNeg) &&& (4095 : Int32))), none, none]) (st := []) (w := Wd f fl g gl hh v tx) rfl (fun c21 => ?_) (fun c21 => ?_)
      · have h22 := h20.1 c21
        refine WP.run hP_30 1 (c' := (112, [none, none, none, none, none, none, none, none, none, none, none, none, none], [.long (-4000000000000000000)], Wd f fl g gl hh v tx)) rfl ?_
        exact WP.ret hP_30 (r := some (.long (-4000000000000000000))) (w' := Wd f fl g gl hh v tx) rfl h22
      · have h23 := h20.2 c21
        refine WP.run hP_30 2 (c' := (98, [some (.ref 35), some (.ref 32), none, none, some (.ref 37), none, some (.int l6), some (.int l7), some (.int l8), some (.int ((((g 34) l8.toNatClampNeg) >>> ((12 : Int32) &&& (31 : Int32))) : Int32)), some (.int (((g 34) l8.toNatClampNeg) &&& (4095 : Int32))), none, none], [.int 1, .int ((((g 34) l8.toNatClampNeg) >>> ((12 : Int32) &&& (31 : Int32))) : Int32)], Wd f fl g gl hh v tx)) rfl ?_
        refine WP.br hP_30 (q := ¬ ((((g 34) l8.toNatClampNeg) >>> ((12 : Int32) &&& (31 : Int32))) : Int32) = 1) (t := 113) (f := 101) (L := [some (.ref 35), some (.ref 32), none, none, some (.ref 37), none, some (.int l6), some (.int l7), some (.int l8), some (.int ((((g 34) l8.toNatClampNeg) >>> ((12 : Int32) &&& (31 : Int32))) : Int32)), some (.int (((g 34) l8.toNatClampNeg) &&& (4095 : Int32))), none, none]) (st := []) (w := Wd f fl g gl hh v tx) rfl (fun c24 => ?_) (fun c24 => ?_)
        · have h25 := h23.1 c24
          exact h25
        · have h26 := h23.2 (Classical.not_not.mp c24)
          refine WP.run hP_30 3 (c' := (106, [some (.ref 35), some (.ref 32), none, none, some (.ref 37), none, some (.int l6), some (.int l7), some (.int l8), some (.int ((((g 34) l8.toNatClampNeg) >>> ((12 : Int32) &&& (31 : Int32))) : Int32)), some (.int (((g 34) l8.toNatClampNeg) &&& (4095 : Int32))), none, none], [.int 11, .int (((g 34) l8.toNatClampNeg) &&& (4095 : Int32))], Wd f fl g gl hh v tx)) rfl ?_
          refine WP.br hP_30 (q := (((g 34) l8.toNatClampNeg) &&& (4095 : Int32)) < 11) (t := 113) (f := 109) (L := [some (.ref 35), some (.ref 32), none, none, some (.ref 37), none, some (.int l6), some (.int l7), some (.int l8), some (.int ((((g 34) l8.toNatClampNeg) >>> ((12 : Int32) &&& (31 : Int32))) : Int32)), some (.int (((g 34) l8.toNatClampNeg) &&& (4095 : Int32))), none, none]) (st := []) (w := Wd f fl g gl hh v tx) rfl (fun c27 => ?_) (fun c27 => ?_)
          · have h28 := h26.1 c27
            exact h28
          · have h29 := h26.2 c27
            refine WP.run hP_30 1 (c' := (112, [none, none, none, none, none, none, none, none, none, none, none, none, none], [.long (-4000000000000000000)], Wd f fl g gl hh v tx)) rfl ?_
            exact WP.ret hP_30 (r := some (.long (-4000000000000000000))) (w' := Wd f fl g gl hh v tx) rfl h29

set_option maxRecDepth 20000 in
theorem b_yma_value_35_32_37_167 (X : mm_X) (d : Nat) (f : Nat → Int32) (fl : Nat → Int64) (g : Nat → Nat → Int32) (gl : Nat → Nat → Int64) (hh : Nat → Nat → Option Nat) (v : Nat → Value) (tx : mm_W) (l6 : Int32) (l7 : Int32) (l8 : Int32) (l9 : Int32) (l10 : Int32)  (P : Option Value → mm_W → Prop)
    (h : ((¬ l9 = 10) → (((l9 ≤ 10) → ((¬ ((l7 - (2 : Int32)) < 0 ∨ 64 ≤ (l7 - (2 : Int32)).toNatClampNeg)) ∧ ((¬ ((l7 - (1 : Int32)) < 0 ∨ 64 ≤ (l7 - (1 : Int32)).toNatClampNeg)) ∧ WP X (d) 31 (0, [some (.int l9), some (.long ((gl 36) (l7 - (2 : Int32)).toNatClampNeg)), none, some (.long ((gl 36) (l7 - (1 : Int32)).toNatClampNeg)), none], [], Wd f fl g gl hh v tx) (fun rv w2 => WP X (d + 1) 30 (308, [some (.ref 35), some (.ref 32), none, none, some (.ref 37), none, some (.int l6), some (.int l7), some (.int l8), some (.int l9), none, none, none], rv.toList ++ [], w2) P)))) ∧
      ((¬ (l9 ≤ 10)) → ((¬ ((l7 - (1 : Int32)) < 0 ∨ 64 ≤ (l7 - (1 : Int32)).toNatClampNeg)) ∧ (((¬ (lg_cmp ((gl 36) (l7 - (1 : Int32)).toNatClampNeg) 1) = 0) → WP X (d + 1) 30 (223, [some (.ref 35), some (.ref 32), none, none, some (.ref 37), none, some (.int l6), some (.int l7), some (.int l8), some (.int l9), some (.int l10), none, none], [.int 0], Wd f fl g gl hh v tx) P) ∧
        (((lg_cmp ((gl 36) (l7 - (1 : Int32)).toNatClampNeg) 1) = 0) → WP X (d + 1) 30 (223, [some (.ref 35), some (.ref 32), none, none, some (.ref 37), none, some (.int l6), some (.int l7), some (.int l8), some (.int l9), some (.int l10), none, none], [.int 1], Wd f fl g gl hh v tx) P)))))) ∧
    ((l9 = 10) → ((¬ ((l7 - (1 : Int32)) < 0 ∨ 64 ≤ (l7 - (1 : Int32)).toNatClampNeg)) ∧ ((¬ ((l7 - (1 : Int32)) < 0 ∨ 64 ≤ (l7 - (1 : Int32)).toNatClampNeg)) ∧ WP X (d + 1) 30 (47, [some (.ref 35), some (.ref 32), none, none, some (.ref 37), none, some (.int l6), some (.int l7), some (.int (l8 + (1 : Int32))), none, none, none, none], [], Wd f fl g (va_up gl 36 (vp_updL (gl 36) ((l7 - (1 : Int32)).toNatClampNeg) ((1 : Int64) - ((gl 36) (l7 - (1 : Int32)).toNatClampNeg)))) hh v tx) P)))) :
    WP X (d + 1) 30 (167, [some (.ref 35), some (.ref 32), none, none, some (.ref 37), none, some (.int l6), some (.int l7), some (.int l8), some (.int l9), some (.int l10), none, none], [], Wd f fl g gl hh v tx) P := by
  refine WP.run hP_30 2 (c' := (171, [some (.ref 35), some (.ref 32), none, none, some (.ref 37), none, some (.int l6), some (.int l7), some (.int l8), some (.int l9), some (.int l10), none, none], [.int 10, .int l9], Wd f fl g gl hh v tx)) rfl ?_
  refine WP.br hP_30 (q := ¬ l9 = 10) (t := 197) (f := 174) (L := [some (.ref 35), some (.ref 32), none, none, some (.ref 37), none, some (.int l6), some (.int l7), some (.int l8), some (.int l9), some (.int l10), none, none]) (st := []) (w := Wd f fl g gl hh v tx) rfl (fun c1 => ?_) (fun c1 => ?_)
  · have h2 := h.1 c1
    refine WP.run hP_30 2 (c' := (201, [some (.ref 35), some (.ref 32), none, none, some (.ref 37), none, some (.int l6), some (.int l7), some (.int l8), some (.int l9), some (.int l10), none, none], [.int 10, .int l9], Wd f fl g gl hh v tx)) rfl ?_
    refine WP.br hP_30 (q := l9 ≤ 10) (t := 285) (f := 204) (L := [some (.ref 35), some (.ref 32), none, none, some (.ref 37), none, some (.int l6), some (.int l7), some (.int l8), some (.int l9), some (.int l10), none, none]) (st := []) (w := Wd f fl g gl hh v tx) rfl (fun c3 => ?_) (fun c3 => ?_)
    · have h4 := h2.1 c3
      refine WP.run hP_30 6 (c' := (295, [some (.ref 35), some (.ref 32), none, none, some (.ref 37), none, some (.int l6), some (.int l7), some (.int l8), some (.int l9), none, none, none], [.int (l7 - (2 : Int32)), .ref 36, .int l9], Wd f fl g gl hh v tx)) rfl ?_
      refine WP.of (fun _ _ => Ex.lald hP_30 rfl (Wa_36 _ _ _ _ _ _ _) h4.1) ?_
      have h5 := h4.2
      refine WP.run hP_30 5 (c' := (304, [some (.ref 35), some (.ref 32), none, none, some (.ref 37), none, some (.int l6), some (.int l7), some (.int l8), some (.int l9), none, none, none], [.int (l7 - (1 : Int32)), .ref 36, .long ((gl 36) (l7 - (2 : Int32)).toNatClampNeg), .int l9], Wd f fl g gl hh v tx)) rfl ?_
      refine WP.of (fun _ _ => Ex.lald hP_30 rfl (Wa_36 _ _ _ _ _ _ _) h5.1) ?_
      have h6 := h5.2
      refine WP.call hP_30 hP_31 (as := [.int l9, .long ((gl 36) (l7 - (2 : Int32)).toNatClampNeg), .long ((gl 36) (l7 - (1 : Int32)).toNatClampNeg)]) (pc' := 308) (L' := [some (.ref 35), some (.ref 32), none, none, some (.ref 37), none, some (.int l6), some (.int l7), some (.int l8), some (.int l9), none, none, none]) (st' := []) (w1 := Wd f fl g gl hh v tx) rfl ⟨Nat.le_of_ble_eq_true rfl, Nat.le_of_ble_eq_true rfl⟩ rfl ?_
      exact h6
    · have h7 := h2.2 c3
      refine WP.run hP_30 5 (c' := (212, [some (.ref 35), some (.ref 32), none, none, some (.ref 37), none, some (.int l6), some (.int l7), some (.int l8), some (.int l9), some (.int l10), none, none], [.int (l7 - (1 : Int32)), .ref 36], Wd f fl g gl hh v tx)) rfl ?_
      refine WP.of (fun _ _ => Ex.lald hP_30 rfl (Wa_36 _ _ _ _ _ _ _) h7.1) ?_
      have h8 := h7.2
      refine WP.run hP_30 2 (c' := (215, [some (.ref 35), some (.ref 32), none, none, some (.ref 37), none, some (.int l6), some (.int l7), some (.int l8), some (.int l9), some (.int l10), none, none], [.int (lg_cmp ((gl 36) (l7 - (1 : Int32)).toNatClampNeg) 1)], Wd f fl g gl hh v tx)) rfl ?_
      refine WP.br hP_30 (q := ¬ (lg_cmp ((gl 36) (l7 - (1 : Int32)).toNatClampNeg) 1) = 0) (t := 222) (f := 218) (L := [some (.ref 35), some (.ref 32), none, none, some (.ref 37), none, some (.int l6), some (.int l7), some (.int l8), some (.int l9), some (.int l10), none, none]) (st := []) (w := Wd f fl g gl hh v tx) rfl (fun c9 => ?_) (fun c9 => ?_)
      · have h10 := h8.1 c9
        refine WP.run hP_30 1 (c' := (223, [some (.ref 35), some (.ref 32), none, none, some (.ref 37), none, some (.int l6), some (.int l7), some (.int l8), some (.int l9), some (.int l10), none, none], [.int 0], Wd f fl g gl hh v tx)) rfl ?_
        exact h10
      · have h11 := h8.2 (Classical.not_not.mp c9)
        refine WP.run hP_30 2 (c' := (223, [some (.ref 35), some (.ref 32), none, none, some (.ref 37), none, some (.int l6), some (.int l7), some (.int l8), some (.int l9), some (.int l10), none, none], [.int 1], Wd f fl g gl hh v tx)) rfl ?_
        exact h11
  · have h12 := h.2 (Classical.not_not.mp c1)
    refine WP.run hP_30 11 (c' := (191, [some (.ref 35), some (.ref 32), none, none, some (.ref 37), none, some (.int l6), some (.int l7), some (.int l8), some (.int l9), some (.int l10), none, none], [.int (l7 - (1 : Int32)), .ref 36, .long 1, .int (l7 - (1 : Int32)), .ref 36], Wd f fl g gl hh v tx)) rfl ?_
    refine WP.of (fun _ _ => Ex.lald hP_30 rfl (Wa_36 _ _ _ _ _ _ _) h12.1) ?_
    have h13 := h12.2
    refine WP.run hP_30 1 (c' := (193, [some (.ref 35), some (.ref 32), none, none, some (.ref 37), none, some (.int l6), some (.int l7), some (.int l8), some (.int l9), some (.int l10), none, none], [.long ((1 : Int64) - ((gl 36) (l7 - (1 : Int32)).toNatClampNeg)), .int (l7 - (1 : Int32)), .ref 36], Wd f fl g gl hh v tx)) rfl ?_
    refine WP.of (fun _ _ => Ex.last hP_30 (w2 := Wd f fl g (va_up gl 36 (vp_updL (gl 36) ((l7 - (1 : Int32)).toNatClampNeg) ((1 : Int64) - ((gl 36) (l7 - (1 : Int32)).toNatClampNeg)))) hh v tx) rfl (Wa_36 _ _ _ _ _ _ _) h13.1 (Ws_36 _ _ _ _ _ _ _ _)) ?_
    have h14 := h13.2
    refine WP.run hP_30 3 (c' := (47, [some (.ref 35), some (.ref 32), none, none, some (.ref 37), none, some (.int l6), some (.int l7), some (.int (l8 + (1 : Int32))), none, none, none, none], [], Wd f fl g (va_up gl 36 (vp_updL (gl 36) ((l7 - (1 : Int32)).toNatClampNeg) ((1 : Int64) - ((gl 36) (l7 - (1 : Int32)).toNatClampNeg)))) hh v tx)) rfl ?_
    exact h14

set_option maxRecDepth 20000 in
theorem b_yma_value_35_32_37_113 (X : mm_X) (d : Nat) (f : Nat → Int32) (fl : Nat → Int64) (g : Nat → Nat → Int32) (gl : Nat → Nat → Int64) (hh : Nat → Nat → Option Nat) (v : Nat → Value) (tx : mm_W) (l6 : Int32) (l7 : Int32) (l8 : Int32) (l9 : Int32) (l10 : Int32)  (P : Option Value → mm_W → Prop)
    (h : ((¬ l9 = 1) → ((¬ (l7 < 0 ∨ 64 ≤ l7.toNatClampNeg)) ∧ WP X (d) 30 (47, [some (.ref 35), some (.ref 32), none, none, some (.ref 37), none, some (.int l6), some (.int (l7 + (1 : Int32))), some (.int (l8 + (1 : Int32))), none, none, none, none], [], Wd f fl g (va_up gl 36 (vp_updL (gl 36) (l7.toNatClampNeg) ((l10 : Int32).toInt64))) hh v tx) P)) ∧
    ((l9 = 1) → ((¬ (l10 < 0 ∨ 11 ≤ l10.toNatClampNeg)) ∧ ((¬ (l7 < 0 ∨ 64 ≤ l7.toNatClampNeg)) ∧ WP X (d) 30 (47, [some (.ref 35), some (.ref 32), none, none, some (.ref 37), none, some (.int l6), some (.int (l7 + (1 : Int32))), some (.int (l8 + (1 : Int32))), none, none, none, none], [], Wd f fl g (va_up gl 36 (vp_updL (gl 36) (l7.toNatClampNeg) ((((g 37) l10.toNatClampNeg) : Int32).toInt64))) hh v tx) P)))) :
    WP X (d) 30 (113, [some (.ref 35), some (.ref 32), none, none, some (.ref 37), none, some (.int l6), some (.int l7), some (.int l8), some (.int l9), some (.int l10), none, none], [], Wd f fl g gl hh v tx) P := by
  refine WP.run hP_30 5 (c' := (122, [some (.ref 35), some (.ref 32), none, none, some (.ref 37), none, some (.int l6), some (.int l7), some (.int l8), some (.int l9), some (.int l10), none, none], [.int 1, .int l9, .int l7, .ref 36], Wd f fl g gl hh v tx)) rfl ?_
  refine WP.br hP_30 (q := ¬ l9 = 1) (t := 134) (f := 125) (L := [some (.ref 35), some (.ref 32), none, none, some (.ref 37), none, some (.int l6), some (.int l7), some (.int l8), some (.int l9), some (.int l10), none, none]) (st := [.int l7, .ref 36]) (w := Wd f fl g gl hh v tx) rfl (fun c1 => ?_) (fun c1 => ?_)
  · have h2 := h.1 c1
    refine WP.run hP_30 2 (c' := (137, [some (.ref 35), some (.ref 32), none, none, some (.ref 37), none, some (.int l6), some (.int l7), some (.int l8), none, some (.int l10), none, none], [.long ((l10 : Int32).toInt64), .int l7, .ref 36], Wd f fl g gl hh v tx)) rfl ?_
    refine WP.of (fun _ _ => Ex.last hP_30 (w2 := Wd f fl g (va_up gl 36 (vp_updL (gl 36) (l7.toNatClampNeg) ((l10 : Int32).toInt64))) hh v tx) rfl (Wa_36 _ _ _ _ _ _ _) h2.1 (Ws_36 _ _ _ _ _ _ _ _)) ?_
    have h3 := h2.2
    refine WP.run hP_30 2 (c' := (346, [some (.ref 35), some (.ref 32), none, none, some (.ref 37), none, some (.int l6), some (.int (l7 + (1 : Int32))), some (.int l8), none, none, none, none], [], Wd f fl g (va_up gl 36 (vp_updL (gl 36) (l7.toNatClampNeg) ((l10 : Int32).toInt64))) hh v tx)) rfl ?_
    refine WP.run hP_30 2 (c' := (47, [some (.ref 35), some (.ref 32), none, none, some (.ref 37), none, some (.int l6), some (.int (l7 + (1 : Int32))), some (.int (l8 + (1 : Int32))), none, none, none, none], [], Wd f fl g (va_up gl 36 (vp_updL (gl 36) (l7.toNatClampNeg) ((l10 : Int32).toInt64))) hh v tx)) rfl ?_
    exact h3
  · have h4 := h.2 (Classical.not_not.mp c1)
    refine WP.run hP_30 2 (c' := (129, [some (.ref 35), some (.ref 32), none, none, some (.ref 37), none, some (.int l6), some (.int l7), some (.int l8), some (.int l9), some (.int l10), none, none], [.int l10, .ref 37, .int l7, .ref 36], Wd f fl g gl hh v tx)) rfl ?_
    refine WP.of (fun _ _ => Ex.iald hP_30 rfl (Wa_37 _ _ _ _ _ _ _) h4.1) ?_
    have h5 := h4.2
    refine WP.run hP_30 2 (c' := (137, [some (.ref 35), some (.ref 32), none, none, some (.ref 37), none, some (.int l6), some (.int l7), some (.int l8), some (.int l9), some (.int l10), none, none], [.long ((((g 37) l10.toNatClampNeg) : Int32).toInt64), .int l7, .ref 36], Wd f fl g gl hh v tx)) rfl ?_
    refine WP.of (fun _ _ => Ex.last hP_30 (w2 := Wd f fl g (va_up gl 36 (vp_updL (gl 36) (l7.toNatClampNeg) ((((g 37) l10.toNatClampNeg) : Int32).toInt64))) hh v tx) rfl (Wa_36 _ _ _ _ _ _ _) h5.1 (Ws_36 _ _ _ _ _ _ _ _)) ?_
    have h6 := h5.2
    refine WP.run hP_30 2 (c' := (346, [some (.ref 35), some (.ref 32), none, none, some (.ref 37), none, some (.int l6), some (.int (l7 + (1 : Int32))), some (.int l8), none, none, none, none], [], Wd f fl g (va_up gl 36 (vp_updL (gl 36) (l7.toNatClampNeg) ((((g 37) l10.toNatClampNeg) : Int32).toInt64))) hh v tx)) rfl ?_
    refine WP.run hP_30 2 (c' := (47, [some (.ref 35), some (.ref 32), none, none, some (.ref 37), none, some (.int l6), some (.int (l7 + (1 : Int32))), some (.int (l8 + (1 : Int32))), none, none, none, none], [], Wd f fl g (va_up gl 36 (vp_updL (gl 36) (l7.toNatClampNeg) ((((g 37) l10.toNatClampNeg) : Int32).toInt64))) hh v tx)) rfl ?_
    exact h6

set_option maxRecDepth 20000 in
theorem b_yma_value_35_32_37_308 (X : mm_X) (d : Nat) (f : Nat → Int32) (fl : Nat → Int64) (g : Nat → Nat → Int32) (gl : Nat → Nat → Int64) (hh : Nat → Nat → Option Nat) (v : Nat → Value) (tx : mm_W) (l6 : Int32) (l7 : Int32) (l8 : Int32) (l9 : Int32) (s0 : Int64)  (P : Option Value → mm_W → Prop)
    (h : ((0 < (lg_cmp s0 1000000000)) → P (some (.long (-4000000000000000000))) (Wd f fl g gl hh v tx)) ∧
    ((¬ (0 < (lg_cmp s0 1000000000))) → (((0 ≤ (lg_cmp s0 (-1000000000))) → ((¬ (((l7 + (-1 : Int32)) - (1 : Int32)) < 0 ∨ 64 ≤ ((l7 + (-1 : Int32)) - (1 : Int32)).toNatClampNeg)) ∧ WP X (d) 30 (47, [some (.ref 35), some (.ref 32), none, none, some (.ref 37), none, some (.int l6), some (.int (l7 + (-1 : Int32))), some (.int (l8 + (1 : Int32))), none, none, none, none], [], Wd f fl g (va_up gl 36 (vp_updL (gl 36) (((l7 + (-1 : Int32)) - (1 : Int32)).toNatClampNeg) s0)) hh v tx) P)) ∧
      ((¬ (0 ≤ (lg_cmp s0 (-1000000000)))) → P (some (.long (-4000000000000000000))) (Wd f fl g gl hh v tx))))) :
    WP X (d) 30 (308, [some (.ref 35), some (.ref 32), none, none, some (.ref 37), none, some (.int l6), some (.int l7), some (.int l8), some (.int l9), none, none, none], [.long s0], Wd f fl g gl hh v tx) P := by
  refine WP.run hP_30 4 (c' := (316, [some (.ref 35), some (.ref 32), none, none, some (.ref 37), none, some (.int l6), some (.int l7), some (.int l8), some (.int l9), none, some (.long s0), none], [.int (lg_cmp s0 1000000000)], Wd f fl g gl hh v tx)) rfl ?_
  refine WP.br hP_30 (q := 0 < (lg_cmp s0 1000000000)) (t := 328) (f := 319) (L := [some (.ref 35), some (.ref 32), none, none, some (.ref 37), none, some (.int l6), some (.int l7), some (.int l8), some (.int l9), none, some (.long s0), none]) (st := []) (w := Wd f fl g gl hh v tx) rfl (fun c1 => ?_) (fun c1 => ?_)
  · have h2 := h.1 c1
    refine WP.run hP_30 1 (c' := (331, [none, none, none, none, none, none, none, none, none, none, none, none, none], [.long (-4000000000000000000)], Wd f fl g gl hh v tx)) rfl ?_
    exact WP.ret hP_30 (r := some (.long (-4000000000000000000))) (w' := Wd f fl g gl hh v tx) rfl h2
  · have h3 := h.2 c1
    refine WP.run hP_30 3 (c' := (325, [some (.ref 35), some (.ref 32), none, none, some (.ref 37), none, some (.int l6), some (.int l7), some (.int l8), some (.int l9), none, some (.long s0), none], [.int (lg_cmp s0 (-1000000000))], Wd f fl g gl hh v tx)) rfl ?_
    refine WP.br hP_30 (q := 0 ≤ (lg_cmp s0 (-1000000000))) (t := 332) (f := 328) (L := [some (.ref 35), some (.ref 32), none, none, some (.ref 37), none, some (.int l6), some (.int l7), some (.int l8), some (.int l9), none, some (.long s0), none]) (st := []) (w := Wd f fl g gl hh v tx) rfl (fun c4 => ?_) (fun c4 => ?_)
    · have h5 := h3.1 c4
      refine WP.run hP_30 7 (c' := (345, [some (.ref 35), some (.ref 32), none, none, some (.ref 37), none, some (.int l6), some (.int (l7 + (-1 : Int32))), some (.int l8), none, none, some (.long s0), none], [.long s0, .int ((l7 + (-1 : Int32)) - (1 : Int32)), .ref 36], Wd f fl g gl hh v tx)) rfl ?_
      refine WP.of (fun _ _ => Ex.last hP_30 (w2 := Wd f fl g (va_up gl 36 (vp_updL (gl 36) (((l7 + (-1 : Int32)) - (1 : Int32)).toNatClampNeg) s0)) hh v tx) rfl (Wa_36 _ _ _ _ _ _ _) h5.1 (Ws_36 _ _ _ _ _ _ _ _)) ?_
      have h6 := h5.2
      refine WP.run hP_30 2 (c' := (47, [some (.ref 35), some (.ref 32), none, none, some (.ref 37), none, some (.int l6), some (.int (l7 + (-1 : Int32))), some (.int (l8 + (1 : Int32))), none, none, none, none], [], Wd f fl g (va_up gl 36 (vp_updL (gl 36) (((l7 + (-1 : Int32)) - (1 : Int32)).toNatClampNeg) s0)) hh v tx)) rfl ?_
      exact h6
    · have h7 := h3.2 c4
      refine WP.run hP_30 1 (c' := (331, [none, none, none, none, none, none, none, none, none, none, none, none, none], [.long (-4000000000000000000)], Wd f fl g gl hh v tx)) rfl ?_
      exact WP.ret hP_30 (r := some (.long (-4000000000000000000))) (w' := Wd f fl g gl hh v tx) rfl h7

set_option maxRecDepth 20000 in
theorem b_yma_value_35_32_37_223 (X : mm_X) (d : Nat) (f : Nat → Int32) (fl : Nat → Int64) (g : Nat → Nat → Int32) (gl : Nat → Nat → Int64) (hh : Nat → Nat → Option Nat) (v : Nat → Value) (tx : mm_W) (l6 : Int32) (l7 : Int32) (l8 : Int32) (l9 : Int32) (l10 : Int32) (s0 : Int32)  (P : Option Value → mm_W → Prop)
    (h : ((¬ l9 = 11) → WP X (d) 30 (235, [some (.ref 35), some (.ref 32), none, none, some (.ref 37), none, some (.int l6), some (.int l7), some (.int l8), none, some (.int l10), none, none], [.int 0, .int s0], Wd f fl g gl hh v tx) P) ∧
    ((l9 = 11) → WP X (d) 30 (235, [some (.ref 35), some (.ref 32), none, none, some (.ref 37), none, some (.int l6), some (.int l7), some (.int l8), none, some (.int l10), none, none], [.int 1, .int s0], Wd f fl g gl hh v tx) P)) :
    WP X (d) 30 (223, [some (.ref 35), some (.ref 32), none, none, some (.ref 37), none, some (.int l6), some (.int l7), some (.int l8), some (.int l9), some (.int l10), none, none], [.int s0], Wd f fl g gl hh v tx) P := by
  refine WP.run hP_30 2 (c' := (227, [some (.ref 35), some (.ref 32), none, none, some (.ref 37), none, some (.int l6), some (.int l7), some (.int l8), some (.int l9), some (.int l10), none, none], [.int 11, .int l9, .int s0], Wd f fl g gl hh v tx)) rfl ?_
  refine WP.br hP_30 (q := ¬ l9 = 11) (t := 234) (f := 230) (L := [some (.ref 35), some (.ref 32), none, none, some (.ref 37), none, some (.int l6), some (.int l7), some (.int l8), some (.int l9), some (.int l10), none, none]) (st := [.int s0]) (w := Wd f fl g gl hh v tx) rfl (fun c1 => ?_) (fun c1 => ?_)
  · have h2 := h.1 c1
    refine WP.run hP_30 1 (c' := (235, [some (.ref 35), some (.ref 32), none, none, some (.ref 37), none, some (.int l6), some (.int l7), some (.int l8), none, some (.int l10), none, none], [.int 0, .int s0], Wd f fl g gl hh v tx)) rfl ?_
    exact h2
  · have h3 := h.2 (Classical.not_not.mp c1)
    refine WP.run hP_30 2 (c' := (235, [some (.ref 35), some (.ref 32), none, none, some (.ref 37), none, some (.int l6), some (.int l7), some (.int l8), some (.int l9), some (.int l10), none, none], [.int 1, .int s0], Wd f fl g gl hh v tx)) rfl ?_
    refine WP.clr hP_30 (pc := 235) rfl ?_
    exact h3

set_option maxRecDepth 20000 in
theorem b_yma_value_35_32_37_235 (X : mm_X) (d : Nat) (f : Nat → Int32) (fl : Nat → Int64) (g : Nat → Nat → Int32) (gl : Nat → Nat → Int64) (hh : Nat → Nat → Option Nat) (v : Nat → Value) (tx : mm_W) (l6 : Int32) (l7 : Int32) (l8 : Int32) (l10 : Int32) (s0 : Int32) (s1 : Int32)  (P : Option Value → mm_W → Prop)
    (h : ((¬ s1 = s0) → WP X (d) 30 (243, [some (.ref 35), some (.ref 32), none, none, some (.ref 37), none, some (.int l6), some (.int l7), some (.int l8), none, some (.int l10), none, none], [.int 0], Wd f fl g gl hh v tx) P) ∧
    ((s1 = s0) → WP X (d) 30 (243, [some (.ref 35), some (.ref 32), none, none, some (.ref 37), none, some (.int l6), some (.int l7), some (.int l8), none, some (.int l10), none, none], [.int 1], Wd f fl g gl hh v tx) P)) :
    WP X (d) 30 (235, [some (.ref 35), some (.ref 32), none, none, some (.ref 37), none, some (.int l6), some (.int l7), some (.int l8), none, some (.int l10), none, none], [.int s0, .int s1], Wd f fl g gl hh v tx) P := by
  refine WP.br hP_30 (q := ¬ s1 = s0) (t := 242) (f := 238) (L := [some (.ref 35), some (.ref 32), none, none, some (.ref 37), none, some (.int l6), some (.int l7), some (.int l8), none, some (.int l10), none, none]) (st := []) (w := Wd f fl g gl hh v tx) rfl (fun c1 => ?_) (fun c1 => ?_)
  · have h2 := h.1 c1
    refine WP.run hP_30 1 (c' := (243, [some (.ref 35), some (.ref 32), none, none, some (.ref 37), none, some (.int l6), some (.int l7), some (.int l8), none, some (.int l10), none, none], [.int 0], Wd f fl g gl hh v tx)) rfl ?_
    exact h2
  · have h3 := h.2 (Classical.not_not.mp c1)
    refine WP.run hP_30 2 (c' := (243, [some (.ref 35), some (.ref 32), none, none, some (.ref 37), none, some (.int l6), some (.int l7), some (.int l8), none, some (.int l10), none, none], [.int 1], Wd f fl g gl hh v tx)) rfl ?_
    exact h3

set_option maxRecDepth 20000 in
theorem b_yma_value_35_32_37_243 (X : mm_X) (d : Nat) (f : Nat → Int32) (fl : Nat → Int64) (g : Nat → Nat → Int32) (gl : Nat → Nat → Int64) (hh : Nat → Nat → Option Nat) (v : Nat → Value) (tx : mm_W) (l6 : Int32) (l7 : Int32) (l8 : Int32) (l10 : Int32) (s0 : Int32)  (P : Option Value → mm_W → Prop)
    (h : ((s0 = 0) → WP X (d) 30 (264, [some (.ref 35), some (.ref 32), none, none, some (.ref 37), none, some (.int l6), some (.int l7), none, none, none, some (.int s0), none], [.int l8], Wd f fl g gl hh v tx) P) ∧
    ((¬ s0 = 0) → WP X (d) 30 (264, [some (.ref 35), some (.ref 32), none, none, some (.ref 37), none, some (.int l6), some (.int l7), none, none, none, some (.int s0), none], [.int (if l8 < (l10 - (1 : Int32)) then (l10 - (1 : Int32)) else l8)], Wd f fl g gl hh v tx) P)) :
    WP X (d) 30 (243, [some (.ref 35), some (.ref 32), none, none, some (.ref 37), none, some (.int l6), some (.int l7), some (.int l8), none, some (.int l10), none, none], [.int s0], Wd f fl g gl hh v tx) P := by
  refine WP.run hP_30 2 (c' := (247, [some (.ref 35), some (.ref 32), none, none, some (.ref 37), none, some (.int l6), some (.int l7), some (.int l8), none, some (.int l10), some (.int s0), none], [.int s0], Wd f fl g gl hh v tx)) rfl ?_
  refine WP.br hP_30 (q := s0 = 0) (t := 262) (f := 250) (L := [some (.ref 35), some (.ref 32), none, none, some (.ref 37), none, some (.int l6), some (.int l7), some (.int l8), none, some (.int l10), some (.int s0), none]) (st := []) (w := Wd f fl g gl hh v tx) rfl (fun c1 => ?_) (fun c1 => ?_)
  · have h2 := h.1 c1
    refine WP.run hP_30 1 (c' := (264, [some (.ref 35), some (.ref 32), none, none, some (.ref 37), none, some (.int l6), some (.int l7), some (.int l8), none, none, some (.int s0), none], [.int l8], Wd f fl g gl hh v tx)) rfl ?_
    refine WP.clr hP_30 (pc := 264) rfl ?_
    exact h2
  · have h3 := h.2 c1
    refine WP.run hP_30 6 (c' := (264, [some (.ref 35), some (.ref 32), none, none, some (.ref 37), none, some (.int l6), some (.int l7), some (.int l8), none, some (.int l10), some (.int s0), none], [.int (if l8 < (l10 - (1 : Int32)) then (l10 - (1 : Int32)) else l8)], Wd f fl g gl hh v tx)) rfl ?_
    refine WP.clr hP_30 (pc := 264) rfl ?_
    exact h3

set_option maxRecDepth 20000 in
theorem b_yma_value_35_32_37_264 (X : mm_X) (d : Nat) (f : Nat → Int32) (fl : Nat → Int64) (g : Nat → Nat → Int32) (gl : Nat → Nat → Int64) (hh : Nat → Nat → Option Nat) (v : Nat → Value) (tx : mm_W) (l6 : Int32) (l7 : Int32) (l11 : Int32) (s0 : Int32)  (P : Option Value → mm_W → Prop)
    (h : ((l11 = 0) → WP X (d) 30 (47, [some (.ref 35), some (.ref 32), none, none, some (.ref 37), none, some (.int l6), some (.int (l7 - (1 : Int32))), some (.int (s0 + (1 : Int32))), none, none, none, none], [], Wd f fl g gl hh v tx) P) ∧
    ((¬ l11 = 0) → WP X (d) 30 (47, [some (.ref 35), some (.ref 32), none, none, some (.ref 37), none, some (.int l6), some (.int l7), some (.int (s0 + (1 : Int32))), none, none, none, none], [], Wd f fl g gl hh v tx) P)) :
    WP X (d) 30 (264, [some (.ref 35), some (.ref 32), none, none, some (.ref 37), none, some (.int l6), some (.int l7), none, none, none, some (.int l11), none], [.int s0], Wd f fl g gl hh v tx) P := by
  refine WP.run hP_30 2 (c' := (268, [some (.ref 35), some (.ref 32), none, none, some (.ref 37), none, some (.int l6), some (.int l7), some (.int s0), none, none, some (.int l11), none], [.int l11], Wd f fl g gl hh v tx)) rfl ?_
  refine WP.br hP_30 (q := l11 = 0) (t := 276) (f := 271) (L := [some (.ref 35), some (.ref 32), none, none, some (.ref 37), none, some (.int l6), some (.int l7), some (.int s0), none, none, some (.int l11), none]) (st := []) (w := Wd f fl g gl hh v tx) rfl (fun c1 => ?_) (fun c1 => ?_)
  · have h2 := h.1 c1
    refine WP.run hP_30 3 (c' := (280, [some (.ref 35), some (.ref 32), none, none, some (.ref 37), none, some (.int l6), some (.int l7), some (.int s0), none, none, none, none], [.int (l7 - (1 : Int32))], Wd f fl g gl hh v tx)) rfl ?_
    refine WP.run hP_30 2 (c' := (346, [some (.ref 35), some (.ref 32), none, none, some (.ref 37), none, some (.int l6), some (.int (l7 - (1 : Int32))), some (.int s0), none, none, none, none], [], Wd f fl g gl hh v tx)) rfl ?_
    refine WP.run hP_30 2 (c' := (47, [some (.ref 35), some (.ref 32), none, none, some (.ref 37), none, some (.int l6), some (.int (l7 - (1 : Int32))), some (.int (s0 + (1 : Int32))), none, none, none, none], [], Wd f fl g gl hh v tx)) rfl ?_
    exact h2
  · have h3 := h.2 c1
    refine WP.run hP_30 4 (c' := (346, [some (.ref 35), some (.ref 32), none, none, some (.ref 37), none, some (.int l6), some (.int l7), some (.int s0), none, none, none, none], [], Wd f fl g gl hh v tx)) rfl ?_
    refine WP.run hP_30 2 (c' := (47, [some (.ref 35), some (.ref 32), none, none, some (.ref 37), none, some (.int l6), some (.int l7), some (.int (s0 + (1 : Int32))), none, none, none, none], [], Wd f fl g gl hh v tx)) rfl ?_
    exact h3

set_option maxRecDepth 20000 in
theorem b_yte_head_L_0 (X : mm_X) (d : Nat) (f : Nat → Int32) (fl : Nat → Int64) (g : Nat → Nat → Int32) (gl : Nat → Nat → Int64) (hh : Nat → Nat → Option Nat) (v : Nat → Value) (tx : mm_W) (p0 : Int32) (p1 : Int32) (t : Nat) (tc : Nat) (th : Nat) (kh : Nat) (nc : Int32) (nz : Int32) (ah : Nat → Int32) (eT : tx[t]? = some (.inr (6, [.int nc, .int nz, .ref (tc + 100), .ref (th + 100)]))) (eH : tx[th]? = some (.inl (0, kh, .inl ah)))  (P : Option Value → mm_W → Prop)
    (h : ((((p0 * (5 : Int32)) + p1) < 0) → P (some (.int 0)) (Wd f fl g gl hh v tx)) ∧
    ((¬ (((p0 * (5 : Int32)) + p1) < 0)) → ((((Int32.ofNat kh) ≤ ((p0 * (5 : Int32)) + p1)) → P (some (.int 0)) (Wd f fl g gl hh v tx)) ∧
      ((¬ ((Int32.ofNat kh) ≤ ((p0 * (5 : Int32)) + p1))) → ((¬ (((p0 * (5 : Int32)) + p1) < 0 ∨ kh ≤ ((p0 * (5 : Int32)) + p1).toNatClampNeg)) ∧ P (some (.int (ah ((p0 * (5 : Int32)) + p1).toNatClampNeg))) (Wd f fl g gl hh v tx)))))) :
    WP X (d) 56 (0, [some (.ref (t + 100)), some (.int p0), some (.int p1), none], [], Wd f fl g gl hh v tx) P := by
  refine WP.run hP_56 7 (c' := (7, [some (.ref (t + 100)), some (.int p0), some (.int p1), some (.int ((p0 * (5 : Int32)) + p1))], [.int ((p0 * (5 : Int32)) + p1)], Wd f fl g gl hh v tx)) rfl ?_
  refine WP.br hP_56 (q := ((p0 * (5 : Int32)) + p1) < 0) (t := 28) (f := 10) (L := [some (.ref (t + 100)), some (.int p0), some (.int p1), some (.int ((p0 * (5 : Int32)) + p1))]) (st := []) (w := Wd f fl g gl hh v tx) rfl (fun c1 => ?_) (fun c1 => ?_)
  · have h2 := h.1 c1
    refine WP.run hP_56 1 (c' := (29, [none, none, none, none], [.int 0], Wd f fl g gl hh v tx)) rfl ?_
    exact WP.retI hP_56 rfl rfl h2
  · have h3 := h.2 c1
    refine WP.run hP_56 2 (c' := (12, [some (.ref (t + 100)), some (.int p0), some (.int p1), some (.int ((p0 * (5 : Int32)) + p1))], [.ref (t + 100), .int ((p0 * (5 : Int32)) + p1)], Wd f fl g gl hh v tx)) rfl ?_
    refine WP.of (fun _ _ => Ex.getf hP_56 rfl eT rfl rfl) ?_
    refine WP.of (fun _ _ => Ex.alen hP_56 rfl eH (by decide)) ?_
    refine WP.br hP_56 (q := (Int32.ofNat kh) ≤ ((p0 * (5 : Int32)) + p1)) (t := 28) (f := 19) (L := [some (.ref (t + 100)), some (.int p0), some (.int p1), some (.int ((p0 * (5 : Int32)) + p1))]) (st := []) (w := Wd f fl g gl hh v tx) rfl (fun c4 => ?_) (fun c4 => ?_)
    · have h5 := h3.1 c4
      refine WP.run hP_56 1 (c' := (29, [none, none, none, none], [.int 0], Wd f fl g gl hh v tx)) rfl ?_
      exact WP.retI hP_56 rfl rfl h5
    · have h6 := h3.2 c4
      refine WP.run hP_56 1 (c' := (20, [some (.ref (t + 100)), some (.int p0), some (.int p1), some (.int ((p0 * (5 : Int32)) + p1))], [.ref (t + 100)], Wd f fl g gl hh v tx)) rfl ?_
      refine WP.of (fun _ _ => Ex.getf hP_56 rfl eT rfl rfl) ?_
      refine WP.run hP_56 1 (c' := (24, [some (.ref (t + 100)), some (.int p0), some (.int p1), some (.int ((p0 * (5 : Int32)) + p1))], [.int ((p0 * (5 : Int32)) + p1), .ref (th + 100)], Wd f fl g gl hh v tx)) rfl ?_
      refine WP.of (fun _ _ => Ex.iald hP_56 rfl eH h6.1) ?_
      have h7 := h6.2
      refine WP.run hP_56 1 (c' := (29, [some (.ref (t + 100)), some (.int p0), some (.int p1), some (.int ((p0 * (5 : Int32)) + p1))], [.int (ah ((p0 * (5 : Int32)) + p1).toNatClampNeg)], Wd f fl g gl hh v tx)) rfl ?_
      exact WP.retI hP_56 rfl rfl h7

set_option maxRecDepth 20000 in
theorem b_yma_value_L_0 (X : mm_X) (d : Nat) (f : Nat → Int32) (fl : Nat → Int64) (g : Nat → Nat → Int32) (gl : Nat → Nat → Int64) (hh : Nat → Nat → Option Nat) (v : Nat → Value) (tx : mm_W) (p0 : Int32) (p1 : Int32) (t : Nat) (tc : Nat) (th : Nat) (nc : Int32) (nz : Int32) (eT : tx[t]? = some (.inr (6, [.int nc, .int nz, .ref (tc + 100), .ref (th + 100)])))  (P : Option Value → mm_W → Prop)
    (h : WP X (d) 56 (0, [some (.ref (t + 100)), some (.int p0), some (.int p1), none], [], Wd f fl g gl hh v tx) (fun rv w2 => WP X (d + 1) 30 (6, [some (.ref 39), some (.ref (t + 100)), some (.int p0), some (.int p1), some (.ref 41), none, none, none, none, none, none, none, none], rv.toList ++ [], w2) P)) :
    WP X (d + 1) 30 (0, [some (.ref 39), some (.ref (t + 100)), some (.int p0), some (.int p1), some (.ref 41), none, none, none, none, none, none, none, none], [], Wd f fl g gl hh v tx) P := by
  refine WP.run hP_30 3 (c' := (3, [some (.ref 39), some (.ref (t + 100)), some (.int p0), some (.int p1), some (.ref 41), none, none, none, none, none, none, none, none], [.int p1, .int p0, .ref (t + 100)], Wd f fl g gl hh v tx)) rfl ?_
  refine WP.callV hP_30 hP_56 (L' := [some (.ref 39), some (.ref (t + 100)), some (.int p0), some (.int p1), some (.ref 41), none, none, none, none, none, none, none, none]) (r := []) (E := [some (.ref (t + 100)), some (.int p0), some (.int p1), none]) rfl rfl rfl eT (Nat.le_of_ble_eq_true rfl) ⟨Nat.le_of_ble_eq_true rfl, Nat.le_of_ble_eq_true rfl⟩ rfl rfl ?_
  exact h

set_option maxRecDepth 20000 in
theorem b_yma_value_L_6 (X : mm_X) (d : Nat) (f : Nat → Int32) (fl : Nat → Int64) (g : Nat → Nat → Int32) (gl : Nat → Nat → Int64) (hh : Nat → Nat → Option Nat) (v : Nat → Value) (tx : mm_W) (l2 : Int32) (l3 : Int32) (s0 : Int32) (t : Nat) (tc : Nat) (th : Nat) (nc : Int32) (nz : Int32) (eT : tx[t]? = some (.inr (6, [.int nc, .int nz, .ref (tc + 100), .ref (th + 100)])))  (P : Option Value → mm_W → Prop)
    (h : WP X (d) 56 (0, [some (.ref (t + 100)), some (.int l2), some (.int (l3 + (1 : Int32))), none], [], Wd f fl g gl hh v tx) (fun rv w2 => WP X (d + 1) 30 (16, [some (.ref 39), some (.ref (t + 100)), some (.int l2), some (.int l3), some (.ref 41), some (.int s0), none, none, none, none, none, none, none], rv.toList ++ [], w2) P)) :
    WP X (d + 1) 30 (6, [some (.ref 39), some (.ref (t + 100)), some (.int l2), some (.int l3), some (.ref 41), none, none, none, none, none, none, none, none], [.int s0], Wd f fl g gl hh v tx) P := by
  refine WP.run hP_30 6 (c' := (13, [some (.ref 39), some (.ref (t + 100)), some (.int l2), some (.int l3), some (.ref 41), some (.int s0), none, none, none, none, none, none, none], [.int (l3 + (1 : Int32)), .int l2, .ref (t + 100)], Wd f fl g gl hh v tx)) rfl ?_
  refine WP.callV hP_30 hP_56 (L' := [some (.ref 39), some (.ref (t + 100)), some (.int l2), some (.int l3), some (.ref 41), some (.int s0), none, none, none, none, none, none, none]) (r := []) (E := [some (.ref (t + 100)), some (.int l2), some (.int (l3 + (1 : Int32))), none]) rfl rfl rfl eT (Nat.le_of_ble_eq_true rfl) ⟨Nat.le_of_ble_eq_true rfl, Nat.le_of_ble_eq_true rfl⟩ rfl rfl ?_
  exact h

set_option maxRecDepth 20000 in
theorem b_yma_value_L_16 (X : mm_X) (d : Nat) (f : Nat → Int32) (fl : Nat → Int64) (g : Nat → Nat → Int32) (gl : Nat → Nat → Int64) (hh : Nat → Nat → Option Nat) (v : Nat → Value) (tx : mm_W) (l2 : Int32) (l3 : Int32) (l5 : Int32) (s0 : Int32) (t : Nat) (tc : Nat) (th : Nat) (kc : Nat) (nc : Int32) (nz : Int32) (ac : Nat → Int32) (eT : tx[t]? = some (.inr (6, [.int nc, .int nz, .ref (tc + 100), .ref (th + 100)]))) (eC : tx[tc]? = some (.inl (0, kc, .inl ac)))  (P : Option Value → mm_W → Prop)
    (h : ((l5 < 0) → P (some (.long 1)) (Wd f fl g gl hh v tx)) ∧
    ((¬ (l5 < 0)) → (((l5 < (if (Int32.ofNat kc) < s0 then (Int32.ofNat kc) else s0)) → WP X (d) 30 (47, [some (.ref 39), some (.ref (t + 100)), none, none, some (.ref 41), none, some (.int (if (Int32.ofNat kc) < s0 then (Int32.ofNat kc) else s0)), some (.int 0), some (.int l5), none, none, none, none], [], Wd f fl g gl hh v tx) P) ∧
      ((¬ (l5 < (if (Int32.ofNat kc) < s0 then (Int32.ofNat kc) else s0))) → P (some (.long 1)) (Wd f fl g gl hh v tx))))) :
    WP X (d) 30 (16, [some (.ref 39), some (.ref (t + 100)), some (.int l2), some (.int l3), some (.ref 41), some (.int l5), none, none, none, none, none, none, none], [.int s0], Wd f fl g gl hh v tx) P := by
  refine WP.run hP_30 1 (c' := (17, [some (.ref 39), some (.ref (t + 100)), some (.int l2), some (.int l3), some (.ref 41), some (.int l5), none, none, none, none, none, none, none], [.ref (t + 100), .int s0], Wd f fl g gl hh v tx)) rfl ?_
  refine WP.of (fun _ _ => Ex.getf hP_30 rfl eT rfl rfl) ?_
  refine WP.of (fun _ _ => Ex.alen hP_30 rfl eC (by decide)) ?_
  refine WP.run hP_30 3 (c' := (28, [some (.ref 39), some (.ref (t + 100)), some (.int l2), some (.int l3), some (.ref 41), some (.int l5), some (.int (if (Int32.ofNat kc) < s0 then (Int32.ofNat kc) else s0)), none, none, none, none, none, none], [.int l5], Wd f fl g gl hh v tx)) rfl ?_
  refine WP.br hP_30 (q := l5 < 0) (t := 38) (f := 31) (L := [some (.ref 39), some (.ref (t + 100)), some (.int l2), some (.int l3), some (.ref 41), some (.int l5), some (.int (if (Int32.ofNat kc) < s0 then (Int32.ofNat kc) else s0)), none, none, none, none, none, none]) (st := []) (w := Wd f fl g gl hh v tx) rfl (fun c1 => ?_) (fun c1 => ?_)
  · have h2 := h.1 c1
    refine WP.run hP_30 1 (c' := (39, [none, none, none, none, none, none, none, none, none, none, none, none, none], [.long 1], Wd f fl g gl hh v tx)) rfl ?_
    exact WP.ret hP_30 (r := some (.long 1)) (w' := Wd f fl g gl hh v tx) rfl h2
  · have h3 := h.2 c1
    refine WP.run hP_30 2 (c' := (35, [some (.ref 39), some (.ref (t + 100)), some (.int l2), some (.int l3), some (.ref 41), some (.int l5), some (.int (if (Int32.ofNat kc) < s0 then (Int32.ofNat kc) else s0)), none, none, none, none, none, none], [.int (if (Int32.ofNat kc) < s0 then (Int32.ofNat kc) else s0), .int l5], Wd f fl g gl hh v tx)) rfl ?_
    refine WP.br hP_30 (q := l5 < (if (Int32.ofNat kc) < s0 then (Int32.ofNat kc) else s0)) (t := 40) (f := 38) (L := [some (.ref 39), some (.ref (t + 100)), some (.int l2), some (.int l3), some (.ref 41), some (.int l5), some (.int (if (Int32.ofNat kc) < s0 then (Int32.ofNat kc) else s0)), none, none, none, none, none, none]) (st := []) (w := Wd f fl g gl hh v tx) rfl (fun c4 => ?_) (fun c4 => ?_)
    · have h5 := h3.1 c4
      refine WP.run hP_30 1 (c' := (41, [some (.ref 39), some (.ref (t + 100)), none, none, some (.ref 41), some (.int l5), some (.int (if (Int32.ofNat kc) < s0 then (Int32.ofNat kc) else s0)), none, none, none, none, none, none], [.int 0], Wd f fl g gl hh v tx)) rfl ?_
      refine WP.run hP_30 2 (c' := (45, [some (.ref 39), some (.ref (t + 100)), none, none, some (.ref 41), some (.int l5), some (.int (if (Int32.ofNat kc) < s0 then (Int32.ofNat kc) else s0)), some (.int 0), none, none, none, none, none], [.int l5], Wd f fl g gl hh v tx)) rfl ?_
      refine WP.run hP_30 1 (c' := (47, [some (.ref 39), some (.ref (t + 100)), none, none, some (.ref 41), some (.int l5), some (.int (if (Int32.ofNat kc) < s0 then (Int32.ofNat kc) else s0)), some (.int 0), some (.int l5), none, none, none, none], [], Wd f fl g gl hh v tx)) rfl ?_
      refine WP.clr hP_30 (pc := 47) rfl ?_
      exact h5
    · have h6 := h3.2 c4
      refine WP.run hP_30 1 (c' := (39, [none, none, none, none, none, none, none, none, none, none, none, none, none], [.long 1], Wd f fl g gl hh v tx)) rfl ?_
      exact WP.ret hP_30 (r := some (.long 1)) (w' := Wd f fl g gl hh v tx) rfl h6

set_option maxRecDepth 20000 in
theorem b_yma_value_L_47 (X : mm_X) (d : Nat) (f : Nat → Int32) (fl : Nat → Int64) (g : Nat → Nat → Int32) (gl : Nat → Nat → Int64) (hh : Nat → Nat → Option Nat) (v : Nat → Value) (tx : mm_W) (l6 : Int32) (l7 : Int32) (l8 : Int32) (t : Nat) (tc : Nat) (th : Nat) (kc : Nat) (nc : Int32) (nz : Int32) (ac : Nat → Int32) (eT : tx[t]? = some (.inr (6, [.int nc, .int nz, .ref (tc + 100), .ref (th + 100)]))) (eC : tx[tc]? = some (.inl (0, kc, .inl ac)))  (P : Option Value → mm_W → Prop)
    (h : ((l6 ≤ l8) → (((¬ l7 = 1) → P (some (.long (-4000000000000000000))) (Wd f fl g gl hh v tx)) ∧
      ((l7 = 1) → P (some (.long ((gl 40) 0))) (Wd f fl g gl hh v tx)))) ∧
    ((¬ (l6 ≤ l8)) → ((¬ (l8 < 0 ∨ kc ≤ l8.toNatClampNeg)) ∧ ((¬ (l8 < 0 ∨ kc ≤ l8.toNatClampNeg)) ∧ (((1 < (((ac l8.toNatClampNeg) >>> ((12 : Int32) &&& (31 : Int32))) : Int32)) → (((l7 < 1) → P (some (.long (-4000000000000000000))) (Wd f fl g gl hh v tx)) ∧
        ((¬ (l7 < 1)) → (((10 ≤ (((ac l8.toNatClampNeg) >>> ((12 : Int32) &&& (31 : Int32))) : Int32)) → WP X (d) 30 (167, [some (.ref 39), some (.ref (t + 100)), none, none, some (.ref 41), none, some (.int l6), some (.int l7), some (.int l8), some (.int (((ac l8.toNatClampNeg) >>> ((12 : Int32) &&& (31 : Int32))) : Int32)), some (.int ((ac l8.toNatClampNeg) &&& (4095 : Int32))), none, none], [], Wd f fl g gl hh v tx) P) ∧
          ((¬ (10 ≤ (((ac l8.toNatClampNeg) >>> ((12 : Int32) &&& (31 : Int32))) : Int32))) → (((2 ≤ l7) → WP X (d) 30 (167, [some (.ref 39), some (.ref (t + 100)), none, none, some (.ref 41), none, some (.int l6), some (.int l7), some (.int l8), some (.int (((ac l8.toNatClampNeg) >>> ((12 : Int32) &&& (31 : Int32))) : Int32)), some (.int ((ac l8.toNatClampNeg) &&& (4095 : Int32))), none, none], [], Wd f fl g gl hh v tx) P) ∧
            ((¬ (2 ≤ l7)) → P (some (.long (-4000000000000000000))) (Wd f fl g gl hh v tx)))))))) ∧
      ((¬ (1 < (((ac l8.toNatClampNeg) >>> ((12 : Int32) &&& (31 : Int32))) : Int32))) → (((64 ≤ l7) → P (some (.long (-4000000000000000000))) (Wd f fl g gl hh v tx)) ∧
        ((¬ (64 ≤ l7)) → (((¬ (((ac l8.toNatClampNeg) >>> ((12 : Int32) &&& (31 : Int32))) : Int32) = 1) → WP X (d) 30 (113, [some (.ref 39), some (.ref (t + 100)), none, none, some (.ref 41), none, some (.int l6), some (.int l7), some (.int l8), some (.int (((ac l8.toNatClampNeg) >>> ((12 : Int32) &&& (31 : Int32))) : Int32)), some (.int ((ac l8.toNatClampNeg) &&& (4095 : Int32))), none, none], [], Wd f fl g gl hh v tx) P) ∧
          (((((ac l8.toNatClampNeg) >>> ((12 : Int32) &&& (31 : Int32))) : Int32) = 1) → (((((ac l8.toNatClampNeg) &&& (4095 : Int32)) < 8) → WP X (d) 30 (113, [some (.ref 39), some (.ref (t + 100)), none, none, some (.ref 41), none, some (.int l6), some (.int l7), some (.int l8), some (.int (((ac l8.toNatClampNeg) >>> ((12 : Int32) &&& (31 : Int32))) : Int32)), some (.int ((ac l8.toNatClampNeg) &&& (4095 : Int32))), none, none], [], Wd f fl g gl hh v tx) P) ∧
            ((¬ (((ac l8.toNatClampNeg) &&& (4095 : Int32)) < 8)) → P (some (.long (-4000000000000000000))) (Wd f fl g gl hh v tx))))))))))))) :
    WP X (d) 30 (47, [some (.ref 39), some (.ref (t + 100)), none, none, some (.ref 41), none, some (.int l6), some (.int l7), some (.int l8), none, none, none, none], [], Wd f fl g gl hh v tx) P := by
  refine WP.run hP_30 2 (c' := (51, [some (.ref 39), some (.ref (t + 100)), none, none, some (.ref 41), none, some (.int l6), some (.int l7), some (.int l8), none, none, none, none], [.int l6, .int l8], Wd f fl g gl hh v tx)) rfl ?_
  refine WP.br hP_30 (q := l6 ≤ l8) (t := 352) (f := 54) (L := [some (.ref 39), some (.ref (t + 100)), none, none, some (.ref 41), none, some (.int l6), some (.int l7), some (.int l8), none, none, none, none]) (st := []) (w := Wd f fl g gl hh v tx) rfl (fun c1 => ?_) (fun c1 => ?_)
  · have h2 := h.1 c1
    refine WP.run hP_30 2 (c' := (355, [some (.ref 39), none, none, none, none, none, none, some (.int l7), none, none, none, none, none], [.int 1, .int l7], Wd f fl g gl hh v tx)) rfl ?_
    refine WP.br hP_30 (q := ¬ l7 = 1) (t := 367) (f := 358) (L := [some (.ref 39), none, none, none, none, none, none, some (.int l7), none, none, none, none, none]) (st := []) (w := Wd f fl g gl hh v tx) rfl (fun c3 => ?_) (fun c3 => ?_)
    · have h4 := h2.1 c3
      refine WP.run hP_30 1 (c' := (370, [none, none, none, none, none, none, none, none, none, none, none, none, none], [.long (-4000000000000000000)], Wd f fl g gl hh v tx)) rfl ?_
      exact WP.ret hP_30 (r := some (.long (-4000000000000000000))) (w' := Wd f fl g gl hh v tx) rfl h4
    · have h5 := h2.2 (Classical.not_not.mp c3)
      refine WP.run hP_30 3 (c' := (363, [some (.ref 39), none, none, none, none, none, none, some (.int l7), none, none, none, none, none], [.int 0, .ref 40], Wd f fl g gl hh v tx)) rfl ?_
      refine WP.of (fun _ _ => Ex.lald hP_30 rfl (Wa_40 _ _ _ _ _ _ _) (by decide)) ?_
      show WP X _ 30 (364, [some (.ref 39), none, none, none, none, none, none, some (.int l7), none, none, none, none, none], [.long ((gl 40) 0)], Wd f fl g gl hh v tx) P
      refine WP.run hP_30 1 (c' := (370, [some (.ref 39), none, none, none, none, none, none, some (.int l7), none, none, none, none, none], [.long ((gl 40) 0)], Wd f fl g gl hh v tx)) rfl ?_
      exact WP.ret hP_30 (r := some (.long ((gl 40) 0))) (w' := Wd f fl g gl hh v tx) rfl h5
  · have h6 := h.2 c1
    refine WP.run hP_30 1 (c' := (55, [some (.ref 39), some (.ref (t + 100)), none, none, some (.ref 41), none, some (.int l6), some (.int l7), some (.int l8), none, none, none, none], [.ref (t + 100)], Wd f fl g gl hh v tx)) rfl ?_
    refine WP.of (fun _ _ => Ex.getf hP_30 rfl eT rfl rfl) ?_
    refine WP.run hP_30 1 (c' := (60, [some (.ref 39), some (.ref (t + 100)), none, none, some (.ref 41), none, some (.int l6), some (.int l7), some (.int l8), none, none, none, none], [.int l8, .ref (tc + 100)], Wd f fl g gl hh v tx)) rfl ?_
    refine WP.of (fun _ _ => Ex.iald hP_30 rfl eC h6.1) ?_
    have h7 := h6.2
    refine WP.run hP_30 4 (c' := (67, [some (.ref 39), some (.ref (t + 100)), none, none, some (.ref 41), none, some (.int l6), some (.int l7), some (.int l8), some (.int (((ac l8.toNatClampNeg) >>> ((12 : Int32) &&& (31 : Int32))) : Int32)), none, none, none], [.ref (t + 100)], Wd f fl g gl hh v tx)) rfl ?_
    refine WP.of (fun _ _ => Ex.getf hP_30 rfl eT rfl rfl) ?_
    refine WP.run hP_30 1 (c' := (72, [some (.ref 39), some (.ref (t + 100)), none, none, some (.ref 41), none, some (.int l6), some (.int l7), some (.int l8), some (.int (((ac l8.toNatClampNeg) >>> ((12 : Int32) &&& (31 : Int32))) : Int32)), none, none, none], [.int l8, .ref (tc + 100)], Wd f fl g gl hh v tx)) rfl ?_
    refine WP.of (fun _ _ => Ex.iald hP_30 rfl eC h7.1) ?_
    have h8 := h7.2
    refine WP.run hP_30 5 (c' := (82, [some (.ref 39), some (.ref (t + 100)), none, none, some (.ref 41), none, some (.int l6), some (.int l7), some (.int l8), some (.int (((ac l8.toNatClampNeg) >>> ((12 : Int32) &&& (31 : Int32))) : Int32)), some (.int ((ac l8.toNatClampNeg) &&& (4095 : Int32))), none, none], [.int 1, .int (((ac l8.toNatClampNeg) >>> ((12 : Int32) &&& (31 : Int32))) : Int32)], Wd f fl g gl hh v tx)) rfl ?_
    refine WP.br hP_30 (q := 1 < (((ac l8.toNatClampNeg) >>> ((12 : Int32) &&& (31 : Int32))) : Int32)) (t := 144) (f := 85) (L := [some (.ref 39), some (.ref (t + 100)), none, none, some (.ref 41), none, some (.int l6), some (.int l7), some (.int l8), some (.int (((ac l8.toNatClampNeg) >>> ((12 : Int32) &&& (31 : Int32))) : Int32)), some (.int ((ac l8.toNatClampNeg) &&& (4095 : Int32))), none, none]) (st := []) (w := Wd f fl g gl hh v tx) rfl (fun c9 => ?_) (fun c9 => ?_)
    · have h10 := h8.1 c9
      refine WP.run hP_30 2 (c' := (147, [some (.ref 39), some (.ref (t + 100)), none, none, some (.ref 41), none, some (.int l6), some (.int l7), some (.int l8), some (.int (((ac l8.toNatClampNeg) >>> ((12 : Int32) &&& (31 : Int32))) : Int32)), some (.int ((ac l8.toNatClampNeg) &&& (4095 : Int32))), none, none], [.int 1, .int l7], Wd f fl g gl hh v tx)) rfl ?_
      refine WP.br hP_30 (q := l7 < 1) (t := 163) (f := 150) (L := [some (.ref 39), some (.ref (t + 100)), none, none, some (.ref 41), none, some (.int l6), some (.int l7), some (.int l8), some (.int (((ac l8.toNatClampNeg) >>> ((12 : Int32) &&& (31 : Int32))) : Int32)), some (.int ((ac l8.toNatClampNeg) &&& (4095 : Int32))), none, none]) (st := []) (w := Wd f fl g gl hh v tx) rfl (fun c11 => ?_) (fun c11 => ?_)
      · have h12 := h10.1 c11
        refine WP.run hP_30 1 (c' := (166, [none, none, none, none, none, none, none, none, none, none, none, none, none], [.long (-4000000000000000000)], Wd f fl g gl hh v tx)) rfl ?_
        exact WP.ret hP_30 (r := some (.long (-4000000000000000000))) (w' := Wd f fl g gl hh v tx) rfl h12
      · have h13 := h10.2 c11
        refine WP.run hP_30 2 (c' := (154, [some (.ref 39), some (.ref (t + 100)), none, none, some (.ref 41), none, some (.int l6), some (.int l7), some (.int l8), some (.int (((ac l8.toNatClampNeg) >>> ((12 : Int32) &&& (31 : Int32))) : Int32)), some (.int ((ac l8.toNatClampNeg) &&& (4095 : Int32))), none, none], [.int 10, .int (((ac l8.toNatClampNeg) >>> ((12 : Int32) &&& (31 : Int32))) : Int32)], Wd f fl g gl hh v tx)) rfl ?_
        refine WP.br hP_30 (q := 10 ≤ (((ac l8.toNatClampNeg) >>> ((12 : Int32) &&& (31 : Int32))) : Int32)) (t := 167) (f := 157) (L := [some (.ref 39), some (.ref (t + 100)), none, none, some (.ref 41), none, some (.int l6), some (.int l7), some (.int l8), some (.int (((ac l8.toNatClampNeg) >>> ((12 : Int32) &&& (31 : Int32))) : Int32)), some (.int ((ac l8.toNatClampNeg) &&& (4095 : Int32))), none, none]) (st := []) (w := Wd f fl g gl hh v tx) rfl (fun c14 => ?_) (fun c14 => ?_)
        · have h15 := h13.1 c14
          exact h15
        · have h16 := h13.2 c14
          refine WP.run hP_30 2 (c' := (160, [some (.ref 39), some (.ref (t + 100)), none, none, some (.ref 41), none, some (.int l6), some (.int l7), some (.int l8), some (.int (((ac l8.toNatClampNeg) >>> ((12 : Int32) &&& (31 : Int32))) : Int32)), some (.int ((ac l8.toNatClampNeg) &&& (4095 : Int32))), none, none], [.int 2, .int l7], Wd f fl g gl hh v tx)) rfl ?_
          refine WP.br hP_30 (q := 2 ≤ l7) (t := 167) (f := 163) (L := [some (.ref 39), some (.ref (t + 100)), none, none, some (.ref 41), none, some (.int l6), some (.int l7), some (.int l8), some (.int (((ac l8.toNatClampNeg) >>> ((12 : Int32) &&& (31 : Int32))) : Int32)), some (.int ((ac l8.toNatClampNeg) &&& (4095 : Int32))), none, none]) (st := []) (w := Wd f fl g gl hh v tx) rfl (fun c17 => ?_) (fun c17 => ?_)
          · have h18 := h16.1 c17
            exact h18
          · have h19 := h16.2 c17
            refine WP.run hP_30 1 (c' := (166, [none, none, none, none, none, none, none, none, none, none, none, none, none], [.long (-4000000000000000000)], Wd f fl g gl hh v tx)) rfl ?_
            exact WP.ret hP_30 (r := some (.long (-4000000000000000000))) (w' := Wd f fl g gl hh v tx) rfl h19
    · have h20 := h8.2 c9
      refine WP.run hP_30 4 (c' := (92, [some (.ref 39), some (.ref (t + 100)), none, none, some (.ref 41), none, some (.int l6), some (.int l7), some (.int l8), some (.int (((ac l8.toNatClampNeg) >>> ((12 : Int32) &&& (31 : Int32))) : Int32)), some (.int ((ac l8.toNatClampNeg) &&& (4095 : Int32))), none, none], [.int 64, .int l7], Wd f fl g gl hh v tx)) rfl ?_
      refine WP.br hP_30 (q := 64 ≤ l7) (t := 109) (f := 95) (L := [some (.ref 39), some (.ref (t + 100)), none, none, some (.ref 41), none, some (.int l6), some (.int l7), some (.int l8), some (.int (((ac l8.toNatClampNeg) >>> ((12 : Int32) &&& (31 : Int32))) : Int32)), some (.int ((ac l8.toNatClampNeg) &&& (4095 : Int32))), none, none]) (st := []) (w := Wd f fl g gl hh v tx) rfl (fun c21 => ?_) (fun c21 => ?_)
      · have h22 := h20.1 c21
        refine WP.run hP_30 1 (c' := (112, [none, none, none, none, none, none, none, none, none, none, none, none, none], [.long (-4000000000000000000)], Wd f fl g gl hh v tx)) rfl ?_
        exact WP.ret hP_30 (r := some (.long (-4000000000000000000))) (w' := Wd f fl g gl hh v tx) rfl h22
      · have h23 := h20.2 c21
        refine WP.run hP_30 2 (c' := (98, [some (.ref 39), some (.ref (t + 100)), none, none, some (.ref 41), none, some (.int l6), some (.int l7), some (.int l8), some (.int (((ac l8.toNatClampNeg) >>> ((12 : Int32) &&& (31 : Int32))) : Int32)), some (.int ((ac l8.toNatClampNeg) &&& (4095 : Int32))), none, none], [.int 1, .int (((ac l8.toNatClampNeg) >>> ((12 : Int32) &&& (31 : Int32))) : Int32)], Wd f fl g gl hh v tx)) rfl ?_
        refine WP.br hP_30 (q := ¬ (((ac l8.toNatClampNeg) >>> ((12 : Int32) &&& (31 : Int32))) : Int32) = 1) (t := 113) (f := 101) (L := [some (.ref 39), some (.ref (t + 100)), none, none, some (.ref 41), none, some (.int l6), some (.int l7), some (.int l8), some (.int (((ac l8.toNatClampNeg) >>> ((12 : Int32) &&& (31 : Int32))) : Int32)), some (.int ((ac l8.toNatClampNeg) &&& (4095 : Int32))), none, none]) (st := []) (w := Wd f fl g gl hh v tx) rfl (fun c24 => ?_) (fun c24 => ?_)
        · have h25 := h23.1 c24
          exact h25
        · have h26 := h23.2 (Classical.not_not.mp c24)
          refine WP.run hP_30 3 (c' := (106, [some (.ref 39), some (.ref (t + 100)), none, none, some (.ref 41), none, some (.int l6), some (.int l7), some (.int l8), some (.int (((ac l8.toNatClampNeg) >>> ((12 : Int32) &&& (31 : Int32))) : Int32)), some (.int ((ac l8.toNatClampNeg) &&& (4095 : Int32))), none, none], [.int 8, .int ((ac l8.toNatClampNeg) &&& (4095 : Int32))], Wd f fl g gl hh v tx)) rfl ?_
          refine WP.br hP_30 (q := ((ac l8.toNatClampNeg) &&& (4095 : Int32)) < 8) (t := 113) (f := 109) (L := [some (.ref 39), some (.ref (t + 100)), none, none, some (.ref 41), none, some (.int l6), some (.int l7), some (.int l8), some (.int (((ac l8.toNatClampNeg) >>> ((12 : Int32) &&& (31 : Int32))) : Int32)), some (.int ((ac l8.toNatClampNeg) &&& (4095 : Int32))), none, none]) (st := []) (w := Wd f fl g gl hh v tx) rfl (fun c27 => ?_) (fun c27 => ?_)
          · have h28 := h26.1 c27
            exact h28
          · have h29 := h26.2 c27
            refine WP.run hP_30 1 (c' := (112, [none, none, none, none, none, none, none, none, none, none, none, none, none], [.long (-4000000000000000000)], Wd f fl g gl hh v tx)) rfl ?_
            exact WP.ret hP_30 (r := some (.long (-4000000000000000000))) (w' := Wd f fl g gl hh v tx) rfl h29

set_option maxRecDepth 20000 in
theorem b_yma_value_L_167 (X : mm_X) (d : Nat) (f : Nat → Int32) (fl : Nat → Int64) (g : Nat → Nat → Int32) (gl : Nat → Nat → Int64) (hh : Nat → Nat → Option Nat) (v : Nat → Value) (tx : mm_W) (l6 : Int32) (l7 : Int32) (l8 : Int32) (l9 : Int32) (l10 : Int32) (t : Nat)  (P : Option Value → mm_W → Prop)
    (h : ((¬ l9 = 10) → (((l9 ≤ 10) → ((¬ ((l7 - (2 : Int32)) < 0 ∨ 64 ≤ (l7 - (2 : Int32)).toNatClampNeg)) ∧ ((¬ ((l7 - (1 : Int32)) < 0 ∨ 64 ≤ (l7 - (1 : Int32)).toNatClampNeg)) ∧ WP X (d) 31 (0, [some (.int l9), some (.long ((gl 40) (l7 - (2 : Int32)).toNatClampNeg)), none, some (.long ((gl 40) (l7 - (1 : Int32)).toNatClampNeg)), none], [], Wd f fl g gl hh v tx) (fun rv w2 => WP X (d + 1) 30 (308, [some (.ref 39), some (.ref (t + 100)), none, none, some (.ref 41), none, some (.int l6), some (.int l7), some (.int l8), some (.int l9), none, none, none], rv.toList ++ [], w2) P)))) ∧
      ((¬ (l9 ≤ 10)) → ((¬ ((l7 - (1 : Int32)) < 0 ∨ 64 ≤ (l7 - (1 : Int32)).toNatClampNeg)) ∧ (((¬ (lg_cmp ((gl 40) (l7 - (1 : Int32)).toNatClampNeg) 1) = 0) → WP X (d + 1) 30 (223, [some (.ref 39), some (.ref (t + 100)), none, none, some (.ref 41), none, some (.int l6), some (.int l7), some (.int l8), some (.int l9), some (.int l10), none, none], [.int 0], Wd f fl g gl hh v tx) P) ∧
        (((lg_cmp ((gl 40) (l7 - (1 : Int32)).toNatClampNeg) 1) = 0) → WP X (d + 1) 30 (223, [some (.ref 39), some (.ref (t + 100)), none, none, some (.ref 41), none, some (.int l6), some (.int l7), some (.int l8), some (.int l9), some (.int l10), none, none], [.int 1], Wd f fl g gl hh v tx) P)))))) ∧
    ((l9 = 10) → ((¬ ((l7 - (1 : Int32)) < 0 ∨ 64 ≤ (l7 - (1 : Int32)).toNatClampNeg)) ∧ ((¬ ((l7 - (1 : Int32)) < 0 ∨ 64 ≤ (l7 - (1 : Int32)).toNatClampNeg)) ∧ WP X (d + 1) 30 (47, [some (.ref 39), some (.ref (t + 100)), none, none, some (.ref 41), none, some (.int l6), some (.int l7), some (.int (l8 + (1 : Int32))), none, none, none, none], [], Wd f fl g (va_up gl 40 (vp_updL (gl 40) ((l7 - (1 : Int32)).toNatClampNeg) ((1 : Int64) - ((gl 40) (l7 - (1 : Int32)).toNatClampNeg)))) hh v tx) P)))) :
    WP X (d + 1) 30 (167, [some (.ref 39), some (.ref (t + 100)), none, none, some (.ref 41), none, some (.int l6), some (.int l7), some (.int l8), some (.int l9), some (.int l10), none, none], [], Wd f fl g gl hh v tx) P := by
  refine WP.run hP_30 2 (c' := (171, [some (.ref 39), some (.ref (t + 100)), none, none, some (.ref 41), none, some (.int l6), some (.int l7), some (.int l8), some (.int l9), some (.int l10), none, none], [.int 10, .int l9], Wd f fl g gl hh v tx)) rfl ?_
  refine WP.br hP_30 (q := ¬ l9 = 10) (t := 197) (f := 174) (L := [some (.ref 39), some (.ref (t + 100)), none, none, some (.ref 41), none, some (.int l6), some (.int l7), some (.int l8), some (.int l9), some (.int l10), none, none]) (st := []) (w := Wd f fl g gl hh v tx) rfl (fun c1 => ?_) (fun c1 => ?_)
  · have h2 := h.1 c1
    refine WP.run hP_30 2 (c' := (201, [some (.ref 39), some (.ref (t + 100)), none, none, some (.ref 41), none, some (.int l6), some (.int l7), some (.int l8), some (.int l9), some (.int l10), none, none], [.int 10, .int l9], Wd f fl g gl hh v tx)) rfl ?_
    refine WP.br hP_30 (q := l9 ≤ 10) (t := 285) (f := 204) (L := [some (.ref 39), some (.ref (t + 100)), none, none, some (.ref 41), none, some (.int l6), some (.int l7), some (.int l8), some (.int l9), some (.int l10), none, none]) (st := []) (w := Wd f fl g gl hh v tx) rfl (fun c3 => ?_) (fun c3 => ?_)
    · have h4 := h2.1 c3
      refine WP.run hP_30 6 (c' := (295, [some (.ref 39), some (.ref (t + 100)), none, none, some (.ref 41), none, some (.int l6), some (.int l7), some (.int l8), some (.int l9), none, none, none], [.int (l7 - (2 : Int32)), .ref 40, .int l9], Wd f fl g gl hh v tx)) rfl ?_
      refine WP.of (fun _ _ => Ex.lald hP_30 rfl (Wa_40 _ _ _ _ _ _ _) h4.1) ?_
      have h5 := h4.2
      refine WP.run hP_30 5 (c' := (304, [some (.ref 39), some (.ref (t + 100)), none, none, some (.ref 41), none, some (.int l6), some (.int l7), some (.int l8), some (.int l9), none, none, none], [.int (l7 - (1 : Int32)), .ref 40, .long ((gl 40) (l7 - (2 : Int32)).toNatClampNeg), .int l9], Wd f fl g gl hh v tx)) rfl ?_
      refine WP.of (fun _ _ => Ex.lald hP_30 rfl (Wa_40 _ _ _ _ _ _ _) h5.1) ?_
      have h6 := h5.2
      refine WP.call hP_30 hP_31 (as := [.int l9, .long ((gl 40) (l7 - (2 : Int32)).toNatClampNeg), .long ((gl 40) (l7 - (1 : Int32)).toNatClampNeg)]) (pc' := 308) (L' := [some (.ref 39), some (.ref (t + 100)), none, none, some (.ref 41), none, some (.int l6), some (.int l7), some (.int l8), some (.int l9), none, none, none]) (st' := []) (w1 := Wd f fl g gl hh v tx) rfl ⟨Nat.le_of_ble_eq_true rfl, Nat.le_of_ble_eq_true rfl⟩ rfl ?_
      exact h6
    · have h7 := h2.2 c3
      refine WP.run hP_30 5 (c' := (212, [some (.ref 39), some (.ref (t + 100)), none, none, some (.ref 41), none, some (.int l6), some (.int l7), some (.int l8), some (.int l9), some (.int l10), none, none], [.int (l7 - (1 : Int32)), .ref 40], Wd f fl g gl hh v tx)) rfl ?_
      refine WP.of (fun _ _ => Ex.lald hP_30 rfl (Wa_40 _ _ _ _ _ _ _) h7.1) ?_
      have h8 := h7.2
      refine WP.run hP_30 2 (c' := (215, [some (.ref 39), some (.ref (t + 100)), none, none, some (.ref 41), none, some (.int l6), some (.int l7), some (.int l8), some (.int l9), some (.int l10), none, none], [.int (lg_cmp ((gl 40) (l7 - (1 : Int32)).toNatClampNeg) 1)], Wd f fl g gl hh v tx)) rfl ?_
      refine WP.br hP_30 (q := ¬ (lg_cmp ((gl 40) (l7 - (1 : Int32)).toNatClampNeg) 1) = 0) (t := 222) (f := 218) (L := [some (.ref 39), some (.ref (t + 100)), none, none, some (.ref 41), none, some (.int l6), some (.int l7), some (.int l8), some (.int l9), some (.int l10), none, none]) (st := []) (w := Wd f fl g gl hh v tx) rfl (fun c9 => ?_) (fun c9 => ?_)
      · have h10 := h8.1 c9
        refine WP.run hP_30 1 (c' := (223, [some (.ref 39), some (.ref (t + 100)), none, none, some (.ref 41), none, some (.int l6), some (.int l7), some (.int l8), some (.int l9), some (.int l10), none, none], [.int 0], Wd f fl g gl hh v tx)) rfl ?_
        exact h10
      · have h11 := h8.2 (Classical.not_not.mp c9)
        refine WP.run hP_30 2 (c' := (223, [some (.ref 39), some (.ref (t + 100)), none, none, some (.ref 41), none, some (.int l6), some (.int l7), some (.int l8), some (.int l9), some (.int l10), none, none], [.int 1], Wd f fl g gl hh v tx)) rfl ?_
        exact h11
  · have h12 := h.2 (Classical.not_not.mp c1)
    refine WP.run hP_30 11 (c' := (191, [some (.ref 39), some (.ref (t + 100)), none, none, some (.ref 41), none, some (.int l6), some (.int l7), some (.int l8), some (.int l9), some (.int l10), none, none], [.int (l7 - (1 : Int32)), .ref 40, .long 1, .int (l7 - (1 : Int32)), .ref 40], Wd f fl g gl hh v tx)) rfl ?_
    refine WP.of (fun _ _ => Ex.lald hP_30 rfl (Wa_40 _ _ _ _ _ _ _) h12.1) ?_
    have h13 := h12.2
    refine WP.run hP_30 1 (c' := (193, [some (.ref 39), some (.ref (t + 100)), none, none, some (.ref 41), none, some (.int l6), some (.int l7), some (.int l8), some (.int l9), some (.int l10), none, none], [.long ((1 : Int64) - ((gl 40) (l7 - (1 : Int32)).toNatClampNeg)), .int (l7 - (1 : Int32)), .ref 40], Wd f fl g gl hh v tx)) rfl ?_
    refine WP.of (fun _ _ => Ex.last hP_30 (w2 := Wd f fl g (va_up gl 40 (vp_updL (gl 40) ((l7 - (1 : Int32)).toNatClampNeg) ((1 : Int64) - ((gl 40) (l7 - (1 : Int32)).toNatClampNeg)))) hh v tx) rfl (Wa_40 _ _ _ _ _ _ _) h13.1 (Ws_40 _ _ _ _ _ _ _ _)) ?_
    have h14 := h13.2
    refine WP.run hP_30 3 (c' := (47, [some (.ref 39), some (.ref (t + 100)), none, none, some (.ref 41), none, some (.int l6), some (.int l7), some (.int (l8 + (1 : Int32))), none, none, none, none], [], Wd f fl g (va_up gl 40 (vp_updL (gl 40) ((l7 - (1 : Int32)).toNatClampNeg) ((1 : Int64) - ((gl 40) (l7 - (1 : Int32)).toNatClampNeg)))) hh v tx)) rfl ?_
    exact h14

set_option maxRecDepth 20000 in
theorem b_yma_value_L_113 (X : mm_X) (d : Nat) (f : Nat → Int32) (fl : Nat → Int64) (g : Nat → Nat → Int32) (gl : Nat → Nat → Int64) (hh : Nat → Nat → Option Nat) (v : Nat → Value) (tx : mm_W) (l6 : Int32) (l7 : Int32) (l8 : Int32) (l9 : Int32) (l10 : Int32) (t : Nat)  (P : Option Value → mm_W → Prop)
    (h : ((¬ l9 = 1) → ((¬ (l7 < 0 ∨ 64 ≤ l7.toNatClampNeg)) ∧ WP X (d) 30 (47, [some (.ref 39), some (.ref (t + 100)), none, none, some (.ref 41), none, some (.int l6), some (.int (l7 + (1 : Int32))), some (.int (l8 + (1 : Int32))), none, none, none, none], [], Wd f fl g (va_up gl 40 (vp_updL (gl 40) (l7.toNatClampNeg) ((l10 : Int32).toInt64))) hh v tx) P)) ∧
    ((l9 = 1) → ((¬ (l10 < 0 ∨ 8 ≤ l10.toNatClampNeg)) ∧ ((¬ (l7 < 0 ∨ 64 ≤ l7.toNatClampNeg)) ∧ WP X (d) 30 (47, [some (.ref 39), some (.ref (t + 100)), none, none, some (.ref 41), none, some (.int l6), some (.int (l7 + (1 : Int32))), some (.int (l8 + (1 : Int32))), none, none, none, none], [], Wd f fl g (va_up gl 40 (vp_updL (gl 40) (l7.toNatClampNeg) ((((g 41) l10.toNatClampNeg) : Int32).toInt64))) hh v tx) P)))) :
    WP X (d) 30 (113, [some (.ref 39), some (.ref (t + 100)), none, none, some (.ref 41), none, some (.int l6), some (.int l7), some (.int l8), some (.int l9), some (.int l10), none, none], [], Wd f fl g gl hh v tx) P := by
  refine WP.run hP_30 5 (c' := (122, [some (.ref 39), some (.ref (t + 100)), none, none, some (.ref 41), none, some (.int l6), some (.int l7), some (.int l8), some (.int l9), some (.int l10), none, none], [.int 1, .int l9, .int l7, .ref 40], Wd f fl g gl hh v tx)) rfl ?_
  refine WP.br hP_30 (q := ¬ l9 = 1) (t := 134) (f := 125) (L := [some (.ref 39), some (.ref (t + 100)), none, none, some (.ref 41), none, some (.int l6), some (.int l7), some (.int l8), some (.int l9), some (.int l10), none, none]) (st := [.int l7, .ref 40]) (w := Wd f fl g gl hh v tx) rfl (fun c1 => ?_) (fun c1 => ?_)
  · have h2 := h.1 c1
    refine WP.run hP_30 2 (c' := (137, [some (.ref 39), some (.ref (t + 100)), none, none, some (.ref 41), none, some (.int l6), some (.int l7), some (.int l8), none, some (.int l10), none, none], [.long ((l10 : Int32).toInt64), .int l7, .ref 40], Wd f fl g gl hh v tx)) rfl ?_
    refine WP.of (fun _ _ => Ex.last hP_30 (w2 := Wd f fl g (va_up gl 40 (vp_updL (gl 40) (l7.toNatClampNeg) ((l10 : Int32).toInt64))) hh v tx) rfl (Wa_40 _ _ _ _ _ _ _) h2.1 (Ws_40 _ _ _ _ _ _ _ _)) ?_
    have h3 := h2.2
    refine WP.run hP_30 2 (c' := (346, [some (.ref 39), some (.ref (t + 100)), none, none, some (.ref 41), none, some (.int l6), some (.int (l7 + (1 : Int32))), some (.int l8), none, none, none, none], [], Wd f fl g (va_up gl 40 (vp_updL (gl 40) (l7.toNatClampNeg) ((l10 : Int32).toInt64))) hh v tx)) rfl ?_
    refine WP.run hP_30 2 (c' := (47, [some (.ref 39), some (.ref (t + 100)), none, none, some (.ref 41), none, some (.int l6), some (.int (l7 + (1 : Int32))), some (.int (l8 + (1 : Int32))), none, none, none, none], [], Wd f fl g (va_up gl 40 (vp_updL (gl 40) (l7.toNatClampNeg) ((l10 : Int32).toInt64))) hh v tx)) rfl ?_
    exact h3
  · have h4 := h.2 (Classical.not_not.mp c1)
    refine WP.run hP_30 2 (c' := (129, [some (.ref 39), some (.ref (t + 100)), none, none, some (.ref 41), none, some (.int l6), some (.int l7), some (.int l8), some (.int l9), some (.int l10), none, none], [.int l10, .ref 41, .int l7, .ref 40], Wd f fl g gl hh v tx)) rfl ?_
    refine WP.of (fun _ _ => Ex.iald hP_30 rfl (Wa_41 _ _ _ _ _ _ _) h4.1) ?_
    have h5 := h4.2
    refine WP.run hP_30 2 (c' := (137, [some (.ref 39), some (.ref (t + 100)), none, none, some (.ref 41), none, some (.int l6), some (.int l7), some (.int l8), some (.int l9), some (.int l10), none, none], [.long ((((g 41) l10.toNatClampNeg) : Int32).toInt64), .int l7, .ref 40], Wd f fl g gl hh v tx)) rfl ?_
    refine WP.of (fun _ _ => Ex.last hP_30 (w2 := Wd f fl g (va_up gl 40 (vp_updL (gl 40) (l7.toNatClampNeg) ((((g 41) l10.toNatClampNeg) : Int32).toInt64))) hh v tx) rfl (Wa_40 _ _ _ _ _ _ _) h5.1 (Ws_40 _ _ _ _ _ _ _ _)) ?_
    have h6 := h5.2
    refine WP.run hP_30 2 (c' := (346, [some (.ref 39), some (.ref (t + 100)), none, none, some (.ref 41), none, some (.int l6), some (.int (l7 + (1 : Int32))), some (.int l8), none, none, none, none], [], Wd f fl g (va_up gl 40 (vp_updL (gl 40) (l7.toNatClampNeg) ((((g 41) l10.toNatClampNeg) : Int32).toInt64))) hh v tx)) rfl ?_
    refine WP.run hP_30 2 (c' := (47, [some (.ref 39), some (.ref (t + 100)), none, none, some (.ref 41), none, some (.int l6), some (.int (l7 + (1 : Int32))), some (.int (l8 + (1 : Int32))), none, none, none, none], [], Wd f fl g (va_up gl 40 (vp_updL (gl 40) (l7.toNatClampNeg) ((((g 41) l10.toNatClampNeg) : Int32).toInt64))) hh v tx)) rfl ?_
    exact h6

set_option maxRecDepth 20000 in
theorem b_yma_value_L_308 (X : mm_X) (d : Nat) (f : Nat → Int32) (fl : Nat → Int64) (g : Nat → Nat → Int32) (gl : Nat → Nat → Int64) (hh : Nat → Nat → Option Nat) (v : Nat → Value) (tx : mm_W) (l6 : Int32) (l7 : Int32) (l8 : Int32) (l9 : Int32) (s0 : Int64) (t : Nat)  (P : Option Value → mm_W → Prop)
    (h : ((0 < (lg_cmp s0 1000000000)) → P (some (.long (-4000000000000000000))) (Wd f fl g gl hh v tx)) ∧
    ((¬ (0 < (lg_cmp s0 1000000000))) → (((0 ≤ (lg_cmp s0 (-1000000000))) → ((¬ (((l7 + (-1 : Int32)) - (1 : Int32)) < 0 ∨ 64 ≤ ((l7 + (-1 : Int32)) - (1 : Int32)).toNatClampNeg)) ∧ WP X (d) 30 (47, [some (.ref 39), some (.ref (t + 100)), none, none, some (.ref 41), none, some (.int l6), some (.int (l7 + (-1 : Int32))), some (.int (l8 + (1 : Int32))), none, none, none, none], [], Wd f fl g (va_up gl 40 (vp_updL (gl 40) (((l7 + (-1 : Int32)) - (1 : Int32)).toNatClampNeg) s0)) hh v tx) P)) ∧
      ((¬ (0 ≤ (lg_cmp s0 (-1000000000)))) → P (some (.long (-4000000000000000000))) (Wd f fl g gl hh v tx))))) :
    WP X (d) 30 (308, [some (.ref 39), some (.ref (t + 100)), none, none, some (.ref 41), none, some (.int l6), some (.int l7), some (.int l8), some (.int l9), none, none, none], [.long s0], Wd f fl g gl hh v tx) P := by
  refine WP.run hP_30 4 (c' := (316, [some (.ref 39), some (.ref (t + 100)), none, none, some (.ref 41), none, some (.int l6), some (.int l7), some (.int l8), some (.int l9), none, some (.long s0), none], [.int (lg_cmp s0 1000000000)], Wd f fl g gl hh v tx)) rfl ?_
  refine WP.br hP_30 (q := 0 < (lg_cmp s0 1000000000)) (t := 328) (f := 319) (L := [some (.ref 39), some (.ref (t + 100)), none, none, some (.ref 41), none, some (.int l6), some (.int l7), some (.int l8), some (.int l9), none, some (.long s0), none]) (st := []) (w := Wd f fl g gl hh v tx) rfl (fun c1 => ?_) (fun c1 => ?_)
  · have h2 := h.1 c1
    refine WP.run hP_30 1 (c' := (331, [none, none, none, none, none, none, none, none, none, none, none, none, none], [.long (-4000000000000000000)], Wd f fl g gl hh v tx)) rfl ?_
    exact WP.ret hP_30 (r := some (.long (-4000000000000000000))) (w' := Wd f fl g gl hh v tx) rfl h2
  · have h3 := h.2 c1
    refine WP.run hP_30 3 (c' := (325, [some (.ref 39), some (.ref (t + 100)), none, none, some (.ref 41), none, some (.int l6), some (.int l7), some (.int l8), some (.int l9), none, some (.long s0), none], [.int (lg_cmp s0 (-1000000000))], Wd f fl g gl hh v tx)) rfl ?_
    refine WP.br hP_30 (q := 0 ≤ (lg_cmp s0 (-1000000000))) (t := 332) (f := 328) (L := [some (.ref 39), some (.ref (t + 100)), none, none, some (.ref 41), none, some (.int l6), some (.int l7), some (.int l8), some (.int l9), none, some (.long s0), none]) (st := []) (w := Wd f fl g gl hh v tx) rfl (fun c4 => ?_) (fun c4 => ?_)
    · have h5 := h3.1 c4
      refine WP.run hP_30 7 (c' := (345, [some (.ref 39), some (.ref (t + 100)), none, none, some (.ref 41), none, some (.int l6), some (.int (l7 + (-1 : Int32))), some (.int l8), none, none, some (.long s0), none], [.long s0, .int ((l7 + (-1 : Int32)) - (1 : Int32)), .ref 40], Wd f fl g gl hh v tx)) rfl ?_
      refine WP.of (fun _ _ => Ex.last hP_30 (w2 := Wd f fl g (va_up gl 40 (vp_updL (gl 40) (((l7 + (-1 : Int32)) - (1 : Int32)).toNatClampNeg) s0)) hh v tx) rfl (Wa_40 _ _ _ _ _ _ _) h5.1 (Ws_40 _ _ _ _ _ _ _ _)) ?_
      have h6 := h5.2
      refine WP.run hP_30 2 (c' := (47, [some (.ref 39), some (.ref (t + 100)), none, none, some (.ref 41), none, some (.int l6), some (.int (l7 + (-1 : Int32))), some (.int (l8 + (1 : Int32))), none, none, none, none], [], Wd f fl g (va_up gl 40 (vp_updL (gl 40) (((l7 + (-1 : Int32)) - (1 : Int32)).toNatClampNeg) s0)) hh v tx)) rfl ?_
      exact h6
    · have h7 := h3.2 c4
      refine WP.run hP_30 1 (c' := (331, [none, none, none, none, none, none, none, none, none, none, none, none, none], [.long (-4000000000000000000)], Wd f fl g gl hh v tx)) rfl ?_
      exact WP.ret hP_30 (r := some (.long (-4000000000000000000))) (w' := Wd f fl g gl hh v tx) rfl h7

set_option maxRecDepth 20000 in
theorem b_yma_value_L_223 (X : mm_X) (d : Nat) (f : Nat → Int32) (fl : Nat → Int64) (g : Nat → Nat → Int32) (gl : Nat → Nat → Int64) (hh : Nat → Nat → Option Nat) (v : Nat → Value) (tx : mm_W) (l6 : Int32) (l7 : Int32) (l8 : Int32) (l9 : Int32) (l10 : Int32) (s0 : Int32) (t : Nat)  (P : Option Value → mm_W → Prop)
    (h : ((¬ l9 = 11) → WP X (d) 30 (235, [some (.ref 39), some (.ref (t + 100)), none, none, some (.ref 41), none, some (.int l6), some (.int l7), some (.int l8), none, some (.int l10), none, none], [.int 0, .int s0], Wd f fl g gl hh v tx) P) ∧
    ((l9 = 11) → WP X (d) 30 (235, [some (.ref 39), some (.ref (t + 100)), none, none, some (.ref 41), none, some (.int l6), some (.int l7), some (.int l8), none, some (.int l10), none, none], [.int 1, .int s0], Wd f fl g gl hh v tx) P)) :
    WP X (d) 30 (223, [some (.ref 39), some (.ref (t + 100)), none, none, some (.ref 41), none, some (.int l6), some (.int l7), some (.int l8), some (.int l9), some (.int l10), none, none], [.int s0], Wd f fl g gl hh v tx) P := by
  refine WP.run hP_30 2 (c' := (227, [some (.ref 39), some (.ref (t + 100)), none, none, some (.ref 41), none, some (.int l6), some (.int l7), some (.int l8), some (.int l9), some (.int l10), none, none], [.int 11, .int l9, .int s0], Wd f fl g gl hh v tx)) rfl ?_
  refine WP.br hP_30 (q := ¬ l9 = 11) (t := 234) (f := 230) (L := [some (.ref 39), some (.ref (t + 100)), none, none, some (.ref 41), none, some (.int l6), some (.int l7), some (.int l8), some (.int l9), some (.int l10), none, none]) (st := [.int s0]) (w := Wd f fl g gl hh v tx) rfl (fun c1 => ?_) (fun c1 => ?_)
  · have h2 := h.1 c1
    refine WP.run hP_30 1 (c' := (235, [some (.ref 39), some (.ref (t + 100)), none, none, some (.ref 41), none, some (.int l6), some (.int l7), some (.int l8), none, some (.int l10), none, none], [.int 0, .int s0], Wd f fl g gl hh v tx)) rfl ?_
    exact h2
  · have h3 := h.2 (Classical.not_not.mp c1)
    refine WP.run hP_30 2 (c' := (235, [some (.ref 39), some (.ref (t + 100)), none, none, some (.ref 41), none, some (.int l6), some (.int l7), some (.int l8), some (.int l9), some (.int l10), none, none], [.int 1, .int s0], Wd f fl g gl hh v tx)) rfl ?_
    refine WP.clr hP_30 (pc := 235) rfl ?_
    exact h3

set_option maxRecDepth 20000 in
theorem b_yma_value_L_235 (X : mm_X) (d : Nat) (f : Nat → Int32) (fl : Nat → Int64) (g : Nat → Nat → Int32) (gl : Nat → Nat → Int64) (hh : Nat → Nat → Option Nat) (v : Nat → Value) (tx : mm_W) (l6 : Int32) (l7 : Int32) (l8 : Int32) (l10 : Int32) (s0 : Int32) (s1 : Int32) (t : Nat)  (P : Option Value → mm_W → Prop)
    (h : ((¬ s1 = s0) → WP X (d) 30 (243, [some (.ref 39), some (.ref (t + 100)), none, none, some (.ref 41), none, some (.int l6), some (.int l7), some (.int l8), none, some (.int l10), none, none], [.int 0], Wd f fl g gl hh v tx) P) ∧
    ((s1 = s0) → WP X (d) 30 (243, [some (.ref 39), some (.ref (t + 100)), none, none, some (.ref 41), none, some (.int l6), some (.int l7), some (.int l8), none, some (.int l10), none, none], [.int 1], Wd f fl g gl hh v tx) P)) :
    WP X (d) 30 (235, [some (.ref 39), some (.ref (t + 100)), none, none, some (.ref 41), none, some (.int l6), some (.int l7), some (.int l8), none, some (.int l10), none, none], [.int s0, .int s1], Wd f fl g gl hh v tx) P := by
  refine WP.br hP_30 (q := ¬ s1 = s0) (t := 242) (f := 238) (L := [some (.ref 39), some (.ref (t + 100)), none, none, some (.ref 41), none, some (.int l6), some (.int l7), some (.int l8), none, some (.int l10), none, none]) (st := []) (w := Wd f fl g gl hh v tx) rfl (fun c1 => ?_) (fun c1 => ?_)
  · have h2 := h.1 c1
    refine WP.run hP_30 1 (c' := (243, [some (.ref 39), some (.ref (t + 100)), none, none, some (.ref 41), none, some (.int l6), some (.int l7), some (.int l8), none, some (.int l10), none, none], [.int 0], Wd f fl g gl hh v tx)) rfl ?_
    exact h2
  · have h3 := h.2 (Classical.not_not.mp c1)
    refine WP.run hP_30 2 (c' := (243, [some (.ref 39), some (.ref (t + 100)), none, none, some (.ref 41), none, some (.int l6), some (.int l7), some (.int l8), none, some (.int l10), none, none], [.int 1], Wd f fl g gl hh v tx)) rfl ?_
    exact h3

set_option maxRecDepth 20000 in
theorem b_yma_value_L_243 (X : mm_X) (d : Nat) (f : Nat → Int32) (fl : Nat → Int64) (g : Nat → Nat → Int32) (gl : Nat → Nat → Int64) (hh : Nat → Nat → Option Nat) (v : Nat → Value) (tx : mm_W) (l6 : Int32) (l7 : Int32) (l8 : Int32) (l10 : Int32) (s0 : Int32) (t : Nat)  (P : Option Value → mm_W → Prop)
    (h : ((s0 = 0) → WP X (d) 30 (264, [some (.ref 39), some (.ref (t + 100)), none, none, some (.ref 41), none, some (.int l6), some (.int l7), none, none, none, some (.int s0), none], [.int l8], Wd f fl g gl hh v tx) P) ∧
    ((¬ s0 = 0) → WP X (d) 30 (264, [some (.ref 39), some (.ref (t + 100)), none, none, some (.ref 41), none, some (.int l6), some (.int l7), none, none, none, some (.int s0), none], [.int (if l8 < (l10 - (1 : Int32)) then (l10 - (1 : Int32)) else l8)], Wd f fl g gl hh v tx) P)) :
    WP X (d) 30 (243, [some (.ref 39), some (.ref (t + 100)), none, none, some (.ref 41), none, some (.int l6), some (.int l7), some (.int l8), none, some (.int l10), none, none], [.int s0], Wd f fl g gl hh v tx) P := by
  refine WP.run hP_30 2 (c' := (247, [some (.ref 39), some (.ref (t + 100)), none, none, some (.ref 41), none, some (.int l6), some (.int l7), some (.int l8), none, some (.int l10), some (.int s0), none], [.int s0], Wd f fl g gl hh v tx)) rfl ?_
  refine WP.br hP_30 (q := s0 = 0) (t := 262) (f := 250) (L := [some (.ref 39), some (.ref (t + 100)), none, none, some (.ref 41), none, some (.int l6), some (.int l7), some (.int l8), none, some (.int l10), some (.int s0), none]) (st := []) (w := Wd f fl g gl hh v tx) rfl (fun c1 => ?_) (fun c1 => ?_)
  · have h2 := h.1 c1
    refine WP.run hP_30 1 (c' := (264, [some (.ref 39), some (.ref (t + 100)), none, none, some (.ref 41), none, some (.int l6), some (.int l7), some (.int l8), none, none, some (.int s0), none], [.int l8], Wd f fl g gl hh v tx)) rfl ?_
    refine WP.clr hP_30 (pc := 264) rfl ?_
    exact h2
  · have h3 := h.2 c1
    refine WP.run hP_30 6 (c' := (264, [some (.ref 39), some (.ref (t + 100)), none, none, some (.ref 41), none, some (.int l6), some (.int l7), some (.int l8), none, some (.int l10), some (.int s0), none], [.int (if l8 < (l10 - (1 : Int32)) then (l10 - (1 : Int32)) else l8)], Wd f fl g gl hh v tx)) rfl ?_
    refine WP.clr hP_30 (pc := 264) rfl ?_
    exact h3

set_option maxRecDepth 20000 in
theorem b_yma_value_L_264 (X : mm_X) (d : Nat) (f : Nat → Int32) (fl : Nat → Int64) (g : Nat → Nat → Int32) (gl : Nat → Nat → Int64) (hh : Nat → Nat → Option Nat) (v : Nat → Value) (tx : mm_W) (l6 : Int32) (l7 : Int32) (l11 : Int32) (s0 : Int32) (t : Nat)  (P : Option Value → mm_W → Prop)
    (h : ((l11 = 0) → WP X (d) 30 (47, [some (.ref 39), some (.ref (t + 100)), none, none, some (.ref 41), none, some (.int l6), some (.int (l7 - (1 : Int32))), some (.int (s0 + (1 : Int32))), none, none, none, none], [], Wd f fl g gl hh v tx) P) ∧
    ((¬ l11 = 0) → WP X (d) 30 (47, [some (.ref 39), some (.ref (t + 100)), none, none, some (.ref 41), none, some (.int l6), some (.int l7), some (.int (s0 + (1 : Int32))), none, none, none, none], [], Wd f fl g gl hh v tx) P)) :
    WP X (d) 30 (264, [some (.ref 39), some (.ref (t + 100)), none, none, some (.ref 41), none, some (.int l6), some (.int l7), none, none, none, some (.int l11), none], [.int s0], Wd f fl g gl hh v tx) P := by
  refine WP.run hP_30 2 (c' := (268, [some (.ref 39), some (.ref (t + 100)), none, none, some (.ref 41), none, some (.int l6), some (.int l7), some (.int s0), none, none, some (.int l11), none], [.int l11], Wd f fl g gl hh v tx)) rfl ?_
  refine WP.br hP_30 (q := l11 = 0) (t := 276) (f := 271) (L := [some (.ref 39), some (.ref (t + 100)), none, none, some (.ref 41), none, some (.int l6), some (.int l7), some (.int s0), none, none, some (.int l11), none]) (st := []) (w := Wd f fl g gl hh v tx) rfl (fun c1 => ?_) (fun c1 => ?_)
  · have h2 := h.1 c1
    refine WP.run hP_30 3 (c' := (280, [some (.ref 39), some (.ref (t + 100)), none, none, some (.ref 41), none, some (.int l6), some (.int l7), some (.int s0), none, none, none, none], [.int (l7 - (1 : Int32))], Wd f fl g gl hh v tx)) rfl ?_
    refine WP.run hP_30 2 (c' := (346, [some (.ref 39), some (.ref (t + 100)), none, none, some (.ref 41), none, some (.int l6), some (.int (l7 - (1 : Int32))), some (.int s0), none, none, none, none], [], Wd f fl g gl hh v tx)) rfl ?_
    refine WP.run hP_30 2 (c' := (47, [some (.ref 39), some (.ref (t + 100)), none, none, some (.ref 41), none, some (.int l6), some (.int (l7 - (1 : Int32))), some (.int (s0 + (1 : Int32))), none, none, none, none], [], Wd f fl g gl hh v tx)) rfl ?_
    exact h2
  · have h3 := h.2 c1
    refine WP.run hP_30 4 (c' := (346, [some (.ref 39), some (.ref (t + 100)), none, none, some (.ref 41), none, some (.int l6), some (.int l7), some (.int s0), none, none, none, none], [], Wd f fl g gl hh v tx)) rfl ?_
    refine WP.run hP_30 2 (c' := (47, [some (.ref 39), some (.ref (t + 100)), none, none, some (.ref 41), none, some (.int l6), some (.int l7), some (.int (s0 + (1 : Int32))), none, none, none, none], [], Wd f fl g gl hh v tx)) rfl ?_
    exact h3

set_option maxRecDepth 20000 in
theorem b_yca_lawTells_L_0 (X : mm_X) (d : Nat) (f : Nat → Int32) (fl : Nat → Int64) (g : Nat → Nat → Int32) (gl : Nat → Nat → Int64) (hh : Nat → Nat → Option Nat) (v : Nat → Value) (tx : mm_W) (p0 : Int32) (p1 : Int32) (t : Nat) (tc : Nat) (th : Nat) (nc : Int32) (nz : Int32) (eT : tx[t]? = some (.inr (6, [.int nc, .int nz, .ref (tc + 100), .ref (th + 100)]))) (e0 : v 2439 = .ref (t + 100)) (P : Option Value → mm_W → Prop)
    (h : WP X (d + 1) 6 (54, [some (.ref 38), some (.int p0), none, some (.int (nc - (1 : Int32))), none, none], [], Wd f fl (va_up (va_up (va_up g 41 (upd (g 41) 3 p1)) 41 (upd (upd (g 41) 3 p1) 4 ((f 2440) / (40 : Int32)))) 41 (upd (upd (upd (g 41) 3 p1) 4 ((f 2440) / (40 : Int32))) 5 ((f 2440) - ((f 2440) / (10 : Int32)) * (10 : Int32)))) gl hh v tx) P) :
    WP X (d + 1) 6 (0, [some (.ref 38), some (.int p0), some (.int p1), none, none, none], [], Wd f fl g gl hh v tx) P := by
  refine WP.run hP_6 2 (c' := (4, [some (.ref 38), some (.int p0), some (.int p1), none, none, none], [(v 2439)], Wd f fl g gl hh v tx)) rfl ?_
  rw [e0]
  refine WP.run hP_6 5 (c' := (17, [some (.ref 38), some (.int p0), some (.int p1), none, none, none], [.int p1, .int 3, .ref 41], Wd f fl g gl hh v tx)) rfl ?_
  refine WP.of (fun _ _ => Ex.iast hP_6 (w2 := Wd f fl (va_up g 41 (upd (g 41) 3 p1)) gl hh v tx) rfl (Wa_41 _ _ _ _ _ _ _) (by decide) (Ws_41 _ _ _ _ _ _ _ _)) ?_
  refine WP.run hP_6 5 (c' := (27, [some (.ref 38), some (.int p0), some (.int p1), none, none, none], [.int (f 2440), .int 4, .ref 41], Wd f fl (va_up g 41 (upd (g 41) 3 p1)) gl hh v tx)) rfl ?_
  refine WP.call hP_6 hP_110 (as := [.int (f 2440)]) (pc' := 30) (L' := [some (.ref 38), some (.int p0), some (.int p1), none, none, none]) (st' := [.int 4, .ref 41]) (w1 := Wd f fl (va_up g 41 (upd (g 41) 3 p1)) gl hh v tx) rfl ⟨Nat.le_of_ble_eq_true rfl, Nat.le_of_ble_eq_true rfl⟩ rfl (b_x_cellOf_0 X (d) f fl (va_up g 41 (upd (g 41) 3 p1)) gl hh v tx (f 2440) _ ?_)
  refine WP.of (fun _ _ => Ex.iast hP_6 (w2 := Wd f fl (va_up (va_up g 41 (upd (g 41) 3 p1)) 41 (upd (upd (g 41) 3 p1) 4 ((f 2440) / (40 : Int32)))) gl hh v tx) rfl (Wa_41 _ _ _ _ _ _ _) (by decide) (Ws_41 _ _ _ _ _ _ _ _)) ?_
  refine WP.run hP_6 5 (c' := (40, [some (.ref 38), some (.int p0), some (.int p1), none, none, none], [.int (f 2440), .int 5, .ref 41], Wd f fl (va_up (va_up g 41 (upd (g 41) 3 p1)) 41 (upd (upd (g 41) 3 p1) 4 ((f 2440) / (40 : Int32)))) gl hh v tx)) rfl ?_
  refine WP.call hP_6 hP_112 (as := [.int (f 2440)]) (pc' := 43) (L' := [some (.ref 38), some (.int p0), some (.int p1), none, none, none]) (st' := [.int 5, .ref 41]) (w1 := Wd f fl (va_up (va_up g 41 (upd (g 41) 3 p1)) 41 (upd (upd (g 41) 3 p1) 4 ((f 2440) / (40 : Int32)))) gl hh v tx) rfl ⟨Nat.le_of_ble_eq_true rfl, Nat.le_of_ble_eq_true rfl⟩ rfl (b_x_powderOf_0 X (d) f fl (va_up (va_up g 41 (upd (g 41) 3 p1)) 41 (upd (upd (g 41) 3 p1) 4 ((f 2440) / (40 : Int32)))) gl hh v tx (f 2440) _ ?_)
  refine WP.of (fun _ _ => Ex.iast hP_6 (w2 := Wd f fl (va_up (va_up (va_up g 41 (upd (g 41) 3 p1)) 41 (upd (upd (g 41) 3 p1) 4 ((f 2440) / (40 : Int32)))) 41 (upd (upd (upd (g 41) 3 p1) 4 ((f 2440) / (40 : Int32))) 5 ((f 2440) - ((f 2440) / (10 : Int32)) * (10 : Int32)))) gl hh v tx) rfl (Wa_41 _ _ _ _ _ _ _) (by decide) (Ws_41 _ _ _ _ _ _ _ _)) ?_
  refine WP.run hP_6 2 (c' := (48, [some (.ref 38), some (.int p0), some (.int p1), none, none, none], [(v 2439)], Wd f fl (va_up (va_up (va_up g 41 (upd (g 41) 3 p1)) 41 (upd (upd (g 41) 3 p1) 4 ((f 2440) / (40 : Int32)))) 41 (upd (upd (upd (g 41) 3 p1) 4 ((f 2440) / (40 : Int32))) 5 ((f 2440) - ((f 2440) / (10 : Int32)) * (10 : Int32)))) gl hh v tx)) rfl ?_
  rw [e0]
  refine WP.of (fun _ _ => Ex.getf hP_6 rfl eT rfl rfl) ?_
  refine WP.run hP_6 3 (c' := (54, [some (.ref 38), some (.int p0), some (.int p1), some (.int (nc - (1 : Int32))), none, none], [], Wd f fl (va_up (va_up (va_up g 41 (upd (g 41) 3 p1)) 41 (upd (upd (g 41) 3 p1) 4 ((f 2440) / (40 : Int32)))) 41 (upd (upd (upd (g 41) 3 p1) 4 ((f 2440) / (40 : Int32))) 5 ((f 2440) - ((f 2440) / (10 : Int32)) * (10 : Int32)))) gl hh v tx)) rfl ?_
  refine WP.clr hP_6 (pc := 54) rfl ?_
  exact h

set_option maxRecDepth 20000 in
theorem b_yca_lawTells_L_54 (X : mm_X) (d : Nat) (f : Nat → Int32) (fl : Nat → Int64) (g : Nat → Nat → Int32) (gl : Nat → Nat → Int64) (hh : Nat → Nat → Option Nat) (v : Nat → Value) (tx : mm_W) (l1 : Int32) (l3 : Int32) (t : Nat) (tc : Nat) (th : Nat) (nc : Int32) (nz : Int32) (eT : tx[t]? = some (.inr (6, [.int nc, .int nz, .ref (tc + 100), .ref (th + 100)]))) (e0 : v 2439 = .ref (t + 100)) (P : Option Value → mm_W → Prop)
    (h : ((l3 < 0) → P (some (.long (-4000000000000000000))) (Wd f fl g gl hh v tx)) ∧
    ((¬ (l3 < 0)) → WP X (d) 56 (0, [some (.ref (t + 100)), some (.int l3), some (.int 0), none], [], Wd f fl g gl hh v tx) (fun rv w2 => WP X (d + 1) 6 (67, [some (.ref 38), some (.int l1), none, some (.int l3), none, none], rv.toList ++ [], w2) P))) :
    WP X (d + 1) 6 (54, [some (.ref 38), some (.int l1), none, some (.int l3), none, none], [], Wd f fl g gl hh v tx) P := by
  refine WP.run hP_6 1 (c' := (55, [some (.ref 38), some (.int l1), none, some (.int l3), none, none], [.int l3], Wd f fl g gl hh v tx)) rfl ?_
  refine WP.br hP_6 (q := l3 < 0) (t := 130) (f := 58) (L := [some (.ref 38), some (.int l1), none, some (.int l3), none, none]) (st := []) (w := Wd f fl g gl hh v tx) rfl (fun c1 => ?_) (fun c1 => ?_)
  · have h2 := h.1 c1
    refine WP.run hP_6 1 (c' := (133, [none, none, none, none, none, none], [.long (-4000000000000000000)], Wd f fl g gl hh v tx)) rfl ?_
    exact WP.ret hP_6 (r := some (.long (-4000000000000000000))) (w' := Wd f fl g gl hh v tx) rfl h2
  · have h3 := h.2 c1
    refine WP.run hP_6 2 (c' := (62, [some (.ref 38), some (.int l1), none, some (.int l3), none, none], [(v 2439)], Wd f fl g gl hh v tx)) rfl ?_
    rw [e0]
    refine WP.run hP_6 2 (c' := (64, [some (.ref 38), some (.int l1), none, some (.int l3), none, none], [.int 0, .int l3, .ref (t + 100)], Wd f fl g gl hh v tx)) rfl ?_
    refine WP.callV hP_6 hP_56 (L' := [some (.ref 38), some (.int l1), none, some (.int l3), none, none]) (r := []) (E := [some (.ref (t + 100)), some (.int l3), some (.int 0), none]) rfl rfl rfl eT (Nat.le_of_ble_eq_true rfl) ⟨Nat.le_of_ble_eq_true rfl, Nat.le_of_ble_eq_true rfl⟩ rfl rfl ?_
    exact h3

set_option maxRecDepth 20000 in
theorem b_yca_lawTells_L_67 (X : mm_X) (d : Nat) (f : Nat → Int32) (fl : Nat → Int64) (g : Nat → Nat → Int32) (gl : Nat → Nat → Int64) (hh : Nat → Nat → Option Nat) (v : Nat → Value) (tx : mm_W) (l1 : Int32) (l3 : Int32) (s0 : Int32) (t : Nat) (e0 : v 2439 = .ref (t + 100)) (P : Option Value → mm_W → Prop)
    (h : ((¬ s0 = l1) → WP X (d + 1) 6 (54, [some (.ref 38), some (.int l1), none, some (.int (l3 + (-1 : Int32))), none, none], [], Wd f fl g gl hh v tx) P) ∧
    ((s0 = l1) → WP X (d) 30 (0, [some (.ref 39), some (.ref (t + 100)), some (.int l3), some (.int 3), some (.ref 41), none, none, none, none, none, none, none, none], [], Wd f fl g gl hh v tx) (fun rv w2 => WP X (d + 1) 6 (88, [some (.ref 38), some (.int l1), none, some (.int l3), none, none], rv.toList ++ [], w2) P))) :
    WP X (d + 1) 6 (67, [some (.ref 38), some (.int l1), none, some (.int l3), none, none], [.int s0], Wd f fl g gl hh v tx) P := by
  refine WP.run hP_6 1 (c' := (68, [some (.ref 38), some (.int l1), none, some (.int l3), none, none], [.int l1, .int s0], Wd f fl g gl hh v tx)) rfl ?_
  refine WP.br hP_6 (q := ¬ s0 = l1) (t := 124) (f := 71) (L := [some (.ref 38), some (.int l1), none, some (.int l3), none, none]) (st := []) (w := Wd f fl g gl hh v tx) rfl (fun c1 => ?_) (fun c1 => ?_)
  · have h2 := h.1 c1
    refine WP.run hP_6 2 (c' := (54, [some (.ref 38), some (.int l1), none, some (.int (l3 + (-1 : Int32))), none, none], [], Wd f fl g gl hh v tx)) rfl ?_
    exact h2
  · have h3 := h.2 (Classical.not_not.mp c1)
    refine WP.run hP_6 4 (c' := (79, [some (.ref 38), some (.int l1), none, some (.int l3), none, none], [(v 2439), .ref 39], Wd f fl g gl hh v tx)) rfl ?_
    rw [e0]
    refine WP.run hP_6 4 (c' := (85, [some (.ref 38), some (.int l1), none, some (.int l3), none, none], [.ref 41, .int 3, .int l3, .ref (t + 100), .ref 39], Wd f fl g gl hh v tx)) rfl ?_
    refine WP.call hP_6 hP_30 (as := [.ref 39, .ref (t + 100), .int l3, .int 3, .ref 41]) (pc' := 88) (L' := [some (.ref 38), some (.int l1), none, some (.int l3), none, none]) (st' := []) (w1 := Wd f fl g gl hh v tx) rfl ⟨Nat.le_of_ble_eq_true rfl, Nat.le_of_ble_eq_true rfl⟩ rfl ?_
    exact h3

set_option maxRecDepth 20000 in
theorem b_yca_lawTells_L_88 (X : mm_X) (d : Nat) (f : Nat → Int32) (fl : Nat → Int64) (g : Nat → Nat → Int32) (gl : Nat → Nat → Int64) (hh : Nat → Nat → Option Nat) (v : Nat → Value) (tx : mm_W) (l1 : Int32) (l3 : Int32) (s0 : Int64) (t : Nat) (e0 : v 2439 = .ref (t + 100)) (P : Option Value → mm_W → Prop)
    (h : ((¬ (lg_cmp s0 1) = 0) → WP X (d + 1) 6 (54, [some (.ref 38), some (.int l1), none, some (.int (l3 + (-1 : Int32))), none, none], [], Wd f fl g gl hh v tx) P) ∧
    (((lg_cmp s0 1) = 0) → WP X (d) 30 (0, [some (.ref 39), some (.ref (t + 100)), some (.int l3), some (.int 2), some (.ref 41), none, none, none, none, none, none, none, none], [], Wd f fl g gl hh v tx) (fun rv w2 => WP X (d + 1) 6 (110, [some (.ref 38), some (.int l1), none, some (.int l3), none, none], rv.toList ++ [], w2) P))) :
    WP X (d + 1) 6 (88, [some (.ref 38), some (.int l1), none, some (.int l3), none, none], [.long s0], Wd f fl g gl hh v tx) P := by
  refine WP.run hP_6 2 (c' := (90, [some (.ref 38), some (.int l1), none, some (.int l3), none, none], [.int (lg_cmp s0 1)], Wd f fl g gl hh v tx)) rfl ?_
  refine WP.br hP_6 (q := ¬ (lg_cmp s0 1) = 0) (t := 124) (f := 93) (L := [some (.ref 38), some (.int l1), none, some (.int l3), none, none]) (st := []) (w := Wd f fl g gl hh v tx) rfl (fun c1 => ?_) (fun c1 => ?_)
  · have h2 := h.1 c1
    refine WP.run hP_6 2 (c' := (54, [some (.ref 38), some (.int l1), none, some (.int (l3 + (-1 : Int32))), none, none], [], Wd f fl g gl hh v tx)) rfl ?_
    exact h2
  · have h3 := h.2 (Classical.not_not.mp c1)
    refine WP.run hP_6 4 (c' := (101, [some (.ref 38), some (.int l1), none, some (.int l3), none, none], [(v 2439), .ref 39], Wd f fl g gl hh v tx)) rfl ?_
    rw [e0]
    refine WP.run hP_6 4 (c' := (107, [some (.ref 38), some (.int l1), none, some (.int l3), none, none], [.ref 41, .int 2, .int l3, .ref (t + 100), .ref 39], Wd f fl g gl hh v tx)) rfl ?_
    refine WP.call hP_6 hP_30 (as := [.ref 39, .ref (t + 100), .int l3, .int 2, .ref 41]) (pc' := 110) (L' := [some (.ref 38), some (.int l1), none, some (.int l3), none, none]) (st' := []) (w1 := Wd f fl g gl hh v tx) rfl ⟨Nat.le_of_ble_eq_true rfl, Nat.le_of_ble_eq_true rfl⟩ rfl ?_
    exact h3

set_option maxRecDepth 20000 in
theorem b_yca_lawTells_L_110 (X : mm_X) (d : Nat) (f : Nat → Int32) (fl : Nat → Int64) (g : Nat → Nat → Int32) (gl : Nat → Nat → Int64) (hh : Nat → Nat → Option Nat) (v : Nat → Value) (tx : mm_W) (l1 : Int32) (l3 : Int32) (s0 : Int64)  (P : Option Value → mm_W → Prop)
    (h : (((lg_cmp s0 (-4000000000000000000)) = 0) → WP X (d) 6 (54, [some (.ref 38), some (.int l1), none, some (.int (l3 + (-1 : Int32))), none, none], [], Wd f fl g gl hh v tx) P) ∧
    ((¬ (lg_cmp s0 (-4000000000000000000)) = 0) → P (some (.long s0)) (Wd f fl g gl hh v tx))) :
    WP X (d) 6 (110, [some (.ref 38), some (.int l1), none, some (.int l3), none, none], [.long s0], Wd f fl g gl hh v tx) P := by
  refine WP.run hP_6 4 (c' := (118, [some (.ref 38), some (.int l1), none, some (.int l3), some (.long s0), none], [.int (lg_cmp s0 (-4000000000000000000))], Wd f fl g gl hh v tx)) rfl ?_
  refine WP.br hP_6 (q := (lg_cmp s0 (-4000000000000000000)) = 0) (t := 124) (f := 121) (L := [some (.ref 38), some (.int l1), none, some (.int l3), some (.long s0), none]) (st := []) (w := Wd f fl g gl hh v tx) rfl (fun c1 => ?_) (fun c1 => ?_)
  · have h2 := h.1 c1
    refine WP.run hP_6 2 (c' := (54, [some (.ref 38), some (.int l1), none, some (.int (l3 + (-1 : Int32))), none, none], [], Wd f fl g gl hh v tx)) rfl ?_
    exact h2
  · have h3 := h.2 c1
    refine WP.run hP_6 1 (c' := (123, [some (.ref 38), some (.int l1), none, some (.int l3), some (.long s0), none], [.long s0], Wd f fl g gl hh v tx)) rfl ?_
    exact WP.ret hP_6 (r := some (.long s0)) (w' := Wd f fl g gl hh v tx) rfl h3

set_option maxRecDepth 20000 in
theorem b_yca_board_1n_0 (X : mm_X) (d : Nat) (f : Nat → Int32) (fl : Nat → Int64) (g : Nat → Nat → Int32) (gl : Nat → Nat → Int64) (hh : Nat → Nat → Option Nat) (v : Nat → Value) (tx : mm_W) (p0 : Int32)  (P : Option Value → mm_W → Prop)
    (h : (¬ (p0 < 0 ∨ 3 ≤ p0.toNatClampNeg)) ∧ P none (Wd (va_up f 2440 ((g 5) p0.toNatClampNeg)) fl (va_up (va_up (va_up g 41 (upd (g 41) 0 p0)) 41 (upd (upd (g 41) 0 p0) 6 ((g 8) 0))) 41 (upd (upd (upd (g 41) 0 p0) 6 ((g 8) 0)) 7 ((g 8) 2))) gl hh (va_up v 2439 (.null)) tx)) :
    WP X (d) 2 (0, [some (.ref 38), some (.ref 1), some (.int p0), some (.null)], [], Wd f fl g gl hh v tx) P := by
  refine WP.run hP_2 7 (c' := (11, [some (.ref 38), some (.ref 1), some (.int p0), some (.null)], [.int p0, .ref 5, .ref 38], Wd f fl g gl hh (va_up v 2439 (.null)) tx)) rfl ?_
  refine WP.of (fun _ _ => Ex.iald hP_2 rfl (Wa_5 _ _ _ _ _ _ _) h.1) ?_
  have h1 := h.2
  refine WP.run hP_2 5 (c' := (21, [some (.ref 38), some (.ref 1), some (.int p0), some (.null)], [.int p0, .int 0, .ref 41], Wd (va_up f 2440 ((g 5) p0.toNatClampNeg)) fl g gl hh (va_up v 2439 (.null)) tx)) rfl ?_
  refine WP.of (fun _ _ => Ex.iast hP_2 (w2 := Wd (va_up f 2440 ((g 5) p0.toNatClampNeg)) fl (va_up g 41 (upd (g 41) 0 p0)) gl hh (va_up v 2439 (.null)) tx) rfl (Wa_41 _ _ _ _ _ _ _) (by decide) (Ws_41 _ _ _ _ _ _ _ _)) ?_
  refine WP.run hP_2 6 (c' := (33, [some (.ref 38), some (.ref 1), some (.int p0), some (.null)], [.int 0, .ref 8, .int 6, .ref 41], Wd (va_up f 2440 ((g 5) p0.toNatClampNeg)) fl (va_up g 41 (upd (g 41) 0 p0)) gl hh (va_up v 2439 (.null)) tx)) rfl ?_
  refine WP.of (fun _ _ => Ex.iald hP_2 rfl (Wa_8 _ _ _ _ _ _ _) (by decide)) ?_
  show WP X _ 2 (34, [some (.ref 38), some (.ref 1), some (.int p0), some (.null)], [.int ((g 8) 0), .int 6, .ref 41], Wd (va_up f 2440 ((g 5) p0.toNatClampNeg)) fl (va_up g 41 (upd (g 41) 0 p0)) gl hh (va_up v 2439 (.null)) tx) P
  refine WP.of (fun _ _ => Ex.iast hP_2 (w2 := Wd (va_up f 2440 ((g 5) p0.toNatClampNeg)) fl (va_up (va_up g 41 (upd (g 41) 0 p0)) 41 (upd (upd (g 41) 0 p0) 6 ((g 8) 0))) gl hh (va_up v 2439 (.null)) tx) rfl (Wa_41 _ _ _ _ _ _ _) (by decide) (Ws_41 _ _ _ _ _ _ _ _)) ?_
  refine WP.run hP_2 6 (c' := (46, [some (.ref 38), some (.ref 1), some (.int p0), some (.null)], [.int 2, .ref 8, .int 7, .ref 41], Wd (va_up f 2440 ((g 5) p0.toNatClampNeg)) fl (va_up (va_up g 41 (upd (g 41) 0 p0)) 41 (upd (upd (g 41) 0 p0) 6 ((g 8) 0))) gl hh (va_up v 2439 (.null)) tx)) rfl ?_
  refine WP.of (fun _ _ => Ex.iald hP_2 rfl (Wa_8 _ _ _ _ _ _ _) (by decide)) ?_
  show WP X _ 2 (47, [some (.ref 38), some (.ref 1), some (.int p0), some (.null)], [.int ((g 8) 2), .int 7, .ref 41], Wd (va_up f 2440 ((g 5) p0.toNatClampNeg)) fl (va_up (va_up g 41 (upd (g 41) 0 p0)) 41 (upd (upd (g 41) 0 p0) 6 ((g 8) 0))) gl hh (va_up v 2439 (.null)) tx) P
  refine WP.of (fun _ _ => Ex.iast hP_2 (w2 := Wd (va_up f 2440 ((g 5) p0.toNatClampNeg)) fl (va_up (va_up (va_up g 41 (upd (g 41) 0 p0)) 41 (upd (upd (g 41) 0 p0) 6 ((g 8) 0))) 41 (upd (upd (upd (g 41) 0 p0) 6 ((g 8) 0)) 7 ((g 8) 2))) gl hh (va_up v 2439 (.null)) tx) rfl (Wa_41 _ _ _ _ _ _ _) (by decide) (Ws_41 _ _ _ _ _ _ _ _)) ?_
  exact WP.ret hP_2 (r := none) (w' := Wd (va_up f 2440 ((g 5) p0.toNatClampNeg)) fl (va_up (va_up (va_up g 41 (upd (g 41) 0 p0)) 41 (upd (upd (g 41) 0 p0) 6 ((g 8) 0))) 41 (upd (upd (upd (g 41) 0 p0) 6 ((g 8) 0)) 7 ((g 8) 2))) gl hh (va_up v 2439 (.null)) tx) rfl h1

set_option maxRecDepth 20000 in
theorem b_yca_weighs_38_1_0 (X : mm_X) (d : Nat) (f : Nat → Int32) (fl : Nat → Int64) (g : Nat → Nat → Int32) (gl : Nat → Nat → Int64) (hh : Nat → Nat → Option Nat) (v : Nat → Value) (tx : mm_W) (p0 : Int32)  (P : Option Value → mm_W → Prop)
    (h : (¬ (p0 < 0 ∨ 8 ≤ p0.toNatClampNeg)) ∧ ((¬ (p0 < 0 ∨ 8 ≤ p0.toNatClampNeg)) ∧ WP X (d) 6 (0, [some (.ref 38), some (.int 0), some (.int ((g 4) p0.toNatClampNeg)), none, none, none], [], Wd f fl (va_up (va_up g 41 (upd (g 41) 1 p0)) 41 (upd (upd (g 41) 1 p0) 2 ((g 3) p0.toNatClampNeg))) gl hh v tx) (fun rv w2 => WP X (d + 1) 3 (30, [some (.ref 38), some (.ref 1), some (.int p0), none, none], rv.toList ++ [], w2) P))) :
    WP X (d + 1) 3 (0, [some (.ref 38), some (.ref 1), some (.int p0), none, none], [], Wd f fl g gl hh v tx) P := by
  refine WP.run hP_3 4 (c' := (6, [some (.ref 38), some (.ref 1), some (.int p0), none, none], [.int p0, .int 1, .ref 41], Wd f fl g gl hh v tx)) rfl ?_
  refine WP.of (fun _ _ => Ex.iast hP_3 (w2 := Wd f fl (va_up g 41 (upd (g 41) 1 p0)) gl hh v tx) rfl (Wa_41 _ _ _ _ _ _ _) (by decide) (Ws_41 _ _ _ _ _ _ _ _)) ?_
  refine WP.run hP_3 6 (c' := (17, [some (.ref 38), some (.ref 1), some (.int p0), none, none], [.int p0, .ref 3, .int 2, .ref 41], Wd f fl (va_up g 41 (upd (g 41) 1 p0)) gl hh v tx)) rfl ?_
  refine WP.of (fun _ _ => Ex.iald hP_3 rfl (Wa_3 _ _ _ _ _ _ _) h.1) ?_
  have h1 := h.2
  refine WP.of (fun _ _ => Ex.iast hP_3 (w2 := Wd f fl (va_up (va_up g 41 (upd (g 41) 1 p0)) 41 (upd (upd (g 41) 1 p0) 2 ((g 3) p0.toNatClampNeg))) gl hh v tx) rfl (Wa_41 _ _ _ _ _ _ _) (by decide) (Ws_41 _ _ _ _ _ _ _ _)) ?_
  refine WP.run hP_3 5 (c' := (26, [some (.ref 38), some (.ref 1), some (.int p0), none, none], [.int p0, .ref 4, .int 0, .ref 38], Wd f fl (va_up (va_up g 41 (upd (g 41) 1 p0)) 41 (upd (upd (g 41) 1 p0) 2 ((g 3) p0.toNatClampNeg))) gl hh v tx)) rfl ?_
  refine WP.of (fun _ _ => Ex.iald hP_3 rfl (Wa_4 _ _ _ _ _ _ _) h1.1) ?_
  have h2 := h1.2
  refine WP.call hP_3 hP_6 (as := [.ref 38, .int 0, .int ((g 4) p0.toNatClampNeg)]) (pc' := 30) (L' := [some (.ref 38), some (.ref 1), some (.int p0), none, none]) (st' := []) (w1 := Wd f fl (va_up (va_up g 41 (upd (g 41) 1 p0)) 41 (upd (upd (g 41) 1 p0) 2 ((g 3) p0.toNatClampNeg))) gl hh v tx) rfl ⟨Nat.le_of_ble_eq_true rfl, Nat.le_of_ble_eq_true rfl⟩ rfl ?_
  exact h2

set_option maxRecDepth 20000 in
theorem b_yca_weighs_38_1_30 (X : mm_X) (d : Nat) (f : Nat → Int32) (fl : Nat → Int64) (g : Nat → Nat → Int32) (gl : Nat → Nat → Int64) (hh : Nat → Nat → Option Nat) (v : Nat → Value) (tx : mm_W) (l2 : Int32) (s0 : Int64)  (P : Option Value → mm_W → Prop)
    (h : ((¬ (lg_cmp s0 (-4000000000000000000)) = 0) → P (some (.int (((if (if s0 < 99 then s0 else 99) < 0 then 0 else (if s0 < 99 then s0 else 99)) : Int64).toInt32))) (Wd f fl g gl hh v tx)) ∧
    (((lg_cmp s0 (-4000000000000000000)) = 0) → ((¬ (l2 < 0 ∨ 8 ≤ l2.toNatClampNeg)) ∧ P (some (.int ((g 3) l2.toNatClampNeg))) (Wd f fl g gl hh v tx)))) :
    WP X (d) 3 (30, [some (.ref 38), some (.ref 1), some (.int l2), none, none], [.long s0], Wd f fl g gl hh v tx) P := by
  refine WP.run hP_3 4 (c' := (36, [some (.ref 38), some (.ref 1), some (.int l2), some (.long s0), none], [.int (lg_cmp s0 (-4000000000000000000))], Wd f fl g gl hh v tx)) rfl ?_
  refine WP.br hP_3 (q := ¬ (lg_cmp s0 (-4000000000000000000)) = 0) (t := 48) (f := 39) (L := [some (.ref 38), some (.ref 1), some (.int l2), some (.long s0), none]) (st := []) (w := Wd f fl g gl hh v tx) rfl (fun c1 => ?_) (fun c1 => ?_)
  · have h2 := h.1 c1
    refine WP.run hP_3 6 (c' := (60, [none, none, none, some (.long s0), none], [.int (((if (if s0 < 99 then s0 else 99) < 0 then 0 else (if s0 < 99 then s0 else 99)) : Int64).toInt32)], Wd f fl g gl hh v tx)) rfl ?_
    exact WP.retI hP_3 rfl rfl h2
  · have h3 := h.2 (Classical.not_not.mp c1)
    refine WP.run hP_3 3 (c' := (44, [some (.ref 38), some (.ref 1), some (.int l2), some (.long s0), none], [.int l2, .ref 3], Wd f fl g gl hh v tx)) rfl ?_
    refine WP.of (fun _ _ => Ex.iald hP_3 rfl (Wa_3 _ _ _ _ _ _ _) h3.1) ?_
    have h4 := h3.2
    refine WP.run hP_3 1 (c' := (60, [some (.ref 38), some (.ref 1), some (.int l2), some (.long s0), none], [.int ((g 3) l2.toNatClampNeg)], Wd f fl g gl hh v tx)) rfl ?_
    exact WP.retI hP_3 rfl rfl h4

set_option maxRecDepth 20000 in
theorem b_yca_choose_1n_0 (X : mm_X) (d : Nat) (f : Nat → Int32) (fl : Nat → Int64) (g : Nat → Nat → Int32) (gl : Nat → Nat → Int64) (hh : Nat → Nat → Option Nat) (v : Nat → Value) (tx : mm_W) (p0 : Int32)  (P : Option Value → mm_W → Prop)
    (h : WP X (d) 2 (0, [some (.ref 38), some (.ref 1), some (.int p0), some (.null)], [], Wd f fl g gl hh v tx) (fun rv w2 => WP X (d + 1) 7 (7, [some (.ref 38), some (.ref 1), some (.int p0), some (.null), none], rv.toList ++ [], w2) P)) :
    WP X (d + 1) 7 (0, [some (.ref 38), some (.ref 1), some (.int p0), some (.null), none], [], Wd f fl g gl hh v tx) P := by
  refine WP.run hP_7 4 (c' := (4, [some (.ref 38), some (.ref 1), some (.int p0), some (.null), none], [.null, .int p0, .ref 1, .ref 38], Wd f fl g gl hh v tx)) rfl ?_
  refine WP.call hP_7 hP_2 (as := [.ref 38, .ref 1, .int p0, .null]) (pc' := 7) (L' := [some (.ref 38), some (.ref 1), some (.int p0), some (.null), none]) (st' := []) (w1 := Wd f fl g gl hh v tx) rfl ⟨Nat.le_of_ble_eq_true rfl, Nat.le_of_ble_eq_true rfl⟩ rfl ?_
  exact h

set_option maxRecDepth 20000 in
theorem b_yca_choose_1n_7 (X : mm_X) (d : Nat) (f : Nat → Int32) (fl : Nat → Int64) (g : Nat → Nat → Int32) (gl : Nat → Nat → Int64) (hh : Nat → Nat → Option Nat) (v : Nat → Value) (tx : mm_W) (l2 : Int32)  (P : Option Value → mm_W → Prop)
    (h : WP X (d) 7 (10, [some (.ref 38), some (.ref 1), none, none, some (.int 0)], [], Wd f fl g gl hh v tx) P) :
    WP X (d) 7 (7, [some (.ref 38), some (.ref 1), some (.int l2), some (.null), none], [], Wd f fl g gl hh v tx) P := by
  refine WP.run hP_7 2 (c' := (10, [some (.ref 38), some (.ref 1), some (.int l2), some (.null), some (.int 0)], [], Wd f fl g gl hh v tx)) rfl ?_
  refine WP.clr hP_7 (pc := 10) rfl ?_
  exact h

set_option maxRecDepth 20000 in
theorem b_yca_choose_1n_10 (X : mm_X) (d : Nat) (f : Nat → Int32) (fl : Nat → Int64) (g : Nat → Nat → Int32) (gl : Nat → Nat → Int64) (hh : Nat → Nat → Option Nat) (v : Nat → Value) (tx : mm_W) (l4 : Int32)  (P : Option Value → mm_W → Prop)
    (h : (((f 64) ≤ l4) → WP X (d) 8 (0, [some (.ref 38), some (.ref 1), some (.int 0), none, none, none], [], Wd f fl g gl hh v tx) (fun rv w2 => WP X (d + 1) 7 (45, [some (.ref 38), some (.ref 1), none, none, none], rv.toList ++ [], w2) P)) ∧
    ((¬ ((f 64) ≤ l4)) → WP X (d) 3 (0, [some (.ref 38), some (.ref 1), some (.int l4), none, none], [], Wd f fl g gl hh v tx) (fun rv w2 => WP X (d + 1) 7 (32, [some (.ref 38), some (.ref 1), none, none, some (.int l4)], rv.toList ++ [.int l4, .ref 42], w2) P))) :
    WP X (d + 1) 7 (10, [some (.ref 38), some (.ref 1), none, none, some (.int l4)], [], Wd f fl g gl hh v tx) P := by
  refine WP.run hP_7 3 (c' := (16, [some (.ref 38), some (.ref 1), none, none, some (.int l4)], [.int (f 64), .int l4], Wd f fl g gl hh v tx)) rfl ?_
  refine WP.br hP_7 (q := (f 64) ≤ l4) (t := 39) (f := 19) (L := [some (.ref 38), some (.ref 1), none, none, some (.int l4)]) (st := []) (w := Wd f fl g gl hh v tx) rfl (fun c1 => ?_) (fun c1 => ?_)
  · have h2 := h.1 c1
    refine WP.run hP_7 3 (c' := (42, [some (.ref 38), some (.ref 1), none, none, none], [.int 0, .ref 1, .ref 38], Wd f fl g gl hh v tx)) rfl ?_
    refine WP.call hP_7 hP_8 (as := [.ref 38, .ref 1, .int 0]) (pc' := 45) (L' := [some (.ref 38), some (.ref 1), none, none, none]) (st' := []) (w1 := Wd f fl g gl hh v tx) rfl ⟨Nat.le_of_ble_eq_true rfl, Nat.le_of_ble_eq_true rfl⟩ rfl ?_
    exact h2
  · have h3 := h.2 c1
    refine WP.run hP_7 6 (c' := (29, [some (.ref 38), some (.ref 1), none, none, some (.int l4)], [.int l4, .ref 1, .ref 38, .int l4, .ref 42], Wd f fl g gl hh v tx)) rfl ?_
    refine WP.call hP_7 hP_3 (as := [.ref 38, .ref 1, .int l4]) (pc' := 32) (L' := [some (.ref 38), some (.ref 1), none, none, some (.int l4)]) (st' := [.int l4, .ref 42]) (w1 := Wd f fl g gl hh v tx) rfl ⟨Nat.le_of_ble_eq_true rfl, Nat.le_of_ble_eq_true rfl⟩ rfl ?_
    exact h3

set_option maxRecDepth 20000 in
theorem b_yca_choose_1n_45 (X : mm_X) (d : Nat) (f : Nat → Int32) (fl : Nat → Int64) (g : Nat → Nat → Int32) (gl : Nat → Nat → Int64) (hh : Nat → Nat → Option Nat) (v : Nat → Value) (tx : mm_W) (s0 : Int32)  (P : Option Value → mm_W → Prop)
    (h : (s0 = 0 ∨ s0 = 1) ∧ P (some (.int s0)) (Wd f fl g gl hh v tx)) :
    WP X (d) 7 (45, [some (.ref 38), some (.ref 1), none, none, none], [.int s0], Wd f fl g gl hh v tx) P := by
  exact WP.retZ hP_7 rfl rfl h.1 h.2

set_option maxRecDepth 20000 in
theorem b_yca_choose_1n_32 (X : mm_X) (d : Nat) (f : Nat → Int32) (fl : Nat → Int64) (g : Nat → Nat → Int32) (gl : Nat → Nat → Int64) (hh : Nat → Nat → Option Nat) (v : Nat → Value) (tx : mm_W) (l4 : Int32) (s0 : Int32) (s1 : Int32)  (P : Option Value → mm_W → Prop)
    (h : (¬ (s1 < 0 ∨ 8 ≤ s1.toNatClampNeg)) ∧ WP X (d) 7 (10, [some (.ref 38), some (.ref 1), none, none, some (.int (l4 + (1 : Int32)))], [], Wd f fl (va_up g 42 (upd (g 42) (s1.toNatClampNeg) s0)) gl hh v tx) P) :
    WP X (d) 7 (32, [some (.ref 38), some (.ref 1), none, none, some (.int l4)], [.int s0, .int s1, .ref 42], Wd f fl g gl hh v tx) P := by
  refine WP.of (fun _ _ => Ex.iast hP_7 (w2 := Wd f fl (va_up g 42 (upd (g 42) (s1.toNatClampNeg) s0)) gl hh v tx) rfl (Wa_42 _ _ _ _ _ _ _) h.1 (Ws_42 _ _ _ _ _ _ _ _)) ?_
  have h1 := h.2
  refine WP.run hP_7 2 (c' := (10, [some (.ref 38), some (.ref 1), none, none, some (.int (l4 + (1 : Int32)))], [], Wd f fl (va_up g 42 (upd (g 42) (s1.toNatClampNeg) s0)) gl hh v tx)) rfl ?_
  exact h1

set_option maxRecDepth 20000 in
theorem b_yca_board_1t_0 (X : mm_X) (d : Nat) (f : Nat → Int32) (fl : Nat → Int64) (g : Nat → Nat → Int32) (gl : Nat → Nat → Int64) (hh : Nat → Nat → Option Nat) (v : Nat → Value) (tx : mm_W) (p0 : Int32) (t0 : Nat)  (P : Option Value → mm_W → Prop)
    (h : (¬ (p0 < 0 ∨ 3 ≤ p0.toNatClampNeg)) ∧ P none (Wd (va_up f 2440 ((g 5) p0.toNatClampNeg)) fl (va_up (va_up (va_up g 41 (upd (g 41) 0 p0)) 41 (upd (upd (g 41) 0 p0) 6 ((g 8) 0))) 41 (upd (upd (upd (g 41) 0 p0) 6 ((g 8) 0)) 7 ((g 8) 2))) gl hh (va_up v 2439 (.ref t0)) tx)) :
    WP X (d) 2 (0, [some (.ref 38), some (.ref 1), some (.int p0), some (.ref t0)], [], Wd f fl g gl hh v tx) P := by
  refine WP.run hP_2 7 (c' := (11, [some (.ref 38), some (.ref 1), some (.int p0), some (.ref t0)], [.int p0, .ref 5, .ref 38], Wd f fl g gl hh (va_up v 2439 (.ref t0)) tx)) rfl ?_
  refine WP.of (fun _ _ => Ex.iald hP_2 rfl (Wa_5 _ _ _ _ _ _ _) h.1) ?_
  have h1 := h.2
  refine WP.run hP_2 5 (c' := (21, [some (.ref 38), some (.ref 1), some (.int p0), some (.ref t0)], [.int p0, .int 0, .ref 41], Wd (va_up f 2440 ((g 5) p0.toNatClampNeg)) fl g gl hh (va_up v 2439 (.ref t0)) tx)) rfl ?_
  refine WP.of (fun _ _ => Ex.iast hP_2 (w2 := Wd (va_up f 2440 ((g 5) p0.toNatClampNeg)) fl (va_up g 41 (upd (g 41) 0 p0)) gl hh (va_up v 2439 (.ref t0)) tx) rfl (Wa_41 _ _ _ _ _ _ _) (by decide) (Ws_41 _ _ _ _ _ _ _ _)) ?_
  refine WP.run hP_2 6 (c' := (33, [some (.ref 38), some (.ref 1), some (.int p0), some (.ref t0)], [.int 0, .ref 8, .int 6, .ref 41], Wd (va_up f 2440 ((g 5) p0.toNatClampNeg)) fl (va_up g 41 (upd (g 41) 0 p0)) gl hh (va_up v 2439 (.ref t0)) tx)) rfl ?_
  refine WP.of (fun _ _ => Ex.iald hP_2 rfl (Wa_8 _ _ _ _ _ _ _) (by decide)) ?_
  show WP X _ 2 (34, [some (.ref 38), some (.ref 1), some (.int p0), some (.ref t0)], [.int ((g 8) 0), .int 6, .ref 41], Wd (va_up f 2440 ((g 5) p0.toNatClampNeg)) fl (va_up g 41 (upd (g 41) 0 p0)) gl hh (va_up v 2439 (.ref t0)) tx) P
  refine WP.of (fun _ _ => Ex.iast hP_2 (w2 := Wd (va_up f 2440 ((g 5) p0.toNatClampNeg)) fl (va_up (va_up g 41 (upd (g 41) 0 p0)) 41 (upd (upd (g 41) 0 p0) 6 ((g 8) 0))) gl hh (va_up v 2439 (.ref t0)) tx) rfl (Wa_41 _ _ _ _ _ _ _) (by decide) (Ws_41 _ _ _ _ _ _ _ _)) ?_
  refine WP.run hP_2 6 (c' := (46, [some (.ref 38), some (.ref 1), some (.int p0), some (.ref t0)], [.int 2, .ref 8, .int 7, .ref 41], Wd (va_up f 2440 ((g 5) p0.toNatClampNeg)) fl (va_up (va_up g 41 (upd (g 41) 0 p0)) 41 (upd (upd (g 41) 0 p0) 6 ((g 8) 0))) gl hh (va_up v 2439 (.ref t0)) tx)) rfl ?_
  refine WP.of (fun _ _ => Ex.iald hP_2 rfl (Wa_8 _ _ _ _ _ _ _) (by decide)) ?_
  show WP X _ 2 (47, [some (.ref 38), some (.ref 1), some (.int p0), some (.ref t0)], [.int ((g 8) 2), .int 7, .ref 41], Wd (va_up f 2440 ((g 5) p0.toNatClampNeg)) fl (va_up (va_up g 41 (upd (g 41) 0 p0)) 41 (upd (upd (g 41) 0 p0) 6 ((g 8) 0))) gl hh (va_up v 2439 (.ref t0)) tx) P
  refine WP.of (fun _ _ => Ex.iast hP_2 (w2 := Wd (va_up f 2440 ((g 5) p0.toNatClampNeg)) fl (va_up (va_up (va_up g 41 (upd (g 41) 0 p0)) 41 (upd (upd (g 41) 0 p0) 6 ((g 8) 0))) 41 (upd (upd (upd (g 41) 0 p0) 6 ((g 8) 0)) 7 ((g 8) 2))) gl hh (va_up v 2439 (.ref t0)) tx) rfl (Wa_41 _ _ _ _ _ _ _) (by decide) (Ws_41 _ _ _ _ _ _ _ _)) ?_
  exact WP.ret hP_2 (r := none) (w' := Wd (va_up f 2440 ((g 5) p0.toNatClampNeg)) fl (va_up (va_up (va_up g 41 (upd (g 41) 0 p0)) 41 (upd (upd (g 41) 0 p0) 6 ((g 8) 0))) 41 (upd (upd (upd (g 41) 0 p0) 6 ((g 8) 0)) 7 ((g 8) 2))) gl hh (va_up v 2439 (.ref t0)) tx) rfl h1

set_option maxRecDepth 20000 in
theorem b_yca_choose_1t_0 (X : mm_X) (d : Nat) (f : Nat → Int32) (fl : Nat → Int64) (g : Nat → Nat → Int32) (gl : Nat → Nat → Int64) (hh : Nat → Nat → Option Nat) (v : Nat → Value) (tx : mm_W) (p0 : Int32) (t0 : Nat)  (P : Option Value → mm_W → Prop)
    (h : WP X (d) 2 (0, [some (.ref 38), some (.ref 1), some (.int p0), some (.ref t0)], [], Wd f fl g gl hh v tx) (fun rv w2 => WP X (d + 1) 7 (7, [some (.ref 38), some (.ref 1), some (.int p0), some (.ref t0), none], rv.toList ++ [], w2) P)) :
    WP X (d + 1) 7 (0, [some (.ref 38), some (.ref 1), some (.int p0), some (.ref t0), none], [], Wd f fl g gl hh v tx) P := by
  refine WP.run hP_7 4 (c' := (4, [some (.ref 38), some (.ref 1), some (.int p0), some (.ref t0), none], [.ref t0, .int p0, .ref 1, .ref 38], Wd f fl g gl hh v tx)) rfl ?_
  refine WP.call hP_7 hP_2 (as := [.ref 38, .ref 1, .int p0, .ref t0]) (pc' := 7) (L' := [some (.ref 38), some (.ref 1), some (.int p0), some (.ref t0), none]) (st' := []) (w1 := Wd f fl g gl hh v tx) rfl ⟨Nat.le_of_ble_eq_true rfl, Nat.le_of_ble_eq_true rfl⟩ rfl ?_
  exact h

set_option maxRecDepth 20000 in
theorem b_yca_choose_1t_7 (X : mm_X) (d : Nat) (f : Nat → Int32) (fl : Nat → Int64) (g : Nat → Nat → Int32) (gl : Nat → Nat → Int64) (hh : Nat → Nat → Option Nat) (v : Nat → Value) (tx : mm_W) (l2 : Int32) (t0 : Nat)  (P : Option Value → mm_W → Prop)
    (h : WP X (d) 7 (10, [some (.ref 38), some (.ref 1), none, none, some (.int 0)], [], Wd f fl g gl hh v tx) P) :
    WP X (d) 7 (7, [some (.ref 38), some (.ref 1), some (.int l2), some (.ref t0), none], [], Wd f fl g gl hh v tx) P := by
  refine WP.run hP_7 2 (c' := (10, [some (.ref 38), some (.ref 1), some (.int l2), some (.ref t0), some (.int 0)], [], Wd f fl g gl hh v tx)) rfl ?_
  refine WP.clr hP_7 (pc := 10) rfl ?_
  exact h

set_option maxRecDepth 20000 in
theorem b_yca_choose_1t_10 (X : mm_X) (d : Nat) (f : Nat → Int32) (fl : Nat → Int64) (g : Nat → Nat → Int32) (gl : Nat → Nat → Int64) (hh : Nat → Nat → Option Nat) (v : Nat → Value) (tx : mm_W) (l4 : Int32)  (P : Option Value → mm_W → Prop)
    (h : (((f 64) ≤ l4) → WP X (d) 8 (0, [some (.ref 38), some (.ref 1), some (.int 0), none, none, none], [], Wd f fl g gl hh v tx) (fun rv w2 => WP X (d + 1) 7 (45, [some (.ref 38), some (.ref 1), none, none, none], rv.toList ++ [], w2) P)) ∧
    ((¬ ((f 64) ≤ l4)) → WP X (d) 3 (0, [some (.ref 38), some (.ref 1), some (.int l4), none, none], [], Wd f fl g gl hh v tx) (fun rv w2 => WP X (d + 1) 7 (32, [some (.ref 38), some (.ref 1), none, none, some (.int l4)], rv.toList ++ [.int l4, .ref 42], w2) P))) :
    WP X (d + 1) 7 (10, [some (.ref 38), some (.ref 1), none, none, some (.int l4)], [], Wd f fl g gl hh v tx) P := by
  refine WP.run hP_7 3 (c' := (16, [some (.ref 38), some (.ref 1), none, none, some (.int l4)], [.int (f 64), .int l4], Wd f fl g gl hh v tx)) rfl ?_
  refine WP.br hP_7 (q := (f 64) ≤ l4) (t := 39) (f := 19) (L := [some (.ref 38), some (.ref 1), none, none, some (.int l4)]) (st := []) (w := Wd f fl g gl hh v tx) rfl (fun c1 => ?_) (fun c1 => ?_)
  · have h2 := h.1 c1
    refine WP.run hP_7 3 (c' := (42, [some (.ref 38), some (.ref 1), none, none, none], [.int 0, .ref 1, .ref 38], Wd f fl g gl hh v tx)) rfl ?_
    refine WP.call hP_7 hP_8 (as := [.ref 38, .ref 1, .int 0]) (pc' := 45) (L' := [some (.ref 38), some (.ref 1), none, none, none]) (st' := []) (w1 := Wd f fl g gl hh v tx) rfl ⟨Nat.le_of_ble_eq_true rfl, Nat.le_of_ble_eq_true rfl⟩ rfl ?_
    exact h2
  · have h3 := h.2 c1
    refine WP.run hP_7 6 (c' := (29, [some (.ref 38), some (.ref 1), none, none, some (.int l4)], [.int l4, .ref 1, .ref 38, .int l4, .ref 42], Wd f fl g gl hh v tx)) rfl ?_
    refine WP.call hP_7 hP_3 (as := [.ref 38, .ref 1, .int l4]) (pc' := 32) (L' := [some (.ref 38), some (.ref 1), none, none, some (.int l4)]) (st' := [.int l4, .ref 42]) (w1 := Wd f fl g gl hh v tx) rfl ⟨Nat.le_of_ble_eq_true rfl, Nat.le_of_ble_eq_true rfl⟩ rfl ?_
    exact h3

set_option maxRecDepth 20000 in
theorem b_yca_choose_1t_45 (X : mm_X) (d : Nat) (f : Nat → Int32) (fl : Nat → Int64) (g : Nat → Nat → Int32) (gl : Nat → Nat → Int64) (hh : Nat → Nat → Option Nat) (v : Nat → Value) (tx : mm_W) (s0 : Int32)  (P : Option Value → mm_W → Prop)
    (h : (s0 = 0 ∨ s0 = 1) ∧ P (some (.int s0)) (Wd f fl g gl hh v tx)) :
    WP X (d) 7 (45, [some (.ref 38), some (.ref 1), none, none, none], [.int s0], Wd f fl g gl hh v tx) P := by
  exact WP.retZ hP_7 rfl rfl h.1 h.2

set_option maxRecDepth 20000 in
theorem b_yca_choose_1t_32 (X : mm_X) (d : Nat) (f : Nat → Int32) (fl : Nat → Int64) (g : Nat → Nat → Int32) (gl : Nat → Nat → Int64) (hh : Nat → Nat → Option Nat) (v : Nat → Value) (tx : mm_W) (l4 : Int32) (s0 : Int32) (s1 : Int32)  (P : Option Value → mm_W → Prop)
    (h : (¬ (s1 < 0 ∨ 8 ≤ s1.toNatClampNeg)) ∧ WP X (d) 7 (10, [some (.ref 38), some (.ref 1), none, none, some (.int (l4 + (1 : Int32)))], [], Wd f fl (va_up g 42 (upd (g 42) (s1.toNatClampNeg) s0)) gl hh v tx) P) :
    WP X (d) 7 (32, [some (.ref 38), some (.ref 1), none, none, some (.int l4)], [.int s0, .int s1, .ref 42], Wd f fl g gl hh v tx) P := by
  refine WP.of (fun _ _ => Ex.iast hP_7 (w2 := Wd f fl (va_up g 42 (upd (g 42) (s1.toNatClampNeg) s0)) gl hh v tx) rfl (Wa_42 _ _ _ _ _ _ _) h.1 (Ws_42 _ _ _ _ _ _ _ _)) ?_
  have h1 := h.2
  refine WP.run hP_7 2 (c' := (10, [some (.ref 38), some (.ref 1), none, none, some (.int (l4 + (1 : Int32)))], [], Wd f fl (va_up g 42 (upd (g 42) (s1.toNatClampNeg) s0)) gl hh v tx)) rfl ?_
  exact h1

set_option maxRecDepth 20000 in
theorem b_yca_barred_38_0 (X : mm_X) (d : Nat) (f : Nat → Int32) (fl : Nat → Int64) (g : Nat → Nat → Int32) (gl : Nat → Nat → Int64) (hh : Nat → Nat → Option Nat) (v : Nat → Value) (tx : mm_W) (p0 : Int32)  (P : Option Value → mm_W → Prop)
    (h : WP X (d) 6 (0, [some (.ref 38), some (.int 2), some (.int p0), none, none, none], [], Wd f fl (va_up (va_up g 41 (upd (g 41) 1 (-1))) 41 (upd (upd (g 41) 1 (-1)) 2 (-1))) gl hh v tx) (fun rv w2 => WP X (d + 1) 5 (20, [some (.ref 38), some (.int p0)], rv.toList ++ [], w2) P)) :
    WP X (d + 1) 5 (0, [some (.ref 38), some (.int p0)], [], Wd f fl g gl hh v tx) P := by
  refine WP.run hP_5 4 (c' := (6, [some (.ref 38), some (.int p0)], [.int (-1), .int 1, .ref 41], Wd f fl g gl hh v tx)) rfl ?_
  refine WP.of (fun _ _ => Ex.iast hP_5 (w2 := Wd f fl (va_up g 41 (upd (g 41) 1 (-1))) gl hh v tx) rfl (Wa_41 _ _ _ _ _ _ _) (by decide) (Ws_41 _ _ _ _ _ _ _ _)) ?_
  refine WP.run hP_5 4 (c' := (13, [some (.ref 38), some (.int p0)], [.int (-1), .int 2, .ref 41], Wd f fl (va_up g 41 (upd (g 41) 1 (-1))) gl hh v tx)) rfl ?_
  refine WP.of (fun _ _ => Ex.iast hP_5 (w2 := Wd f fl (va_up (va_up g 41 (upd (g 41) 1 (-1))) 41 (upd (upd (g 41) 1 (-1)) 2 (-1))) gl hh v tx) rfl (Wa_41 _ _ _ _ _ _ _) (by decide) (Ws_41 _ _ _ _ _ _ _ _)) ?_
  refine WP.run hP_5 3 (c' := (17, [some (.ref 38), some (.int p0)], [.int p0, .int 2, .ref 38], Wd f fl (va_up (va_up g 41 (upd (g 41) 1 (-1))) 41 (upd (upd (g 41) 1 (-1)) 2 (-1))) gl hh v tx)) rfl ?_
  refine WP.call hP_5 hP_6 (as := [.ref 38, .int 2, .int p0]) (pc' := 20) (L' := [some (.ref 38), some (.int p0)]) (st' := []) (w1 := Wd f fl (va_up (va_up g 41 (upd (g 41) 1 (-1))) 41 (upd (upd (g 41) 1 (-1)) 2 (-1))) gl hh v tx) rfl ⟨Nat.le_of_ble_eq_true rfl, Nat.le_of_ble_eq_true rfl⟩ rfl ?_
  exact h

set_option maxRecDepth 20000 in
theorem b_yca_barred_38_20 (X : mm_X) (d : Nat) (f : Nat → Int32) (fl : Nat → Int64) (g : Nat → Nat → Int32) (gl : Nat → Nat → Int64) (hh : Nat → Nat → Option Nat) (v : Nat → Value) (tx : mm_W) (l1 : Int32) (s0 : Int64)  (P : Option Value → mm_W → Prop)
    (h : (((lg_cmp s0 (-4000000000000000000)) = 0) → P (some (.int 0)) (Wd f fl g gl hh v tx)) ∧
    ((¬ (lg_cmp s0 (-4000000000000000000)) = 0) → P (some (.int 1)) (Wd f fl g gl hh v tx))) :
    WP X (d) 5 (20, [some (.ref 38), some (.int l1)], [.long s0], Wd f fl g gl hh v tx) P := by
  refine WP.run hP_5 2 (c' := (24, [some (.ref 38), some (.int l1)], [.int (lg_cmp s0 (-4000000000000000000))], Wd f fl g gl hh v tx)) rfl ?_
  refine WP.br hP_5 (q := (lg_cmp s0 (-4000000000000000000)) = 0) (t := 31) (f := 27) (L := [some (.ref 38), some (.int l1)]) (st := []) (w := Wd f fl g gl hh v tx) rfl (fun c1 => ?_) (fun c1 => ?_)
  · have h2 := h.1 c1
    refine WP.run hP_5 1 (c' := (32, [none, none], [.int 0], Wd f fl g gl hh v tx)) rfl ?_
    exact WP.ret hP_5 (r := some (.int 0)) (w' := Wd f fl g gl hh v tx) rfl h2
  · have h3 := h.2 c1
    refine WP.run hP_5 2 (c' := (32, [some (.ref 38), some (.int l1)], [.int 1], Wd f fl g gl hh v tx)) rfl ?_
    exact WP.ret hP_5 (r := some (.int 1)) (w' := Wd f fl g gl hh v tx) rfl h3

set_option maxRecDepth 20000 in
theorem b_yca_goes_38_0 (X : mm_X) (d : Nat) (f : Nat → Int32) (fl : Nat → Int64) (g : Nat → Nat → Int32) (gl : Nat → Nat → Int64) (hh : Nat → Nat → Option Nat) (v : Nat → Value) (tx : mm_W)   (P : Option Value → mm_W → Prop)
    (h : WP X (d) 6 (0, [some (.ref 38), some (.int 1), some (.int 0), none, none, none], [], Wd f fl (va_up (va_up g 41 (upd (g 41) 1 (-1))) 41 (upd (upd (g 41) 1 (-1)) 2 (-1))) gl hh v tx) (fun rv w2 => WP X (d + 1) 4 (20, [some (.ref 38), none, none], rv.toList ++ [], w2) P)) :
    WP X (d + 1) 4 (0, [some (.ref 38), none, none], [], Wd f fl g gl hh v tx) P := by
  refine WP.run hP_4 4 (c' := (6, [some (.ref 38), none, none], [.int (-1), .int 1, .ref 41], Wd f fl g gl hh v tx)) rfl ?_
  refine WP.of (fun _ _ => Ex.iast hP_4 (w2 := Wd f fl (va_up g 41 (upd (g 41) 1 (-1))) gl hh v tx) rfl (Wa_41 _ _ _ _ _ _ _) (by decide) (Ws_41 _ _ _ _ _ _ _ _)) ?_
  refine WP.run hP_4 4 (c' := (13, [some (.ref 38), none, none], [.int (-1), .int 2, .ref 41], Wd f fl (va_up g 41 (upd (g 41) 1 (-1))) gl hh v tx)) rfl ?_
  refine WP.of (fun _ _ => Ex.iast hP_4 (w2 := Wd f fl (va_up (va_up g 41 (upd (g 41) 1 (-1))) 41 (upd (upd (g 41) 1 (-1)) 2 (-1))) gl hh v tx) rfl (Wa_41 _ _ _ _ _ _ _) (by decide) (Ws_41 _ _ _ _ _ _ _ _)) ?_
  refine WP.run hP_4 3 (c' := (17, [some (.ref 38), none, none], [.int 0, .int 1, .ref 38], Wd f fl (va_up (va_up g 41 (upd (g 41) 1 (-1))) 41 (upd (upd (g 41) 1 (-1)) 2 (-1))) gl hh v tx)) rfl ?_
  refine WP.call hP_4 hP_6 (as := [.ref 38, .int 1, .int 0]) (pc' := 20) (L' := [some (.ref 38), none, none]) (st' := []) (w1 := Wd f fl (va_up (va_up g 41 (upd (g 41) 1 (-1))) 41 (upd (upd (g 41) 1 (-1)) 2 (-1))) gl hh v tx) rfl ⟨Nat.le_of_ble_eq_true rfl, Nat.le_of_ble_eq_true rfl⟩ rfl ?_
  exact h

set_option maxRecDepth 20000 in
theorem b_yca_goes_38_20 (X : mm_X) (d : Nat) (f : Nat → Int32) (fl : Nat → Int64) (g : Nat → Nat → Int32) (gl : Nat → Nat → Int64) (hh : Nat → Nat → Option Nat) (v : Nat → Value) (tx : mm_W) (s0 : Int64)  (P : Option Value → mm_W → Prop)
    (h : ((¬ (lg_cmp s0 (-4000000000000000000)) = 0) → P (some (.int (((if (if s0 < 4 then s0 else 4) < 0 then 0 else (if s0 < 4 then s0 else 4)) : Int64).toInt32))) (Wd f fl g gl hh v tx)) ∧
    (((lg_cmp s0 (-4000000000000000000)) = 0) → P (some (.int 1)) (Wd f fl g gl hh v tx))) :
    WP X (d) 4 (20, [some (.ref 38), none, none], [.long s0], Wd f fl g gl hh v tx) P := by
  refine WP.run hP_4 4 (c' := (26, [some (.ref 38), some (.long s0), none], [.int (lg_cmp s0 (-4000000000000000000))], Wd f fl g gl hh v tx)) rfl ?_
  refine WP.br hP_4 (q := ¬ (lg_cmp s0 (-4000000000000000000)) = 0) (t := 33) (f := 29) (L := [some (.ref 38), some (.long s0), none]) (st := []) (w := Wd f fl g gl hh v tx) rfl (fun c1 => ?_) (fun c1 => ?_)
  · have h2 := h.1 c1
    refine WP.run hP_4 6 (c' := (45, [none, some (.long s0), none], [.int (((if (if s0 < 4 then s0 else 4) < 0 then 0 else (if s0 < 4 then s0 else 4)) : Int64).toInt32)], Wd f fl g gl hh v tx)) rfl ?_
    exact WP.retI hP_4 rfl rfl h2
  · have h3 := h.2 (Classical.not_not.mp c1)
    refine WP.run hP_4 2 (c' := (45, [some (.ref 38), some (.long s0), none], [.int 1], Wd f fl g gl hh v tx)) rfl ?_
    exact WP.retI hP_4 rfl rfl h3

set_option maxRecDepth 20000 in
theorem b_yca_board_19n_0 (X : mm_X) (d : Nat) (f : Nat → Int32) (fl : Nat → Int64) (g : Nat → Nat → Int32) (gl : Nat → Nat → Int64) (hh : Nat → Nat → Option Nat) (v : Nat → Value) (tx : mm_W) (p0 : Int32)  (P : Option Value → mm_W → Prop)
    (h : (¬ (p0 < 0 ∨ 3 ≤ p0.toNatClampNeg)) ∧ P none (Wd (va_up f 2440 ((g 23) p0.toNatClampNeg)) fl (va_up (va_up (va_up g 41 (upd (g 41) 0 p0)) 41 (upd (upd (g 41) 0 p0) 6 ((g 26) 0))) 41 (upd (upd (upd (g 41) 0 p0) 6 ((g 26) 0)) 7 ((g 26) 2))) gl hh (va_up v 2439 (.null)) tx)) :
    WP X (d) 2 (0, [some (.ref 38), some (.ref 19), some (.int p0), some (.null)], [], Wd f fl g gl hh v tx) P := by
  refine WP.run hP_2 7 (c' := (11, [some (.ref 38), some (.ref 19), some (.int p0), some (.null)], [.int p0, .ref 23, .ref 38], Wd f fl g gl hh (va_up v 2439 (.null)) tx)) rfl ?_
  refine WP.of (fun _ _ => Ex.iald hP_2 rfl (Wa_23 _ _ _ _ _ _ _) h.1) ?_
  have h1 := h.2
  refine WP.run hP_2 5 (c' := (21, [some (.ref 38), some (.ref 19), some (.int p0), some (.null)], [.int p0, .int 0, .ref 41], Wd (va_up f 2440 ((g 23) p0.toNatClampNeg)) fl g gl hh (va_up v 2439 (.null)) tx)) rfl ?_
  refine WP.of (fun _ _ => Ex.iast hP_2 (w2 := Wd (va_up f 2440 ((g 23) p0.toNatClampNeg)) fl (va_up g 41 (upd (g 41) 0 p0)) gl hh (va_up v 2439 (.null)) tx) rfl (Wa_41 _ _ _ _ _ _ _) (by decide) (Ws_41 _ _ _ _ _ _ _ _)) ?_
  refine WP.run hP_2 6 (c' := (33, [some (.ref 38), some (.ref 19), some (.int p0), some (.null)], [.int 0, .ref 26, .int 6, .ref 41], Wd (va_up f 2440 ((g 23) p0.toNatClampNeg)) fl (va_up g 41 (upd (g 41) 0 p0)) gl hh (va_up v 2439 (.null)) tx)) rfl ?_
  refine WP.of (fun _ _ => Ex.iald hP_2 rfl (Wa_26 _ _ _ _ _ _ _) (by decide)) ?_
  show WP X _ 2 (34, [some (.ref 38), some (.ref 19), some (.int p0), some (.null)], [.int ((g 26) 0), .int 6, .ref 41], Wd (va_up f 2440 ((g 23) p0.toNatClampNeg)) fl (va_up g 41 (upd (g 41) 0 p0)) gl hh (va_up v 2439 (.null)) tx) P
  refine WP.of (fun _ _ => Ex.iast hP_2 (w2 := Wd (va_up f 2440 ((g 23) p0.toNatClampNeg)) fl (va_up (va_up g 41 (upd (g 41) 0 p0)) 41 (upd (upd (g 41) 0 p0) 6 ((g 26) 0))) gl hh (va_up v 2439 (.null)) tx) rfl (Wa_41 _ _ _ _ _ _ _) (by decide) (Ws_41 _ _ _ _ _ _ _ _)) ?_
  refine WP.run hP_2 6 (c' := (46, [some (.ref 38), some (.ref 19), some (.int p0), some (.null)], [.int 2, .ref 26, .int 7, .ref 41], Wd (va_up f 2440 ((g 23) p0.toNatClampNeg)) fl (va_up (va_up g 41 (upd (g 41) 0 p0)) 41 (upd (upd (g 41) 0 p0) 6 ((g 26) 0))) gl hh (va_up v 2439 (.null)) tx)) rfl ?_
  refine WP.of (fun _ _ => Ex.iald hP_2 rfl (Wa_26 _ _ _ _ _ _ _) (by decide)) ?_
  show WP X _ 2 (47, [some (.ref 38), some (.ref 19), some (.int p0), some (.null)], [.int ((g 26) 2), .int 7, .ref 41], Wd (va_up f 2440 ((g 23) p0.toNatClampNeg)) fl (va_up (va_up g 41 (upd (g 41) 0 p0)) 41 (upd (upd (g 41) 0 p0) 6 ((g 26) 0))) gl hh (va_up v 2439 (.null)) tx) P
  refine WP.of (fun _ _ => Ex.iast hP_2 (w2 := Wd (va_up f 2440 ((g 23) p0.toNatClampNeg)) fl (va_up (va_up (va_up g 41 (upd (g 41) 0 p0)) 41 (upd (upd (g 41) 0 p0) 6 ((g 26) 0))) 41 (upd (upd (upd (g 41) 0 p0) 6 ((g 26) 0)) 7 ((g 26) 2))) gl hh (va_up v 2439 (.null)) tx) rfl (Wa_41 _ _ _ _ _ _ _) (by decide) (Ws_41 _ _ _ _ _ _ _ _)) ?_
  exact WP.ret hP_2 (r := none) (w' := Wd (va_up f 2440 ((g 23) p0.toNatClampNeg)) fl (va_up (va_up (va_up g 41 (upd (g 41) 0 p0)) 41 (upd (upd (g 41) 0 p0) 6 ((g 26) 0))) 41 (upd (upd (upd (g 41) 0 p0) 6 ((g 26) 0)) 7 ((g 26) 2))) gl hh (va_up v 2439 (.null)) tx) rfl h1

set_option maxRecDepth 20000 in
theorem b_yca_weighs_38_19_0 (X : mm_X) (d : Nat) (f : Nat → Int32) (fl : Nat → Int64) (g : Nat → Nat → Int32) (gl : Nat → Nat → Int64) (hh : Nat → Nat → Option Nat) (v : Nat → Value) (tx : mm_W) (p0 : Int32)  (P : Option Value → mm_W → Prop)
    (h : (¬ (p0 < 0 ∨ 8 ≤ p0.toNatClampNeg)) ∧ ((¬ (p0 < 0 ∨ 8 ≤ p0.toNatClampNeg)) ∧ WP X (d) 6 (0, [some (.ref 38), some (.int 0), some (.int ((g 22) p0.toNatClampNeg)), none, none, none], [], Wd f fl (va_up (va_up g 41 (upd (g 41) 1 p0)) 41 (upd (upd (g 41) 1 p0) 2 ((g 21) p0.toNatClampNeg))) gl hh v tx) (fun rv w2 => WP X (d + 1) 3 (30, [some (.ref 38), some (.ref 19), some (.int p0), none, none], rv.toList ++ [], w2) P))) :
    WP X (d + 1) 3 (0, [some (.ref 38), some (.ref 19), some (.int p0), none, none], [], Wd f fl g gl hh v tx) P := by
  refine WP.run hP_3 4 (c' := (6, [some (.ref 38), some (.ref 19), some (.int p0), none, none], [.int p0, .int 1, .ref 41], Wd f fl g gl hh v tx)) rfl ?_
  refine WP.of (fun _ _ => Ex.iast hP_3 (w2 := Wd f fl (va_up g 41 (upd (g 41) 1 p0)) gl hh v tx) rfl (Wa_41 _ _ _ _ _ _ _) (by decide) (Ws_41 _ _ _ _ _ _ _ _)) ?_
  refine WP.run hP_3 6 (c' := (17, [some (.ref 38), some (.ref 19), some (.int p0), none, none], [.int p0, .ref 21, .int 2, .ref 41], Wd f fl (va_up g 41 (upd (g 41) 1 p0)) gl hh v tx)) rfl ?_
  refine WP.of (fun _ _ => Ex.iald hP_3 rfl (Wa_21 _ _ _ _ _ _ _) h.1) ?_
  have h1 := h.2
  refine WP.of (fun _ _ => Ex.iast hP_3 (w2 := Wd f fl (va_up (va_up g 41 (upd (g 41) 1 p0)) 41 (upd (upd (g 41) 1 p0) 2 ((g 21) p0.toNatClampNeg))) gl hh v tx) rfl (Wa_41 _ _ _ _ _ _ _) (by decide) (Ws_41 _ _ _ _ _ _ _ _)) ?_
  refine WP.run hP_3 5 (c' := (26, [some (.ref 38), some (.ref 19), some (.int p0), none, none], [.int p0, .ref 22, .int 0, .ref 38], Wd f fl (va_up (va_up g 41 (upd (g 41) 1 p0)) 41 (upd (upd (g 41) 1 p0) 2 ((g 21) p0.toNatClampNeg))) gl hh v tx)) rfl ?_
  refine WP.of (fun _ _ => Ex.iald hP_3 rfl (Wa_22 _ _ _ _ _ _ _) h1.1) ?_
  have h2 := h1.2
  refine WP.call hP_3 hP_6 (as := [.ref 38, .int 0, .int ((g 22) p0.toNatClampNeg)]) (pc' := 30) (L' := [some (.ref 38), some (.ref 19), some (.int p0), none, none]) (st' := []) (w1 := Wd f fl (va_up (va_up g 41 (upd (g 41) 1 p0)) 41 (upd (upd (g 41) 1 p0) 2 ((g 21) p0.toNatClampNeg))) gl hh v tx) rfl ⟨Nat.le_of_ble_eq_true rfl, Nat.le_of_ble_eq_true rfl⟩ rfl ?_
  exact h2

set_option maxRecDepth 20000 in
theorem b_yca_weighs_38_19_30 (X : mm_X) (d : Nat) (f : Nat → Int32) (fl : Nat → Int64) (g : Nat → Nat → Int32) (gl : Nat → Nat → Int64) (hh : Nat → Nat → Option Nat) (v : Nat → Value) (tx : mm_W) (l2 : Int32) (s0 : Int64)  (P : Option Value → mm_W → Prop)
    (h : ((¬ (lg_cmp s0 (-4000000000000000000)) = 0) → P (some (.int (((if (if s0 < 99 then s0 else 99) < 0 then 0 else (if s0 < 99 then s0 else 99)) : Int64).toInt32))) (Wd f fl g gl hh v tx)) ∧
    (((lg_cmp s0 (-4000000000000000000)) = 0) → ((¬ (l2 < 0 ∨ 8 ≤ l2.toNatClampNeg)) ∧ P (some (.int ((g 21) l2.toNatClampNeg))) (Wd f fl g gl hh v tx)))) :
    WP X (d) 3 (30, [some (.ref 38), some (.ref 19), some (.int l2), none, none], [.long s0], Wd f fl g gl hh v tx) P := by
  refine WP.run hP_3 4 (c' := (36, [some (.ref 38), some (.ref 19), some (.int l2), some (.long s0), none], [.int (lg_cmp s0 (-4000000000000000000))], Wd f fl g gl hh v tx)) rfl ?_
  refine WP.br hP_3 (q := ¬ (lg_cmp s0 (-4000000000000000000)) = 0) (t := 48) (f := 39) (L := [some (.ref 38), some (.ref 19), some (.int l2), some (.long s0), none]) (st := []) (w := Wd f fl g gl hh v tx) rfl (fun c1 => ?_) (fun c1 => ?_)
  · have h2 := h.1 c1
    refine WP.run hP_3 6 (c' := (60, [none, none, none, some (.long s0), none], [.int (((if (if s0 < 99 then s0 else 99) < 0 then 0 else (if s0 < 99 then s0 else 99)) : Int64).toInt32)], Wd f fl g gl hh v tx)) rfl ?_
    exact WP.retI hP_3 rfl rfl h2
  · have h3 := h.2 (Classical.not_not.mp c1)
    refine WP.run hP_3 3 (c' := (44, [some (.ref 38), some (.ref 19), some (.int l2), some (.long s0), none], [.int l2, .ref 21], Wd f fl g gl hh v tx)) rfl ?_
    refine WP.of (fun _ _ => Ex.iald hP_3 rfl (Wa_21 _ _ _ _ _ _ _) h3.1) ?_
    have h4 := h3.2
    refine WP.run hP_3 1 (c' := (60, [some (.ref 38), some (.ref 19), some (.int l2), some (.long s0), none], [.int ((g 21) l2.toNatClampNeg)], Wd f fl g gl hh v tx)) rfl ?_
    exact WP.retI hP_3 rfl rfl h4

set_option maxRecDepth 20000 in
theorem b_yca_choose_19n_0 (X : mm_X) (d : Nat) (f : Nat → Int32) (fl : Nat → Int64) (g : Nat → Nat → Int32) (gl : Nat → Nat → Int64) (hh : Nat → Nat → Option Nat) (v : Nat → Value) (tx : mm_W) (p0 : Int32)  (P : Option Value → mm_W → Prop)
    (h : WP X (d) 2 (0, [some (.ref 38), some (.ref 19), some (.int p0), some (.null)], [], Wd f fl g gl hh v tx) (fun rv w2 => WP X (d + 1) 7 (7, [some (.ref 38), some (.ref 19), some (.int p0), some (.null), none], rv.toList ++ [], w2) P)) :
    WP X (d + 1) 7 (0, [some (.ref 38), some (.ref 19), some (.int p0), some (.null), none], [], Wd f fl g gl hh v tx) P := by
  refine WP.run hP_7 4 (c' := (4, [some (.ref 38), some (.ref 19), some (.int p0), some (.null), none], [.null, .int p0, .ref 19, .ref 38], Wd f fl g gl hh v tx)) rfl ?_
  refine WP.call hP_7 hP_2 (as := [.ref 38, .ref 19, .int p0, .null]) (pc' := 7) (L' := [some (.ref 38), some (.ref 19), some (.int p0), some (.null), none]) (st' := []) (w1 := Wd f fl g gl hh v tx) rfl ⟨Nat.le_of_ble_eq_true rfl, Nat.le_of_ble_eq_true rfl⟩ rfl ?_
  exact h

set_option maxRecDepth 20000 in
theorem b_yca_choose_19n_7 (X : mm_X) (d : Nat) (f : Nat → Int32) (fl : Nat → Int64) (g : Nat → Nat → Int32) (gl : Nat → Nat → Int64) (hh : Nat → Nat → Option Nat) (v : Nat → Value) (tx : mm_W) (l2 : Int32)  (P : Option Value → mm_W → Prop)
    (h : WP X (d) 7 (10, [some (.ref 38), some (.ref 19), none, none, some (.int 0)], [], Wd f fl g gl hh v tx) P) :
    WP X (d) 7 (7, [some (.ref 38), some (.ref 19), some (.int l2), some (.null), none], [], Wd f fl g gl hh v tx) P := by
  refine WP.run hP_7 2 (c' := (10, [some (.ref 38), some (.ref 19), some (.int l2), some (.null), some (.int 0)], [], Wd f fl g gl hh v tx)) rfl ?_
  refine WP.clr hP_7 (pc := 10) rfl ?_
  exact h

set_option maxRecDepth 20000 in
theorem b_yca_choose_19n_10 (X : mm_X) (d : Nat) (f : Nat → Int32) (fl : Nat → Int64) (g : Nat → Nat → Int32) (gl : Nat → Nat → Int64) (hh : Nat → Nat → Option Nat) (v : Nat → Value) (tx : mm_W) (l4 : Int32)  (P : Option Value → mm_W → Prop)
    (h : (((f 1216) ≤ l4) → WP X (d) 8 (0, [some (.ref 38), some (.ref 19), some (.int 0), none, none, none], [], Wd f fl g gl hh v tx) (fun rv w2 => WP X (d + 1) 7 (45, [some (.ref 38), some (.ref 19), none, none, none], rv.toList ++ [], w2) P)) ∧
    ((¬ ((f 1216) ≤ l4)) → WP X (d) 3 (0, [some (.ref 38), some (.ref 19), some (.int l4), none, none], [], Wd f fl g gl hh v tx) (fun rv w2 => WP X (d + 1) 7 (32, [some (.ref 38), some (.ref 19), none, none, some (.int l4)], rv.toList ++ [.int l4, .ref 42], w2) P))) :
    WP X (d + 1) 7 (10, [some (.ref 38), some (.ref 19), none, none, some (.int l4)], [], Wd f fl g gl hh v tx) P := by
  refine WP.run hP_7 3 (c' := (16, [some (.ref 38), some (.ref 19), none, none, some (.int l4)], [.int (f 1216), .int l4], Wd f fl g gl hh v tx)) rfl ?_
  refine WP.br hP_7 (q := (f 1216) ≤ l4) (t := 39) (f := 19) (L := [some (.ref 38), some (.ref 19), none, none, some (.int l4)]) (st := []) (w := Wd f fl g gl hh v tx) rfl (fun c1 => ?_) (fun c1 => ?_)
  · have h2 := h.1 c1
    refine WP.run hP_7 3 (c' := (42, [some (.ref 38), some (.ref 19), none, none, none], [.int 0, .ref 19, .ref 38], Wd f fl g gl hh v tx)) rfl ?_
    refine WP.call hP_7 hP_8 (as := [.ref 38, .ref 19, .int 0]) (pc' := 45) (L' := [some (.ref 38), some (.ref 19), none, none, none]) (st' := []) (w1 := Wd f fl g gl hh v tx) rfl ⟨Nat.le_of_ble_eq_true rfl, Nat.le_of_ble_eq_true rfl⟩ rfl ?_
    exact h2
  · have h3 := h.2 c1
    refine WP.run hP_7 6 (c' := (29, [some (.ref 38), some (.ref 19), none, none, some (.int l4)], [.int l4, .ref 19, .ref 38, .int l4, .ref 42], Wd f fl g gl hh v tx)) rfl ?_
    refine WP.call hP_7 hP_3 (as := [.ref 38, .ref 19, .int l4]) (pc' := 32) (L' := [some (.ref 38), some (.ref 19), none, none, some (.int l4)]) (st' := [.int l4, .ref 42]) (w1 := Wd f fl g gl hh v tx) rfl ⟨Nat.le_of_ble_eq_true rfl, Nat.le_of_ble_eq_true rfl⟩ rfl ?_
    exact h3

set_option maxRecDepth 20000 in
theorem b_yca_choose_19n_45 (X : mm_X) (d : Nat) (f : Nat → Int32) (fl : Nat → Int64) (g : Nat → Nat → Int32) (gl : Nat → Nat → Int64) (hh : Nat → Nat → Option Nat) (v : Nat → Value) (tx : mm_W) (s0 : Int32)  (P : Option Value → mm_W → Prop)
    (h : (s0 = 0 ∨ s0 = 1) ∧ P (some (.int s0)) (Wd f fl g gl hh v tx)) :
    WP X (d) 7 (45, [some (.ref 38), some (.ref 19), none, none, none], [.int s0], Wd f fl g gl hh v tx) P := by
  exact WP.retZ hP_7 rfl rfl h.1 h.2

set_option maxRecDepth 20000 in
theorem b_yca_choose_19n_32 (X : mm_X) (d : Nat) (f : Nat → Int32) (fl : Nat → Int64) (g : Nat → Nat → Int32) (gl : Nat → Nat → Int64) (hh : Nat → Nat → Option Nat) (v : Nat → Value) (tx : mm_W) (l4 : Int32) (s0 : Int32) (s1 : Int32)  (P : Option Value → mm_W → Prop)
    (h : (¬ (s1 < 0 ∨ 8 ≤ s1.toNatClampNeg)) ∧ WP X (d) 7 (10, [some (.ref 38), some (.ref 19), none, none, some (.int (l4 + (1 : Int32)))], [], Wd f fl (va_up g 42 (upd (g 42) (s1.toNatClampNeg) s0)) gl hh v tx) P) :
    WP X (d) 7 (32, [some (.ref 38), some (.ref 19), none, none, some (.int l4)], [.int s0, .int s1, .ref 42], Wd f fl g gl hh v tx) P := by
  refine WP.of (fun _ _ => Ex.iast hP_7 (w2 := Wd f fl (va_up g 42 (upd (g 42) (s1.toNatClampNeg) s0)) gl hh v tx) rfl (Wa_42 _ _ _ _ _ _ _) h.1 (Ws_42 _ _ _ _ _ _ _ _)) ?_
  have h1 := h.2
  refine WP.run hP_7 2 (c' := (10, [some (.ref 38), some (.ref 19), none, none, some (.int (l4 + (1 : Int32)))], [], Wd f fl (va_up g 42 (upd (g 42) (s1.toNatClampNeg) s0)) gl hh v tx)) rfl ?_
  exact h1

set_option maxRecDepth 20000 in
theorem b_yca_board_19t_0 (X : mm_X) (d : Nat) (f : Nat → Int32) (fl : Nat → Int64) (g : Nat → Nat → Int32) (gl : Nat → Nat → Int64) (hh : Nat → Nat → Option Nat) (v : Nat → Value) (tx : mm_W) (p0 : Int32) (t0 : Nat)  (P : Option Value → mm_W → Prop)
    (h : (¬ (p0 < 0 ∨ 3 ≤ p0.toNatClampNeg)) ∧ P none (Wd (va_up f 2440 ((g 23) p0.toNatClampNeg)) fl (va_up (va_up (va_up g 41 (upd (g 41) 0 p0)) 41 (upd (upd (g 41) 0 p0) 6 ((g 26) 0))) 41 (upd (upd (upd (g 41) 0 p0) 6 ((g 26) 0)) 7 ((g 26) 2))) gl hh (va_up v 2439 (.ref t0)) tx)) :
    WP X (d) 2 (0, [some (.ref 38), some (.ref 19), some (.int p0), some (.ref t0)], [], Wd f fl g gl hh v tx) P := by
  refine WP.run hP_2 7 (c' := (11, [some (.ref 38), some (.ref 19), some (.int p0), some (.ref t0)], [.int p0, .ref 23, .ref 38], Wd f fl g gl hh (va_up v 2439 (.ref t0)) tx)) rfl ?_
  refine WP.of (fun _ _ => Ex.iald hP_2 rfl (Wa_23 _ _ _ _ _ _ _) h.1) ?_
  have h1 := h.2
  refine WP.run hP_2 5 (c' := (21, [some (.ref 38), some (.ref 19), some (.int p0), some (.ref t0)], [.int p0, .int 0, .ref 41], Wd (va_up f 2440 ((g 23) p0.toNatClampNeg)) fl g gl hh (va_up v 2439 (.ref t0)) tx)) rfl ?_
  refine WP.of (fun _ _ => Ex.iast hP_2 (w2 := Wd (va_up f 2440 ((g 23) p0.toNatClampNeg)) fl (va_up g 41 (upd (g 41) 0 p0)) gl hh (va_up v 2439 (.ref t0)) tx) rfl (Wa_41 _ _ _ _ _ _ _) (by decide) (Ws_41 _ _ _ _ _ _ _ _)) ?_
  refine WP.run hP_2 6 (c' := (33, [some (.ref 38), some (.ref 19), some (.int p0), some (.ref t0)], [.int 0, .ref 26, .int 6, .ref 41], Wd (va_up f 2440 ((g 23) p0.toNatClampNeg)) fl (va_up g 41 (upd (g 41) 0 p0)) gl hh (va_up v 2439 (.ref t0)) tx)) rfl ?_
  refine WP.of (fun _ _ => Ex.iald hP_2 rfl (Wa_26 _ _ _ _ _ _ _) (by decide)) ?_
  show WP X _ 2 (34, [some (.ref 38), some (.ref 19), some (.int p0), some (.ref t0)], [.int ((g 26) 0), .int 6, .ref 41], Wd (va_up f 2440 ((g 23) p0.toNatClampNeg)) fl (va_up g 41 (upd (g 41) 0 p0)) gl hh (va_up v 2439 (.ref t0)) tx) P
  refine WP.of (fun _ _ => Ex.iast hP_2 (w2 := Wd (va_up f 2440 ((g 23) p0.toNatClampNeg)) fl (va_up (va_up g 41 (upd (g 41) 0 p0)) 41 (upd (upd (g 41) 0 p0) 6 ((g 26) 0))) gl hh (va_up v 2439 (.ref t0)) tx) rfl (Wa_41 _ _ _ _ _ _ _) (by decide) (Ws_41 _ _ _ _ _ _ _ _)) ?_
  refine WP.run hP_2 6 (c' := (46, [some (.ref 38), some (.ref 19), some (.int p0), some (.ref t0)], [.int 2, .ref 26, .int 7, .ref 41], Wd (va_up f 2440 ((g 23) p0.toNatClampNeg)) fl (va_up (va_up g 41 (upd (g 41) 0 p0)) 41 (upd (upd (g 41) 0 p0) 6 ((g 26) 0))) gl hh (va_up v 2439 (.ref t0)) tx)) rfl ?_
  refine WP.of (fun _ _ => Ex.iald hP_2 rfl (Wa_26 _ _ _ _ _ _ _) (by decide)) ?_
  show WP X _ 2 (47, [some (.ref 38), some (.ref 19), some (.int p0), some (.ref t0)], [.int ((g 26) 2), .int 7, .ref 41], Wd (va_up f 2440 ((g 23) p0.toNatClampNeg)) fl (va_up (va_up g 41 (upd (g 41) 0 p0)) 41 (upd (upd (g 41) 0 p0) 6 ((g 26) 0))) gl hh (va_up v 2439 (.ref t0)) tx) P
  refine WP.of (fun _ _ => Ex.iast hP_2 (w2 := Wd (va_up f 2440 ((g 23) p0.toNatClampNeg)) fl (va_up (va_up (va_up g 41 (upd (g 41) 0 p0)) 41 (upd (upd (g 41) 0 p0) 6 ((g 26) 0))) 41 (upd (upd (upd (g 41) 0 p0) 6 ((g 26) 0)) 7 ((g 26) 2))) gl hh (va_up v 2439 (.ref t0)) tx) rfl (Wa_41 _ _ _ _ _ _ _) (by decide) (Ws_41 _ _ _ _ _ _ _ _)) ?_
  exact WP.ret hP_2 (r := none) (w' := Wd (va_up f 2440 ((g 23) p0.toNatClampNeg)) fl (va_up (va_up (va_up g 41 (upd (g 41) 0 p0)) 41 (upd (upd (g 41) 0 p0) 6 ((g 26) 0))) 41 (upd (upd (upd (g 41) 0 p0) 6 ((g 26) 0)) 7 ((g 26) 2))) gl hh (va_up v 2439 (.ref t0)) tx) rfl h1

set_option maxRecDepth 20000 in
theorem b_yca_choose_19t_0 (X : mm_X) (d : Nat) (f : Nat → Int32) (fl : Nat → Int64) (g : Nat → Nat → Int32) (gl : Nat → Nat → Int64) (hh : Nat → Nat → Option Nat) (v : Nat → Value) (tx : mm_W) (p0 : Int32) (t0 : Nat)  (P : Option Value → mm_W → Prop)
    (h : WP X (d) 2 (0, [some (.ref 38), some (.ref 19), some (.int p0), some (.ref t0)], [], Wd f fl g gl hh v tx) (fun rv w2 => WP X (d + 1) 7 (7, [some (.ref 38), some (.ref 19), some (.int p0), some (.ref t0), none], rv.toList ++ [], w2) P)) :
    WP X (d + 1) 7 (0, [some (.ref 38), some (.ref 19), some (.int p0), some (.ref t0), none], [], Wd f fl g gl hh v tx) P := by
  refine WP.run hP_7 4 (c' := (4, [some (.ref 38), some (.ref 19), some (.int p0), some (.ref t0), none], [.ref t0, .int p0, .ref 19, .ref 38], Wd f fl g gl hh v tx)) rfl ?_
  refine WP.call hP_7 hP_2 (as := [.ref 38, .ref 19, .int p0, .ref t0]) (pc' := 7) (L' := [some (.ref 38), some (.ref 19), some (.int p0), some (.ref t0), none]) (st' := []) (w1 := Wd f fl g gl hh v tx) rfl ⟨Nat.le_of_ble_eq_true rfl, Nat.le_of_ble_eq_true rfl⟩ rfl ?_
  exact h

set_option maxRecDepth 20000 in
theorem b_yca_choose_19t_7 (X : mm_X) (d : Nat) (f : Nat → Int32) (fl : Nat → Int64) (g : Nat → Nat → Int32) (gl : Nat → Nat → Int64) (hh : Nat → Nat → Option Nat) (v : Nat → Value) (tx : mm_W) (l2 : Int32) (t0 : Nat)  (P : Option Value → mm_W → Prop)
    (h : WP X (d) 7 (10, [some (.ref 38), some (.ref 19), none, none, some (.int 0)], [], Wd f fl g gl hh v tx) P) :
    WP X (d) 7 (7, [some (.ref 38), some (.ref 19), some (.int l2), some (.ref t0), none], [], Wd f fl g gl hh v tx) P := by
  refine WP.run hP_7 2 (c' := (10, [some (.ref 38), some (.ref 19), some (.int l2), some (.ref t0), some (.int 0)], [], Wd f fl g gl hh v tx)) rfl ?_
  refine WP.clr hP_7 (pc := 10) rfl ?_
  exact h

set_option maxRecDepth 20000 in
theorem b_yca_choose_19t_10 (X : mm_X) (d : Nat) (f : Nat → Int32) (fl : Nat → Int64) (g : Nat → Nat → Int32) (gl : Nat → Nat → Int64) (hh : Nat → Nat → Option Nat) (v : Nat → Value) (tx : mm_W) (l4 : Int32)  (P : Option Value → mm_W → Prop)
    (h : (((f 1216) ≤ l4) → WP X (d) 8 (0, [some (.ref 38), some (.ref 19), some (.int 0), none, none, none], [], Wd f fl g gl hh v tx) (fun rv w2 => WP X (d + 1) 7 (45, [some (.ref 38), some (.ref 19), none, none, none], rv.toList ++ [], w2) P)) ∧
    ((¬ ((f 1216) ≤ l4)) → WP X (d) 3 (0, [some (.ref 38), some (.ref 19), some (.int l4), none, none], [], Wd f fl g gl hh v tx) (fun rv w2 => WP X (d + 1) 7 (32, [some (.ref 38), some (.ref 19), none, none, some (.int l4)], rv.toList ++ [.int l4, .ref 42], w2) P))) :
    WP X (d + 1) 7 (10, [some (.ref 38), some (.ref 19), none, none, some (.int l4)], [], Wd f fl g gl hh v tx) P := by
  refine WP.run hP_7 3 (c' := (16, [some (.ref 38), some (.ref 19), none, none, some (.int l4)], [.int (f 1216), .int l4], Wd f fl g gl hh v tx)) rfl ?_
  refine WP.br hP_7 (q := (f 1216) ≤ l4) (t := 39) (f := 19) (L := [some (.ref 38), some (.ref 19), none, none, some (.int l4)]) (st := []) (w := Wd f fl g gl hh v tx) rfl (fun c1 => ?_) (fun c1 => ?_)
  · have h2 := h.1 c1
    refine WP.run hP_7 3 (c' := (42, [some (.ref 38), some (.ref 19), none, none, none], [.int 0, .ref 19, .ref 38], Wd f fl g gl hh v tx)) rfl ?_
    refine WP.call hP_7 hP_8 (as := [.ref 38, .ref 19, .int 0]) (pc' := 45) (L' := [some (.ref 38), some (.ref 19), none, none, none]) (st' := []) (w1 := Wd f fl g gl hh v tx) rfl ⟨Nat.le_of_ble_eq_true rfl, Nat.le_of_ble_eq_true rfl⟩ rfl ?_
    exact h2
  · have h3 := h.2 c1
    refine WP.run hP_7 6 (c' := (29, [some (.ref 38), some (.ref 19), none, none, some (.int l4)], [.int l4, .ref 19, .ref 38, .int l4, .ref 42], Wd f fl g gl hh v tx)) rfl ?_
    refine WP.call hP_7 hP_3 (as := [.ref 38, .ref 19, .int l4]) (pc' := 32) (L' := [some (.ref 38), some (.ref 19), none, none, some (.int l4)]) (st' := [.int l4, .ref 42]) (w1 := Wd f fl g gl hh v tx) rfl ⟨Nat.le_of_ble_eq_true rfl, Nat.le_of_ble_eq_true rfl⟩ rfl ?_
    exact h3

set_option maxRecDepth 20000 in
theorem b_yca_choose_19t_45 (X : mm_X) (d : Nat) (f : Nat → Int32) (fl : Nat → Int64) (g : Nat → Nat → Int32) (gl : Nat → Nat → Int64) (hh : Nat → Nat → Option Nat) (v : Nat → Value) (tx : mm_W) (s0 : Int32)  (P : Option Value → mm_W → Prop)
    (h : (s0 = 0 ∨ s0 = 1) ∧ P (some (.int s0)) (Wd f fl g gl hh v tx)) :
    WP X (d) 7 (45, [some (.ref 38), some (.ref 19), none, none, none], [.int s0], Wd f fl g gl hh v tx) P := by
  exact WP.retZ hP_7 rfl rfl h.1 h.2

set_option maxRecDepth 20000 in
theorem b_yca_choose_19t_32 (X : mm_X) (d : Nat) (f : Nat → Int32) (fl : Nat → Int64) (g : Nat → Nat → Int32) (gl : Nat → Nat → Int64) (hh : Nat → Nat → Option Nat) (v : Nat → Value) (tx : mm_W) (l4 : Int32) (s0 : Int32) (s1 : Int32)  (P : Option Value → mm_W → Prop)
    (h : (¬ (s1 < 0 ∨ 8 ≤ s1.toNatClampNeg)) ∧ WP X (d) 7 (10, [some (.ref 38), some (.ref 19), none, none, some (.int (l4 + (1 : Int32)))], [], Wd f fl (va_up g 42 (upd (g 42) (s1.toNatClampNeg) s0)) gl hh v tx) P) :
    WP X (d) 7 (32, [some (.ref 38), some (.ref 19), none, none, some (.int l4)], [.int s0, .int s1, .ref 42], Wd f fl g gl hh v tx) P := by
  refine WP.of (fun _ _ => Ex.iast hP_7 (w2 := Wd f fl (va_up g 42 (upd (g 42) (s1.toNatClampNeg) s0)) gl hh v tx) rfl (Wa_42 _ _ _ _ _ _ _) h.1 (Ws_42 _ _ _ _ _ _ _ _)) ?_
  have h1 := h.2
  refine WP.run hP_7 2 (c' := (10, [some (.ref 38), some (.ref 19), none, none, some (.int (l4 + (1 : Int32)))], [], Wd f fl (va_up g 42 (upd (g 42) (s1.toNatClampNeg) s0)) gl hh v tx)) rfl ?_
  exact h1

set_option maxRecDepth 20000 in
theorem b_yca_lawTells_n_0 (X : mm_X) (d : Nat) (f : Nat → Int32) (fl : Nat → Int64) (g : Nat → Nat → Int32) (gl : Nat → Nat → Int64) (hh : Nat → Nat → Option Nat) (v : Nat → Value) (tx : mm_W) (p0 : Int32) (p1 : Int32) (e0 : v 2439 = .null) (P : Option Value → mm_W → Prop)
    (h : P (some (.long (-4000000000000000000))) (Wd f fl g gl hh v tx)) :
    WP X (d) 6 (0, [some (.ref 38), some (.int p0), some (.int p1), none, none, none], [], Wd f fl g gl hh v tx) P := by
  refine WP.run hP_6 2 (c' := (4, [some (.ref 38), some (.int p0), some (.int p1), none, none, none], [(v 2439)], Wd f fl g gl hh v tx)) rfl ?_
  rw [e0]
  refine WP.run hP_6 2 (c' := (10, [some (.ref 38), some (.int p0), some (.int p1), none, none, none], [.long (-4000000000000000000)], Wd f fl g gl hh v tx)) rfl ?_
  exact WP.ret hP_6 (r := some (.long (-4000000000000000000))) (w' := Wd f fl g gl hh v tx) rfl h

set_option maxRecDepth 20000 in
theorem b_x_asks_0 (X : mm_X) (d : Nat) (f : Nat → Int32) (fl : Nat → Int64) (g : Nat → Nat → Int32) (gl : Nat → Nat → Int64) (hh : Nat → Nat → Option Nat) (v : Nat → Value) (tx : mm_W) (p0 : Int32) (p1 : Int32) (p2 : Int32) (t0 : Nat)  (P : Option Value → mm_W → Prop)
    (h : ((0 ≤ p0 ∧ p0 < (f 68)) → (((0 ≤ (f 76) ∧ (f 76) < (f 74)) → ((¬ ((f 76) < 0 ∨ 6 ≤ (f 76).toNatClampNeg)) ∧ (((mm_rf ((hh 7) (f 76).toNatClampNeg)) = .ref t0) ∧ WP X (d + 1) 2 (0, [some (.ref 38), some (.ref 1), some (.int p0), some (.ref t0)], [], Wd f fl g gl hh v tx) (fun rv w2 => WP X (d + 2) 62 (35, [some (.ref 0), some (.int p0), some (.int p1), some (.int p2)], rv.toList ++ [], w2) P)))) ∧
      ((¬ (0 ≤ (f 76) ∧ (f 76) < (f 74))) → WP X (d + 1) 2 (0, [some (.ref 38), some (.ref 1), some (.int p0), some (.null)], [], Wd f fl g gl hh v tx) (fun rv w2 => WP X (d + 2) 62 (35, [some (.ref 0), some (.int p0), some (.int p1), some (.int p2)], rv.toList ++ [], w2) P)))) ∧
    ((¬ (0 ≤ p0 ∧ p0 < (f 68))) → P (some (.int (-1))) (Wd f fl g gl hh v tx))) :
    WP X (d + 2) 62 (0, [some (.ref 0), some (.int p0), some (.int p1), some (.int p2)], [], Wd f fl g gl hh v tx) P := by
  refine WP.run hP_62 4 (c' := (8, [some (.ref 0), some (.int p0), some (.int p1), some (.int p2)], [.int (f 68), .int p0], Wd f fl g gl hh v tx)) rfl ?_
  refine WP.call hP_62 hP_99 (as := [.int p0, .int (f 68)]) (pc' := 11) (L' := [some (.ref 0), some (.int p0), some (.int p1), some (.int p2)]) (st' := []) (w1 := Wd f fl g gl hh v tx) rfl ⟨Nat.le_of_ble_eq_true rfl, Nat.le_of_ble_eq_true rfl⟩ rfl (b_within_m X (d + 1) f fl g gl hh v tx p0 (f 68) _ ?_)
  refine ⟨fun c1 => ?_, fun c1 => ?_⟩
  · have h2 := h.1 c1
    refine WP.run hP_62 8 (c' := (29, [some (.ref 0), some (.int p0), some (.int p1), some (.int p2)], [.ref 1, .int p0, .ref 1, .ref 38], Wd f fl g gl hh v tx)) rfl ?_
    refine WP.call hP_62 hP_46 (as := [.ref 1]) (pc' := 32) (L' := [some (.ref 0), some (.int p0), some (.int p1), some (.int p2)]) (st' := [.int p0, .ref 1, .ref 38]) (w1 := Wd f fl g gl hh v tx) rfl ⟨Nat.le_of_ble_eq_true rfl, Nat.le_of_ble_eq_true rfl⟩ rfl (b_yst_lawInForce_1_0 X (d) f fl g gl hh v tx  _ ?_)
    refine ⟨fun c3 => ?_, fun c3 => ?_⟩
    · have h4 := h2.1 c3
      refine ⟨h4.1, ?_⟩
      have h5 := h4.2
      rw [h5.1]
      have h6 := h5.2
      refine WP.call hP_62 hP_2 (as := [.ref 38, .ref 1, .int p0, .ref t0]) (pc' := 35) (L' := [some (.ref 0), some (.int p0), some (.int p1), some (.int p2)]) (st' := []) (w1 := Wd f fl g gl hh v tx) rfl ⟨Nat.le_of_ble_eq_true rfl, Nat.le_of_ble_eq_true rfl⟩ rfl ?_
      exact h6
    · have h7 := h2.2 c3
      refine WP.call hP_62 hP_2 (as := [.ref 38, .ref 1, .int p0, .null]) (pc' := 35) (L' := [some (.ref 0), some (.int p0), some (.int p1), some (.int p2)]) (st' := []) (w1 := Wd f fl g gl hh v tx) rfl ⟨Nat.le_of_ble_eq_true rfl, Nat.le_of_ble_eq_true rfl⟩ rfl ?_
      exact h7
  · have h8 := h.2 c1
    refine WP.run hP_62 2 (c' := (15, [some (.ref 0), some (.int p0), some (.int p1), some (.int p2)], [.int (-1)], Wd f fl g gl hh v tx)) rfl ?_
    exact WP.retI hP_62 rfl rfl h8

set_option maxRecDepth 20000 in
theorem b_x_asks_35 (X : mm_X) (d : Nat) (f : Nat → Int32) (fl : Nat → Int64) (g : Nat → Nat → Int32) (gl : Nat → Nat → Int64) (hh : Nat → Nat → Option Nat) (v : Nat → Value) (tx : mm_W) (l1 : Int32) (l2 : Int32) (l3 : Int32)  (P : Option Value → mm_W → Prop)
    (h : ((¬ l3 = 0) → (((¬ l3 = 1) → (((¬ l3 = 2) → P (some (.int (-1))) (Wd f fl g gl hh v tx)) ∧
        ((l3 = 2) → (((0 ≤ l2 ∧ l2 < (6 : Int32)) → WP X (d) 5 (0, [some (.ref 38), some (.int l2)], [], Wd f fl g gl hh v tx) (fun rv w2 => WP X (d + 1) 62 (105, [some (.ref 0), none, some (.int l2), some (.int l3)], rv.toList ++ [], w2) P)) ∧
          ((¬ (0 ≤ l2 ∧ l2 < (6 : Int32))) → P (some (.int (-1))) (Wd f fl g gl hh v tx)))))) ∧
      ((l3 = 1) → WP X (d) 4 (0, [some (.ref 38), none, none], [], Wd f fl g gl hh v tx) (fun rv w2 => WP X (d + 1) 62 (82, [some (.ref 0), none, some (.int l2), some (.int l3)], rv.toList ++ [], w2) P)))) ∧
    ((l3 = 0) → (((0 ≤ l2 ∧ l2 < (f 64)) → WP X (d) 3 (0, [some (.ref 38), some (.ref 1), some (.int l2), none, none], [], Wd f fl g gl hh v tx) (fun rv w2 => WP X (d + 1) 62 (65, [some (.ref 0), some (.int l1), some (.int l2), some (.int l3)], rv.toList ++ [], w2) P)) ∧
      ((¬ (0 ≤ l2 ∧ l2 < (f 64))) → P (some (.int (-1))) (Wd f fl g gl hh v tx))))) :
    WP X (d + 1) 62 (35, [some (.ref 0), some (.int l1), some (.int l2), some (.int l3)], [], Wd f fl g gl hh v tx) P := by
  refine WP.run hP_62 1 (c' := (36, [some (.ref 0), some (.int l1), some (.int l2), some (.int l3)], [.int l3], Wd f fl g gl hh v tx)) rfl ?_
  refine WP.br hP_62 (q := ¬ l3 = 0) (t := 70) (f := 39) (L := [some (.ref 0), some (.int l1), some (.int l2), some (.int l3)]) (st := []) (w := Wd f fl g gl hh v tx) rfl (fun c1 => ?_) (fun c1 => ?_)
  · have h2 := h.1 c1
    refine WP.run hP_62 2 (c' := (72, [some (.ref 0), none, some (.int l2), some (.int l3)], [.int 1, .int l3], Wd f fl g gl hh v tx)) rfl ?_
    refine WP.br hP_62 (q := ¬ l3 = 1) (t := 83) (f := 75) (L := [some (.ref 0), none, some (.int l2), some (.int l3)]) (st := []) (w := Wd f fl g gl hh v tx) rfl (fun c3 => ?_) (fun c3 => ?_)
    · have h4 := h2.1 c3
      refine WP.run hP_62 2 (c' := (85, [some (.ref 0), none, some (.int l2), some (.int l3)], [.int 2, .int l3], Wd f fl g gl hh v tx)) rfl ?_
      refine WP.br hP_62 (q := ¬ l3 = 2) (t := 114) (f := 88) (L := [some (.ref 0), none, some (.int l2), some (.int l3)]) (st := []) (w := Wd f fl g gl hh v tx) rfl (fun c5 => ?_) (fun c5 => ?_)
      · have h6 := h4.1 c5
        refine WP.run hP_62 1 (c' := (115, [none, none, none, none], [.int (-1)], Wd f fl g gl hh v tx)) rfl ?_
        exact WP.retI hP_62 rfl rfl h6
      · have h7 := h4.2 (Classical.not_not.mp c5)
        refine WP.run hP_62 2 (c' := (91, [some (.ref 0), none, some (.int l2), some (.int l3)], [.int 6, .int l2], Wd f fl g gl hh v tx)) rfl ?_
        refine WP.call hP_62 hP_99 (as := [.int l2, .int 6]) (pc' := 94) (L' := [some (.ref 0), none, some (.int l2), some (.int l3)]) (st' := []) (w1 := Wd f fl g gl hh v tx) rfl ⟨Nat.le_of_ble_eq_true rfl, Nat.le_of_ble_eq_true rfl⟩ rfl (b_within_m X (d) f fl g gl hh v tx l2 6 _ ?_)
        refine ⟨fun c8 => ?_, fun c8 => ?_⟩
        · have h9 := h7.1 c8
          refine WP.run hP_62 4 (c' := (102, [some (.ref 0), none, some (.int l2), some (.int l3)], [.int l2, .ref 38], Wd f fl g gl hh v tx)) rfl ?_
          refine WP.call hP_62 hP_5 (as := [.ref 38, .int l2]) (pc' := 105) (L' := [some (.ref 0), none, some (.int l2), some (.int l3)]) (st' := []) (w1 := Wd f fl g gl hh v tx) rfl ⟨Nat.le_of_ble_eq_true rfl, Nat.le_of_ble_eq_true rfl⟩ rfl ?_
          exact h9
        · have h10 := h7.2 c8
          refine WP.run hP_62 2 (c' := (115, [none, none, none, none], [.int (-1)], Wd f fl g gl hh v tx)) rfl ?_
          exact WP.retI hP_62 rfl rfl h10
    · have h11 := h2.2 (Classical.not_not.mp c3)
      refine WP.run hP_62 2 (c' := (79, [some (.ref 0), none, some (.int l2), some (.int l3)], [.ref 38], Wd f fl g gl hh v tx)) rfl ?_
      refine WP.call hP_62 hP_4 (as := [.ref 38]) (pc' := 82) (L' := [some (.ref 0), none, some (.int l2), some (.int l3)]) (st' := []) (w1 := Wd f fl g gl hh v tx) rfl ⟨Nat.le_of_ble_eq_true rfl, Nat.le_of_ble_eq_true rfl⟩ rfl ?_
      exact h11
  · have h12 := h.2 (Classical.not_not.mp c1)
    refine WP.run hP_62 4 (c' := (47, [some (.ref 0), some (.int l1), some (.int l2), some (.int l3)], [.int (f 64), .int l2], Wd f fl g gl hh v tx)) rfl ?_
    refine WP.call hP_62 hP_99 (as := [.int l2, .int (f 64)]) (pc' := 50) (L' := [some (.ref 0), some (.int l1), some (.int l2), some (.int l3)]) (st' := []) (w1 := Wd f fl g gl hh v tx) rfl ⟨Nat.le_of_ble_eq_true rfl, Nat.le_of_ble_eq_true rfl⟩ rfl (b_within_m X (d) f fl g gl hh v tx l2 (f 64) _ ?_)
    refine ⟨fun c13 => ?_, fun c13 => ?_⟩
    · have h14 := h12.1 c13
      refine WP.run hP_62 6 (c' := (62, [some (.ref 0), some (.int l1), some (.int l2), some (.int l3)], [.int l2, .ref 1, .ref 38], Wd f fl g gl hh v tx)) rfl ?_
      refine WP.call hP_62 hP_3 (as := [.ref 38, .ref 1, .int l2]) (pc' := 65) (L' := [some (.ref 0), some (.int l1), some (.int l2), some (.int l3)]) (st' := []) (w1 := Wd f fl g gl hh v tx) rfl ⟨Nat.le_of_ble_eq_true rfl, Nat.le_of_ble_eq_true rfl⟩ rfl ?_
      exact h14
    · have h15 := h12.2 c13
      refine WP.run hP_62 2 (c' := (69, [none, none, none, none], [.int (-1)], Wd f fl g gl hh v tx)) rfl ?_
      exact WP.retI hP_62 rfl rfl h15

set_option maxRecDepth 20000 in
theorem b_x_asks_105 (X : mm_X) (d : Nat) (f : Nat → Int32) (fl : Nat → Int64) (g : Nat → Nat → Int32) (gl : Nat → Nat → Int64) (hh : Nat → Nat → Option Nat) (v : Nat → Value) (tx : mm_W) (l2 : Int32) (l3 : Int32) (s0 : Int32)  (P : Option Value → mm_W → Prop)
    (h : ((s0 = 0) → P (some (.int 0)) (Wd f fl g gl hh v tx)) ∧
    ((¬ s0 = 0) → P (some (.int 1)) (Wd f fl g gl hh v tx))) :
    WP X (d) 62 (105, [some (.ref 0), none, some (.int l2), some (.int l3)], [.int s0], Wd f fl g gl hh v tx) P := by
  refine WP.br hP_62 (q := s0 = 0) (t := 112) (f := 108) (L := [some (.ref 0), none, some (.int l2), some (.int l3)]) (st := []) (w := Wd f fl g gl hh v tx) rfl (fun c1 => ?_) (fun c1 => ?_)
  · have h2 := h.1 c1
    refine WP.run hP_62 1 (c' := (113, [none, none, none, none], [.int 0], Wd f fl g gl hh v tx)) rfl ?_
    exact WP.retI hP_62 rfl rfl h2
  · have h3 := h.2 c1
    refine WP.run hP_62 2 (c' := (113, [some (.ref 0), none, some (.int l2), some (.int l3)], [.int 1], Wd f fl g gl hh v tx)) rfl ?_
    exact WP.retI hP_62 rfl rfl h3

set_option maxRecDepth 20000 in
theorem b_x_asks_82 (X : mm_X) (d : Nat) (f : Nat → Int32) (fl : Nat → Int64) (g : Nat → Nat → Int32) (gl : Nat → Nat → Int64) (hh : Nat → Nat → Option Nat) (v : Nat → Value) (tx : mm_W) (l2 : Int32) (l3 : Int32) (s0 : Int32)  (P : Option Value → mm_W → Prop)
    (h : P (some (.int s0)) (Wd f fl g gl hh v tx)) :
    WP X (d) 62 (82, [some (.ref 0), none, some (.int l2), some (.int l3)], [.int s0], Wd f fl g gl hh v tx) P := by
  exact WP.retI hP_62 rfl rfl h

set_option maxRecDepth 20000 in
theorem b_x_asks_65 (X : mm_X) (d : Nat) (f : Nat → Int32) (fl : Nat → Int64) (g : Nat → Nat → Int32) (gl : Nat → Nat → Int64) (hh : Nat → Nat → Option Nat) (v : Nat → Value) (tx : mm_W) (l1 : Int32) (l2 : Int32) (l3 : Int32) (s0 : Int32)  (P : Option Value → mm_W → Prop)
    (h : P (some (.int s0)) (Wd f fl g gl hh v tx)) :
    WP X (d) 62 (65, [some (.ref 0), some (.int l1), some (.int l2), some (.int l3)], [.int s0], Wd f fl g gl hh v tx) P := by
  refine WP.run hP_62 1 (c' := (69, [some (.ref 0), some (.int l1), some (.int l2), some (.int l3)], [.int s0], Wd f fl g gl hh v tx)) rfl ?_
  exact WP.retI hP_62 rfl rfl h

set_option maxRecDepth 20000 in
theorem b_x_reads_0 (X : mm_X) (d : Nat) (f : Nat → Int32) (fl : Nat → Int64) (g : Nat → Nat → Int32) (gl : Nat → Nat → Int64) (hh : Nat → Nat → Option Nat) (v : Nat → Value) (tx : mm_W) (p0 : Int32) (p1 : Int32) (t0 : Nat)  (P : Option Value → mm_W → Prop)
    (h : ((0 ≤ p0 ∧ p0 < (f 68)) → (((0 ≤ (f 76) ∧ (f 76) < (f 74)) → ((¬ ((f 76) < 0 ∨ 6 ≤ (f 76).toNatClampNeg)) ∧ (((mm_rf ((hh 7) (f 76).toNatClampNeg)) = .ref t0) ∧ WP X (d + 1) 7 (0, [some (.ref 38), some (.ref 1), some (.int p0), some (.ref t0), none], [], Wd f fl g gl hh v tx) (fun rv w2 => WP X (d + 2) 80 (33, [some (.ref 0), some (.int p0), some (.int p1)], rv.toList ++ [], w2) P)))) ∧
      ((¬ (0 ≤ (f 76) ∧ (f 76) < (f 74))) → WP X (d + 1) 7 (0, [some (.ref 38), some (.ref 1), some (.int p0), some (.null), none], [], Wd f fl g gl hh v tx) (fun rv w2 => WP X (d + 2) 80 (33, [some (.ref 0), some (.int p0), some (.int p1)], rv.toList ++ [], w2) P)))) ∧
    ((¬ (0 ≤ p0 ∧ p0 < (f 68))) → P (some (.int (-1))) (Wd f fl g gl hh v tx))) :
    WP X (d + 2) 80 (0, [some (.ref 0), some (.int p0), some (.int p1)], [], Wd f fl g gl hh v tx) P := by
  refine WP.run hP_80 4 (c' := (8, [some (.ref 0), some (.int p0), some (.int p1)], [.int (f 68), .int p0], Wd f fl g gl hh v tx)) rfl ?_
  refine WP.call hP_80 hP_99 (as := [.int p0, .int (f 68)]) (pc' := 11) (L' := [some (.ref 0), some (.int p0), some (.int p1)]) (st' := []) (w1 := Wd f fl g gl hh v tx) rfl ⟨Nat.le_of_ble_eq_true rfl, Nat.le_of_ble_eq_true rfl⟩ rfl (b_within_m X (d + 1) f fl g gl hh v tx p0 (f 68) _ ?_)
  refine ⟨fun c1 => ?_, fun c1 => ?_⟩
  · have h2 := h.1 c1
    refine WP.run hP_80 8 (c' := (27, [some (.ref 0), some (.int p0), some (.int p1)], [.ref 1, .int p0, .ref 1, .ref 38], Wd f fl g gl hh v tx)) rfl ?_
    refine WP.call hP_80 hP_46 (as := [.ref 1]) (pc' := 30) (L' := [some (.ref 0), some (.int p0), some (.int p1)]) (st' := [.int p0, .ref 1, .ref 38]) (w1 := Wd f fl g gl hh v tx) rfl ⟨Nat.le_of_ble_eq_true rfl, Nat.le_of_ble_eq_true rfl⟩ rfl (b_yst_lawInForce_1_0 X (d) f fl g gl hh v tx  _ ?_)
    refine ⟨fun c3 => ?_, fun c3 => ?_⟩
    · have h4 := h2.1 c3
      refine ⟨h4.1, ?_⟩
      have h5 := h4.2
      rw [h5.1]
      have h6 := h5.2
      refine WP.call hP_80 hP_7 (as := [.ref 38, .ref 1, .int p0, .ref t0]) (pc' := 33) (L' := [some (.ref 0), some (.int p0), some (.int p1)]) (st' := []) (w1 := Wd f fl g gl hh v tx) rfl ⟨Nat.le_of_ble_eq_true rfl, Nat.le_of_ble_eq_true rfl⟩ rfl ?_
      exact h6
    · have h7 := h2.2 c3
      refine WP.call hP_80 hP_7 (as := [.ref 38, .ref 1, .int p0, .null]) (pc' := 33) (L' := [some (.ref 0), some (.int p0), some (.int p1)]) (st' := []) (w1 := Wd f fl g gl hh v tx) rfl ⟨Nat.le_of_ble_eq_true rfl, Nat.le_of_ble_eq_true rfl⟩ rfl ?_
      exact h7
  · have h8 := h.2 c1
    refine WP.run hP_80 2 (c' := (37, [none, none, none], [.int (-1)], Wd f fl g gl hh v tx)) rfl ?_
    exact WP.retI hP_80 rfl rfl h8

set_option maxRecDepth 20000 in
theorem b_x_reads_33 (X : mm_X) (d : Nat) (f : Nat → Int32) (fl : Nat → Int64) (g : Nat → Nat → Int32) (gl : Nat → Nat → Int64) (hh : Nat → Nat → Option Nat) (v : Nat → Value) (tx : mm_W) (l1 : Int32) (l2 : Int32) (s0 : Int32)  (P : Option Value → mm_W → Prop)
    (h : ((¬ s0 = 0) → (((¬ l2 = (-1)) → (((0 ≤ l2 ∧ l2 < (f 2437)) → ((¬ (l2 < 0 ∨ 12 ≤ l2.toNatClampNeg)) ∧ P (some (.int ((g 44) l2.toNatClampNeg))) (Wd f fl g gl hh v tx))) ∧
        ((¬ (0 ≤ l2 ∧ l2 < (f 2437))) → P (some (.int (-1))) (Wd f fl g gl hh v tx)))) ∧
      ((l2 = (-1)) → P (some (.int (f 2437))) (Wd f fl g gl hh v tx)))) ∧
    ((s0 = 0) → P (some (.int (-1))) (Wd f fl g gl hh v tx))) :
    WP X (d + 2) 80 (33, [some (.ref 0), some (.int l1), some (.int l2)], [.int s0], Wd f fl g gl hh v tx) P := by
  refine WP.br hP_80 (q := ¬ s0 = 0) (t := 38) (f := 36) (L := [some (.ref 0), some (.int l1), some (.int l2)]) (st := []) (w := Wd f fl g gl hh v tx) rfl (fun c1 => ?_) (fun c1 => ?_)
  · have h2 := h.1 c1
    refine WP.run hP_80 6 (c' := (50, [some (.ref 0), none, some (.int l2)], [.int l2, .int (f 2437), .ref 38], Wd f fl g gl hh v tx)) rfl ?_
    refine WP.call hP_80 hP_10 (as := [.ref 38, .int (f 2437), .int l2]) (pc' := 53) (L' := [some (.ref 0), none, some (.int l2)]) (st' := []) (w1 := Wd f fl g gl hh v tx) rfl ⟨Nat.le_of_ble_eq_true rfl, Nat.le_of_ble_eq_true rfl⟩ rfl (b_yca_told_38_0 X (d) f fl g gl hh v tx (f 2437) l2 _ ?_)
    refine ⟨fun c3 => ?_, fun c3 => ?_⟩
    · have h4 := h2.1 c3
      refine ⟨fun c5 => ?_, fun c5 => ?_⟩
      · have h6 := h4.1 c5
        refine ⟨h6.1, ?_⟩
        have h7 := h6.2
        exact WP.retI hP_80 rfl rfl h7
      · have h8 := h4.2 c5
        exact WP.retI hP_80 rfl rfl h8
    · have h9 := h2.2 c3
      exact WP.retI hP_80 rfl rfl h9
  · have h10 := h.2 (Classical.not_not.mp c1)
    refine WP.run hP_80 1 (c' := (37, [none, none, none], [.int (-1)], Wd f fl g gl hh v tx)) rfl ?_
    exact WP.retI hP_80 rfl rfl h10
