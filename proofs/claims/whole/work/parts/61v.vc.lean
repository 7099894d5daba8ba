set_option maxRecDepth 20000 in
theorem b_x_ahead_0 (X : mm_X) (d : Nat) (f : Nat → Int32) (fl : Nat → Int64) (g : Nat → Nat → Int32) (gl : Nat → Nat → Int64) (hh : Nat → Nat → Option Nat) (v : Nat → Value) (tx : mm_W) (p0 : Int32) (p1 : Int32) (p2 : Int32)  (P : Option Value → mm_W → Prop)
    (h : ((p1 = 0) → P (some (.int (p0 + ((5 : Int32) * (if ((4 : Int32) - (p0 / (5 : Int32))) < p2 then ((4 : Int32) - (p0 / (5 : Int32))) else p2))))) (Wd f fl g gl hh v tx)) ∧
    ((¬ p1 = 0) → (((p1 = 1) → P (some (.int (p0 + (if ((4 : Int32) - (p0 - (p0 / (5 : Int32)) * (5 : Int32))) < p2 then ((4 : Int32) - (p0 - (p0 / (5 : Int32)) * (5 : Int32))) else p2)))) (Wd f fl g gl hh v tx)) ∧
      ((¬ p1 = 1) → (((p1 = 2) → P (some (.int (p0 - ((5 : Int32) * (if (p0 / (5 : Int32)) < p2 then (p0 / (5 : Int32)) else p2))))) (Wd f fl g gl hh v tx)) ∧
        ((¬ p1 = 2) → P (some (.int (p0 - (if (p0 - (p0 / (5 : Int32)) * (5 : Int32)) < p2 then (p0 - (p0 / (5 : Int32)) * (5 : Int32)) else p2)))) (Wd f fl g gl hh v tx))))))) :
    WP X (d) 115 (0, [some (.int p0), some (.int p1), some (.int p2), none, none], [], Wd f fl g gl hh v tx) P := by
  refine WP.run hP_115 7 (c' := (7, [some (.int p0), some (.int p1), some (.int p2), some (.int (p0 - (p0 / (5 : Int32)) * (5 : Int32))), none], [.int (p0 / (5 : Int32))], Wd f fl g gl hh v tx)) rfl ?_
  refine WP.run hP_115 2 (c' := (10, [some (.int p0), some (.int p1), some (.int p2), some (.int (p0 - (p0 / (5 : Int32)) * (5 : Int32))), some (.int (p0 / (5 : Int32)))], [.int p1], Wd f fl g gl hh v tx)) rfl ?_
  refine WP.run hP_115 1 (c' := (mm_sw p1 0 [36, 49, 59] 70, [some (.int p0), some (.int p1), some (.int p2), some (.int (p0 - (p0 / (5 : Int32)) * (5 : Int32))), some (.int (p0 / (5 : Int32)))], [], Wd f fl g gl hh v tx)) rfl ?_
  refine WP.sw (lo' := 1) rfl (fun c1 => ?_) (fun c1 => ?_)
  · have h2 := h.1 c1
    refine WP.run hP_115 9 (c' := (48, [some (.int p0), none, some (.int p2), none, some (.int (p0 / (5 : Int32)))], [.int (p0 + ((5 : Int32) * (if ((4 : Int32) - (p0 / (5 : Int32))) < p2 then ((4 : Int32) - (p0 / (5 : Int32))) else p2)))], Wd f fl g gl hh v tx)) rfl ?_
    exact WP.retI hP_115 rfl rfl h2
  · have h3 := h.2 c1
    refine WP.sw (lo' := 2) rfl (fun c4 => ?_) (fun c4 => ?_)
    · have h5 := h3.1 c4
      refine WP.run hP_115 7 (c' := (58, [some (.int p0), none, some (.int p2), some (.int (p0 - (p0 / (5 : Int32)) * (5 : Int32))), none], [.int (p0 + (if ((4 : Int32) - (p0 - (p0 / (5 : Int32)) * (5 : Int32))) < p2 then ((4 : Int32) - (p0 - (p0 / (5 : Int32)) * (5 : Int32))) else p2))], Wd f fl g gl hh v tx)) rfl ?_
      exact WP.retI hP_115 rfl rfl h5
    · have h6 := h3.2 c4
      refine WP.sw (lo' := 3) rfl (fun c7 => ?_) (fun c7 => ?_)
      · have h8 := h6.1 c7
        refine WP.run hP_115 7 (c' := (69, [some (.int p0), none, some (.int p2), none, some (.int (p0 / (5 : Int32)))], [.int (p0 - ((5 : Int32) * (if (p0 / (5 : Int32)) < p2 then (p0 / (5 : Int32)) else p2)))], Wd f fl g gl hh v tx)) rfl ?_
        exact WP.retI hP_115 rfl rfl h8
      · have h9 := h6.2 c7
        show WP X _ 115 (70, [some (.int p0), some (.int p1), some (.int p2), some (.int (p0 - (p0 / (5 : Int32)) * (5 : Int32))), some (.int (p0 / (5 : Int32)))], [], Wd f fl g gl hh v tx) P
        refine WP.run hP_115 5 (c' := (77, [some (.int p0), none, some (.int p2), some (.int (p0 - (p0 / (5 : Int32)) * (5 : Int32))), none], [.int (p0 - (if (p0 - (p0 / (5 : Int32)) * (5 : Int32)) < p2 then (p0 - (p0 / (5 : Int32)) * (5 : Int32)) else p2))], Wd f fl g gl hh v tx)) rfl ?_
        exact WP.retI hP_115 rfl rfl h9

set_option maxRecDepth 20000 in
theorem b_x_behind_0 (X : mm_X) (d : Nat) (f : Nat → Int32) (fl : Nat → Int64) (g : Nat → Nat → Int32) (gl : Nat → Nat → Int64) (hh : Nat → Nat → Option Nat) (v : Nat → Value) (tx : mm_W) (p0 : Int32) (p1 : Int32) (p2 : Int32)  (P : Option Value → mm_W → Prop)
    (h : ((p1 = 0) → (((((p0 / (10 : Int32)) - ((p0 / (10 : Int32)) / (4 : Int32)) * (4 : Int32)) = 0) → P (some (.int (p0 + (((((p0 / (40 : Int32)) + ((5 : Int32) * (if ((4 : Int32) - ((p0 / (40 : Int32)) / (5 : Int32))) < p2 then ((4 : Int32) - ((p0 / (40 : Int32)) / (5 : Int32))) else p2))) - (p0 / (40 : Int32))) * (4 : Int32)) * (10 : Int32))))) (Wd f fl g gl hh v tx)) ∧
      ((¬ ((p0 / (10 : Int32)) - ((p0 / (10 : Int32)) / (4 : Int32)) * (4 : Int32)) = 0) → (((((p0 / (10 : Int32)) - ((p0 / (10 : Int32)) / (4 : Int32)) * (4 : Int32)) = 1) → P (some (.int (p0 + (((((p0 / (40 : Int32)) + (if ((4 : Int32) - ((p0 / (40 : Int32)) - ((p0 / (40 : Int32)) / (5 : Int32)) * (5 : Int32))) < p2 then ((4 : Int32) - ((p0 / (40 : Int32)) - ((p0 / (40 : Int32)) / (5 : Int32)) * (5 : Int32))) else p2)) - (p0 / (40 : Int32))) * (4 : Int32)) * (10 : Int32))))) (Wd f fl g gl hh v tx)) ∧
        ((¬ ((p0 / (10 : Int32)) - ((p0 / (10 : Int32)) / (4 : Int32)) * (4 : Int32)) = 1) → (((((p0 / (10 : Int32)) - ((p0 / (10 : Int32)) / (4 : Int32)) * (4 : Int32)) = 2) → P (some (.int (p0 + (((((p0 / (40 : Int32)) - ((5 : Int32) * (if ((p0 / (40 : Int32)) / (5 : Int32)) < p2 then ((p0 / (40 : Int32)) / (5 : Int32)) else p2))) - (p0 / (40 : Int32))) * (4 : Int32)) * (10 : Int32))))) (Wd f fl g gl hh v tx)) ∧
          ((¬ ((p0 / (10 : Int32)) - ((p0 / (10 : Int32)) / (4 : Int32)) * (4 : Int32)) = 2) → P (some (.int (p0 + (((((p0 / (40 : Int32)) - (if ((p0 / (40 : Int32)) - ((p0 / (40 : Int32)) / (5 : Int32)) * (5 : Int32)) < p2 then ((p0 / (40 : Int32)) - ((p0 / (40 : Int32)) / (5 : Int32)) * (5 : Int32)) else p2)) - (p0 / (40 : Int32))) * (4 : Int32)) * (10 : Int32))))) (Wd f fl g gl hh v tx)))))))) ∧
    ((¬ p1 = 0) → (((p1 = 1) → P (some (.int (p0 + ((((((p0 / (10 : Int32)) - ((p0 / (10 : Int32)) / (4 : Int32)) * (4 : Int32)) + (3 : Int32)) - ((((p0 / (10 : Int32)) - ((p0 / (10 : Int32)) / (4 : Int32)) * (4 : Int32)) + (3 : Int32)) / (4 : Int32)) * (4 : Int32)) - ((p0 / (10 : Int32)) - ((p0 / (10 : Int32)) / (4 : Int32)) * (4 : Int32))) * (10 : Int32))))) (Wd f fl g gl hh v tx)) ∧
      ((¬ p1 = 1) → (((p1 = 2) → P (some (.int (p0 + ((((((p0 / (10 : Int32)) - ((p0 / (10 : Int32)) / (4 : Int32)) * (4 : Int32)) + (1 : Int32)) - ((((p0 / (10 : Int32)) - ((p0 / (10 : Int32)) / (4 : Int32)) * (4 : Int32)) + (1 : Int32)) / (4 : Int32)) * (4 : Int32)) - ((p0 / (10 : Int32)) - ((p0 / (10 : Int32)) / (4 : Int32)) * (4 : Int32))) * (10 : Int32))))) (Wd f fl g gl hh v tx)) ∧
        ((¬ p1 = 2) → (((p1 = 3) → P (some (.int (p0 + ((((((p0 / (10 : Int32)) - ((p0 / (10 : Int32)) / (4 : Int32)) * (4 : Int32)) + (2 : Int32)) - ((((p0 / (10 : Int32)) - ((p0 / (10 : Int32)) / (4 : Int32)) * (4 : Int32)) + (2 : Int32)) / (4 : Int32)) * (4 : Int32)) - ((p0 / (10 : Int32)) - ((p0 / (10 : Int32)) / (4 : Int32)) * (4 : Int32))) * (10 : Int32))))) (Wd f fl g gl hh v tx)) ∧
          ((¬ p1 = 3) → (((p1 = 4) → ((((p0 - (p0 / (10 : Int32)) * (10 : Int32)) ≤ 0) → P (some (.int p0)) (Wd f fl g gl hh v tx)) ∧
              ((¬ ((p0 - (p0 / (10 : Int32)) * (10 : Int32)) ≤ 0)) → P (some (.int (p0 - (1 : Int32)))) (Wd f fl g gl hh v tx)))) ∧
            ((¬ p1 = 4) → P (some (.int p0)) (Wd f fl g gl hh v tx))))))))))) :
    WP X (d + 1) 114 (0, [some (.int p0), some (.int p1), some (.int p2), none], [], Wd f fl g gl hh v tx) P := by
  refine WP.run hP_114 1 (c' := (1, [some (.int p0), some (.int p1), some (.int p2), none], [.int p0], Wd f fl g gl hh v tx)) rfl ?_
  refine WP.call hP_114 hP_111 (as := [.int p0]) (pc' := 4) (L' := [some (.int p0), some (.int p1), some (.int p2), none]) (st' := []) (w1 := Wd f fl g gl hh v tx) rfl ⟨Nat.le_of_ble_eq_true rfl, Nat.le_of_ble_eq_true rfl⟩ rfl (b_x_facesOf_0 X (d) f fl g gl hh v tx p0 _ ?_)
  refine WP.run hP_114 2 (c' := (6, [some (.int p0), some (.int p1), some (.int p2), some (.int ((p0 / (10 : Int32)) - ((p0 / (10 : Int32)) / (4 : Int32)) * (4 : Int32)))], [.int p1], Wd f fl g gl hh v tx)) rfl ?_
  refine WP.run hP_114 1 (c' := (mm_sw p1 0 [40, 62, 75, 88, 101] 116, [some (.int p0), some (.int p1), some (.int p2), some (.int ((p0 / (10 : Int32)) - ((p0 / (10 : Int32)) / (4 : Int32)) * (4 : Int32)))], [], Wd f fl g gl hh v tx)) rfl ?_
  refine WP.sw (lo' := 1) rfl (fun c1 => ?_) (fun c1 => ?_)
  · have h2 := h.1 c1
    refine WP.run hP_114 2 (c' := (42, [some (.int p0), none, some (.int p2), some (.int ((p0 / (10 : Int32)) - ((p0 / (10 : Int32)) / (4 : Int32)) * (4 : Int32)))], [.int p0, .int p0], Wd f fl g gl hh v tx)) rfl ?_
    refine WP.call hP_114 hP_110 (as := [.int p0]) (pc' := 45) (L' := [some (.int p0), none, some (.int p2), some (.int ((p0 / (10 : Int32)) - ((p0 / (10 : Int32)) / (4 : Int32)) * (4 : Int32)))]) (st' := [.int p0]) (w1 := Wd f fl g gl hh v tx) rfl ⟨Nat.le_of_ble_eq_true rfl, Nat.le_of_ble_eq_true rfl⟩ rfl (b_x_cellOf_0 X (d) f fl g gl hh v tx p0 _ ?_)
    refine WP.run hP_114 2 (c' := (47, [some (.int p0), none, some (.int p2), some (.int ((p0 / (10 : Int32)) - ((p0 / (10 : Int32)) / (4 : Int32)) * (4 : Int32)))], [.int p2, .int ((p0 / (10 : Int32)) - ((p0 / (10 : Int32)) / (4 : Int32)) * (4 : Int32)), .int (p0 / (40 : Int32)), .int p0], Wd f fl g gl hh v tx)) rfl ?_
    refine WP.call hP_114 hP_115 (as := [.int (p0 / (40 : Int32)), .int ((p0 / (10 : Int32)) - ((p0 / (10 : Int32)) / (4 : Int32)) * (4 : Int32)), .int p2]) (pc' := 50) (L' := [some (.int p0), none, some (.int p2), some (.int ((p0 / (10 : Int32)) - ((p0 / (10 : Int32)) / (4 : Int32)) * (4 : Int32)))]) (st' := [.int p0]) (w1 := Wd f fl g gl hh v tx) rfl ⟨Nat.le_of_ble_eq_true rfl, Nat.le_of_ble_eq_true rfl⟩ rfl (b_x_ahead_0 X (d) f fl g gl hh v tx (p0 / (40 : Int32)) ((p0 / (10 : Int32)) - ((p0 / (10 : Int32)) / (4 : Int32)) * (4 : Int32)) p2 _ ?_)
    refine ⟨fun c3 => ?_, fun c3 => ?_⟩
    · have h4 := h2.1 c3
      refine WP.run hP_114 1 (c' := (51, [some (.int p0), none, some (.int p2), some (.int ((p0 / (10 : Int32)) - ((p0 / (10 : Int32)) / (4 : Int32)) * (4 : Int32)))], [.int p0, .int ((p0 / (40 : Int32)) + ((5 : Int32) * (if ((4 : Int32) - ((p0 / (40 : Int32)) / (5 : Int32))) < p2 then ((4 : Int32) - ((p0 / (40 : Int32)) / (5 : Int32))) else p2))), .int p0], Wd f fl g gl hh v tx)) rfl ?_
      refine WP.call hP_114 hP_110 (as := [.int p0]) (pc' := 54) (L' := [some (.int p0), none, some (.int p2), some (.int ((p0 / (10 : Int32)) - ((p0 / (10 : Int32)) / (4 : Int32)) * (4 : Int32)))]) (st' := [.int ((p0 / (40 : Int32)) + ((5 : Int32) * (if ((4 : Int32) - ((p0 / (40 : Int32)) / (5 : Int32))) < p2 then ((4 : Int32) - ((p0 / (40 : Int32)) / (5 : Int32))) else p2))), .int p0]) (w1 := Wd f fl g gl hh v tx) rfl ⟨Nat.le_of_ble_eq_true rfl, Nat.le_of_ble_eq_true rfl⟩ rfl (b_x_cellOf_0 X (d) f fl g gl hh v tx p0 _ ?_)
      refine WP.run hP_114 6 (c' := (61, [some (.int p0), none, some (.int p2), some (.int ((p0 / (10 : Int32)) - ((p0 / (10 : Int32)) / (4 : Int32)) * (4 : Int32)))], [.int (p0 + (((((p0 / (40 : Int32)) + ((5 : Int32) * (if ((4 : Int32) - ((p0 / (40 : Int32)) / (5 : Int32))) < p2 then ((4 : Int32) - ((p0 / (40 : Int32)) / (5 : Int32))) else p2))) - (p0 / (40 : Int32))) * (4 : Int32)) * (10 : Int32)))], Wd f fl g gl hh v tx)) rfl ?_
      exact WP.retI hP_114 rfl rfl h4
    · have h5 := h2.2 c3
      refine ⟨fun c6 => ?_, fun c6 => ?_⟩
      · have h7 := h5.1 c6
        refine WP.run hP_114 1 (c' := (51, [some (.int p0), none, some (.int p2), some (.int ((p0 / (10 : Int32)) - ((p0 / (10 : Int32)) / (4 : Int32)) * (4 : Int32)))], [.int p0, .int ((p0 / (40 : Int32)) + (if ((4 : Int32) - ((p0 / (40 : Int32)) - ((p0 / (40 : Int32)) / (5 : Int32)) * (5 : Int32))) < p2 then ((4 : Int32) - ((p0 / (40 : Int32)) - ((p0 / (40 : Int32)) / (5 : Int32)) * (5 : Int32))) else p2)), .int p0], Wd f fl g gl hh v tx)) rfl ?_
        refine WP.call hP_114 hP_110 (as := [.int p0]) (pc' := 54) (L' := [some (.int p0), none, some (.int p2), some (.int ((p0 / (10 : Int32)) - ((p0 / (10 : Int32)) / (4 : Int32)) * (4 : Int32)))]) (st' := [.int ((p0 / (40 : Int32)) + (if ((4 : Int32) - ((p0 / (40 : Int32)) - ((p0 / (40 : Int32)) / (5 : Int32)) * (5 : Int32))) < p2 then ((4 : Int32) - ((p0 / (40 : Int32)) - ((p0 / (40 : Int32)) / (5 : Int32)) * (5 : Int32))) else p2)), .int p0]) (w1 := Wd f fl g gl hh v tx) rfl ⟨Nat.le_of_ble_eq_true rfl, Nat.le_of_ble_eq_true rfl⟩ rfl (b_x_cellOf_0 X (d) f fl g gl hh v tx p0 _ ?_)
        refine WP.run hP_114 6 (c' := (61, [some (.int p0), none, some (.int p2), some (.int ((p0 / (10 : Int32)) - ((p0 / (10 : Int32)) / (4 : Int32)) * (4 : Int32)))], [.int (p0 + (((((p0 / (40 : Int32)) + (if ((4 : Int32) - ((p0 / (40 : Int32)) - ((p0 / (40 : Int32)) / (5 : Int32)) * (5 : Int32))) < p2 then ((4 : Int32) - ((p0 / (40 : Int32)) - ((p0 / (40 : Int32)) / (5 : Int32)) * (5 : Int32))) else p2)) - (p0 / (40 : Int32))) * (4 : Int32)) * (10 : Int32)))], Wd f fl g gl hh v tx)) rfl ?_
        exact WP.retI hP_114 rfl rfl h7
      · have h8 := h5.2 c6
        refine ⟨fun c9 => ?_, fun c9 => ?_⟩
        · have h10 := h8.1 c9
          refine WP.run hP_114 1 (c' := (51, [some (.int p0), none, some (.int p2), some (.int ((p0 / (10 : Int32)) - ((p0 / (10 : Int32)) / (4 : Int32)) * (4 : Int32)))], [.int p0, .int ((p0 / (40 : Int32)) - ((5 : Int32) * (if ((p0 / (40 : Int32)) / (5 : Int32)) < p2 then ((p0 / (40 : Int32)) / (5 : Int32)) else p2))), .int p0], Wd f fl g gl hh v tx)) rfl ?_
          refine WP.call hP_114 hP_110 (as := [.int p0]) (pc' := 54) (L' := [some (.int p0), none, some (.int p2), some (.int ((p0 / (10 : Int32)) - ((p0 / (10 : Int32)) / (4 : Int32)) * (4 : Int32)))]) (st' := [.int ((p0 / (40 : Int32)) - ((5 : Int32) * (if ((p0 / (40 : Int32)) / (5 : Int32)) < p2 then ((p0 / (40 : Int32)) / (5 : Int32)) else p2))), .int p0]) (w1 := Wd f fl g gl hh v tx) rfl ⟨Nat.le_of_ble_eq_true rfl, Nat.le_of_ble_eq_true rfl⟩ rfl (b_x_cellOf_0 X (d) f fl g gl hh v tx p0 _ ?_)
          refine WP.run hP_114 6 (c' := (61, [some (.int p0), none, some (.int p2), some (.int ((p0 / (10 : Int32)) - ((p0 / (10 : Int32)) / (4 : Int32)) * (4 : Int32)))], [.int (p0 + (((((p0 / (40 : Int32)) - ((5 : Int32) * (if ((p0 / (40 : Int32)) / (5 : Int32)) < p2 then ((p0 / (40 : Int32)) / (5 : Int32)) else p2))) - (p0 / (40 : Int32))) * (4 : Int32)) * (10 : Int32)))], Wd f fl g gl hh v tx)) rfl ?_
          exact WP.retI hP_114 rfl rfl h10
        · have h11 := h8.2 c9
          refine WP.run hP_114 1 (c' := (51, [some (.int p0), none, some (.int p2), some (.int ((p0 / (10 : Int32)) - ((p0 / (10 : Int32)) / (4 : Int32)) * (4 : Int32)))], [.int p0, .int ((p0 / (40 : Int32)) - (if ((p0 / (40 : Int32)) - ((p0 / (40 : Int32)) / (5 : Int32)) * (5 : Int32)) < p2 then ((p0 / (40 : Int32)) - ((p0 / (40 : Int32)) / (5 : Int32)) * (5 : Int32)) else p2)), .int p0], Wd f fl g gl hh v tx)) rfl ?_
          refine WP.call hP_114 hP_110 (as := [.int p0]) (pc' := 54) (L' := [some (.int p0), none, some (.int p2), some (.int ((p0 / (10 : Int32)) - ((p0 / (10 : Int32)) / (4 : Int32)) * (4 : Int32)))]) (st' := [.int ((p0 / (40 : Int32)) - (if ((p0 / (40 : Int32)) - ((p0 / (40 : Int32)) / (5 : Int32)) * (5 : Int32)) < p2 then ((p0 / (40 : Int32)) - ((p0 / (40 : Int32)) / (5 : Int32)) * (5 : Int32)) else p2)), .int p0]) (w1 := Wd f fl g gl hh v tx) rfl ⟨Nat.le_of_ble_eq_true rfl, Nat.le_of_ble_eq_true rfl⟩ rfl (b_x_cellOf_0 X (d) f fl g gl hh v tx p0 _ ?_)
          refine WP.run hP_114 6 (c' := (61, [some (.int p0), none, some (.int p2), some (.int ((p0 / (10 : Int32)) - ((p0 / (10 : Int32)) / (4 : Int32)) * (4 : Int32)))], [.int (p0 + (((((p0 / (40 : Int32)) - (if ((p0 / (40 : Int32)) - ((p0 / (40 : Int32)) / (5 : Int32)) * (5 : Int32)) < p2 then ((p0 / (40 : Int32)) - ((p0 / (40 : Int32)) / (5 : Int32)) * (5 : Int32)) else p2)) - (p0 / (40 : Int32))) * (4 : Int32)) * (10 : Int32)))], Wd f fl g gl hh v tx)) rfl ?_
          exact WP.retI hP_114 rfl rfl h11
  · have h12 := h.2 c1
    refine WP.sw (lo' := 2) rfl (fun c13 => ?_) (fun c13 => ?_)
    · have h14 := h12.1 c13
      refine WP.run hP_114 11 (c' := (74, [some (.int p0), none, none, some (.int ((p0 / (10 : Int32)) - ((p0 / (10 : Int32)) / (4 : Int32)) * (4 : Int32)))], [.int (p0 + ((((((p0 / (10 : Int32)) - ((p0 / (10 : Int32)) / (4 : Int32)) * (4 : Int32)) + (3 : Int32)) - ((((p0 / (10 : Int32)) - ((p0 / (10 : Int32)) / (4 : Int32)) * (4 : Int32)) + (3 : Int32)) / (4 : Int32)) * (4 : Int32)) - ((p0 / (10 : Int32)) - ((p0 / (10 : Int32)) / (4 : Int32)) * (4 : Int32))) * (10 : Int32)))], Wd f fl g gl hh v tx)) rfl ?_
      exact WP.retI hP_114 rfl rfl h14
    · have h15 := h12.2 c13
      refine WP.sw (lo' := 3) rfl (fun c16 => ?_) (fun c16 => ?_)
      · have h17 := h15.1 c16
        refine WP.run hP_114 11 (c' := (87, [some (.int p0), none, none, some (.int ((p0 / (10 : Int32)) - ((p0 / (10 : Int32)) / (4 : Int32)) * (4 : Int32)))], [.int (p0 + ((((((p0 / (10 : Int32)) - ((p0 / (10 : Int32)) / (4 : Int32)) * (4 : Int32)) + (1 : Int32)) - ((((p0 / (10 : Int32)) - ((p0 / (10 : Int32)) / (4 : Int32)) * (4 : Int32)) + (1 : Int32)) / (4 : Int32)) * (4 : Int32)) - ((p0 / (10 : Int32)) - ((p0 / (10 : Int32)) / (4 : Int32)) * (4 : Int32))) * (10 : Int32)))], Wd f fl g gl hh v tx)) rfl ?_
        exact WP.retI hP_114 rfl rfl h17
      · have h18 := h15.2 c16
        refine WP.sw (lo' := 4) rfl (fun c19 => ?_) (fun c19 => ?_)
        · have h20 := h18.1 c19
          refine WP.run hP_114 11 (c' := (100, [some (.int p0), none, none, some (.int ((p0 / (10 : Int32)) - ((p0 / (10 : Int32)) / (4 : Int32)) * (4 : Int32)))], [.int (p0 + ((((((p0 / (10 : Int32)) - ((p0 / (10 : Int32)) / (4 : Int32)) * (4 : Int32)) + (2 : Int32)) - ((((p0 / (10 : Int32)) - ((p0 / (10 : Int32)) / (4 : Int32)) * (4 : Int32)) + (2 : Int32)) / (4 : Int32)) * (4 : Int32)) - ((p0 / (10 : Int32)) - ((p0 / (10 : Int32)) / (4 : Int32)) * (4 : Int32))) * (10 : Int32)))], Wd f fl g gl hh v tx)) rfl ?_
          exact WP.retI hP_114 rfl rfl h20
        · have h21 := h18.2 c19
          refine WP.sw (lo' := 5) rfl (fun c22 => ?_) (fun c22 => ?_)
          · have h23 := h21.1 c22
            refine WP.run hP_114 1 (c' := (102, [some (.int p0), none, none, none], [.int p0], Wd f fl g gl hh v tx)) rfl ?_
            refine WP.call hP_114 hP_112 (as := [.int p0]) (pc' := 105) (L' := [some (.int p0), none, none, none]) (st' := []) (w1 := Wd f fl g gl hh v tx) rfl ⟨Nat.le_of_ble_eq_true rfl, Nat.le_of_ble_eq_true rfl⟩ rfl (b_x_powderOf_0 X (d) f fl g gl hh v tx p0 _ ?_)
            refine WP.br hP_114 (q := (p0 - (p0 / (10 : Int32)) * (10 : Int32)) ≤ 0) (t := 114) (f := 108) (L := [some (.int p0), none, none, none]) (st := []) (w := Wd f fl g gl hh v tx) rfl (fun c24 => ?_) (fun c24 => ?_)
            · have h25 := h23.1 c24
              refine WP.run hP_114 1 (c' := (115, [some (.int p0), none, none, none], [.int p0], Wd f fl g gl hh v tx)) rfl ?_
              exact WP.retI hP_114 rfl rfl h25
            · have h26 := h23.2 c24
              refine WP.run hP_114 4 (c' := (115, [some (.int p0), none, none, none], [.int (p0 - (1 : Int32))], Wd f fl g gl hh v tx)) rfl ?_
              exact WP.retI hP_114 rfl rfl h26
          · have h27 := h21.2 c22
            show WP X _ 114 (116, [some (.int p0), some (.int p1), some (.int p2), some (.int ((p0 / (10 : Int32)) - ((p0 / (10 : Int32)) / (4 : Int32)) * (4 : Int32)))], [], Wd f fl g gl hh v tx) P
            refine WP.run hP_114 1 (c' := (117, [some (.int p0), none, none, none], [.int p0], Wd f fl g gl hh v tx)) rfl ?_
            exact WP.retI hP_114 rfl rfl h27

set_option maxRecDepth 20000 in
theorem b_yca_follow_38_1_0 (X : mm_X) (d : Nat) (f : Nat → Int32) (fl : Nat → Int64) (g : Nat → Nat → Int32) (gl : Nat → Nat → Int64) (hh : Nat → Nat → Option Nat) (v : Nat → Value) (tx : mm_W)   (P : Option Value → mm_W → Prop)
    (h : WP X (d) 11 (2, [some (.ref 38), some (.ref 1), some (.int 0), none], [], Wd f fl g gl hh v tx) P) :
    WP X (d) 11 (0, [some (.ref 38), some (.ref 1), none, none], [], Wd f fl g gl hh v tx) P := by
  refine WP.run hP_11 2 (c' := (2, [some (.ref 38), some (.ref 1), some (.int 0), none], [], Wd f fl g gl hh v tx)) rfl ?_
  exact h

set_option maxRecDepth 20000 in
theorem b_yca_follow_38_1_2 (X : mm_X) (d : Nat) (f : Nat → Int32) (fl : Nat → Int64) (g : Nat → Nat → Int32) (gl : Nat → Nat → Int64) (hh : Nat → Nat → Option Nat) (v : Nat → Value) (tx : mm_W) (l2 : Int32)  (P : Option Value → mm_W → Prop)
    (h : (((f 2437) ≤ l2) → P none (Wd f fl g gl hh v tx)) ∧
    ((¬ ((f 2437) ≤ l2)) → ((¬ (l2 < 0 ∨ 12 ≤ l2.toNatClampNeg)) ∧ ((¬ (((g 44) l2.toNatClampNeg) < 0 ∨ 8 ≤ ((g 44) l2.toNatClampNeg).toNatClampNeg)) ∧ WP X (d) 5 (0, [some (.ref 38), some (.int ((g 4) ((g 44) l2.toNatClampNeg).toNatClampNeg))], [], Wd f fl g gl hh v tx) (fun rv w2 => WP X (d + 1) 11 (27, [some (.ref 38), some (.ref 1), some (.int l2), some (.int ((g 4) ((g 44) l2.toNatClampNeg).toNatClampNeg))], rv.toList ++ [], w2) P))))) :
    WP X (d + 1) 11 (2, [some (.ref 38), some (.ref 1), some (.int l2), none], [], Wd f fl g gl hh v tx) P := by
  refine WP.run hP_11 3 (c' := (7, [some (.ref 38), some (.ref 1), some (.int l2), none], [.int (f 2437), .int l2], Wd f fl g gl hh v tx)) rfl ?_
  refine WP.br hP_11 (q := (f 2437) ≤ l2) (t := 60) (f := 10) (L := [some (.ref 38), some (.ref 1), some (.int l2), none]) (st := []) (w := Wd f fl g gl hh v tx) rfl (fun c1 => ?_) (fun c1 => ?_)
  · have h2 := h.1 c1
    exact WP.ret hP_11 (r := none) (w' := Wd f fl g gl hh v tx) rfl h2
  · have h3 := h.2 c1
    refine WP.run hP_11 5 (c' := (19, [some (.ref 38), some (.ref 1), some (.int l2), none], [.int l2, .ref 44, .ref 4], Wd f fl g gl hh v tx)) rfl ?_
    refine WP.of (fun _ _ => Ex.iald hP_11 rfl (Wa_44 _ _ _ _ _ _ _) h3.1) ?_
    have h4 := h3.2
    refine WP.of (fun _ _ => Ex.iald hP_11 rfl (Wa_4 _ _ _ _ _ _ _) h4.1) ?_
    have h5 := h4.2
    refine WP.run hP_11 3 (c' := (24, [some (.ref 38), some (.ref 1), some (.int l2), some (.int ((g 4) ((g 44) l2.toNatClampNeg).toNatClampNeg))], [.int ((g 4) ((g 44) l2.toNatClampNeg).toNatClampNeg), .ref 38], Wd f fl g gl hh v tx)) rfl ?_
    refine WP.call hP_11 hP_5 (as := [.ref 38, .int ((g 4) ((g 44) l2.toNatClampNeg).toNatClampNeg)]) (pc' := 27) (L' := [some (.ref 38), some (.ref 1), some (.int l2), some (.int ((g 4) ((g 44) l2.toNatClampNeg).toNatClampNeg))]) (st' := []) (w1 := Wd f fl g gl hh v tx) rfl ⟨Nat.le_of_ble_eq_true rfl, Nat.le_of_ble_eq_true rfl⟩ rfl ?_
    exact h5

set_option maxRecDepth 20000 in
theorem b_yca_follow_38_1_27 (X : mm_X) (d : Nat) (f : Nat → Int32) (fl : Nat → Int64) (g : Nat → Nat → Int32) (gl : Nat → Nat → Int64) (hh : Nat → Nat → Option Nat) (v : Nat → Value) (tx : mm_W) (l2 : Int32) (l3 : Int32) (s0 : Int32)  (P : Option Value → mm_W → Prop)
    (h : ((¬ s0 = 0) → WP X (d + 1) 11 (2, [some (.ref 38), some (.ref 1), some (.int (l2 + (1 : Int32))), none], [], Wd f fl g gl hh v tx) P) ∧
    ((s0 = 0) → (((¬ l3 = 0) → WP X (d) 114 (0, [some (.int (f 2440)), some (.int l3), some (.int 0), none], [], Wd f fl g gl hh v tx) (fun rv w2 => WP X (d + 1) 11 (51, [some (.ref 38), some (.ref 1), some (.int l2), none], rv.toList ++ [.ref 38], w2) P)) ∧
      ((l3 = 0) → WP X (d) 4 (0, [some (.ref 38), none, none], [], Wd f fl g gl hh v tx) (fun rv w2 => WP X (d + 1) 11 (44, [some (.ref 38), some (.ref 1), some (.int l2), some (.int l3)], rv.toList ++ [.int l3, .int (f 2440), .ref 38], w2) P))))) :
    WP X (d + 1) 11 (27, [some (.ref 38), some (.ref 1), some (.int l2), some (.int l3)], [.int s0], Wd f fl g gl hh v tx) P := by
  refine WP.br hP_11 (q := ¬ s0 = 0) (t := 54) (f := 30) (L := [some (.ref 38), some (.ref 1), some (.int l2), some (.int l3)]) (st := []) (w := Wd f fl g gl hh v tx) rfl (fun c1 => ?_) (fun c1 => ?_)
  · have h2 := h.1 c1
    refine WP.run hP_11 2 (c' := (2, [some (.ref 38), some (.ref 1), some (.int (l2 + (1 : Int32))), none], [], Wd f fl g gl hh v tx)) rfl ?_
    exact h2
  · have h3 := h.2 (Classical.not_not.mp c1)
    refine WP.run hP_11 5 (c' := (37, [some (.ref 38), some (.ref 1), some (.int l2), some (.int l3)], [.int l3, .int l3, .int (f 2440), .ref 38], Wd f fl g gl hh v tx)) rfl ?_
    refine WP.br hP_11 (q := ¬ l3 = 0) (t := 47) (f := 40) (L := [some (.ref 38), some (.ref 1), some (.int l2), some (.int l3)]) (st := [.int l3, .int (f 2440), .ref 38]) (w := Wd f fl g gl hh v tx) rfl (fun c4 => ?_) (fun c4 => ?_)
    · have h5 := h3.1 c4
      refine WP.run hP_11 1 (c' := (48, [some (.ref 38), some (.ref 1), some (.int l2), none], [.int 0, .int l3, .int (f 2440), .ref 38], Wd f fl g gl hh v tx)) rfl ?_
      refine WP.call hP_11 hP_114 (as := [.int (f 2440), .int l3, .int 0]) (pc' := 51) (L' := [some (.ref 38), some (.ref 1), some (.int l2), none]) (st' := [.ref 38]) (w1 := Wd f fl g gl hh v tx) rfl ⟨Nat.le_of_ble_eq_true rfl, Nat.le_of_ble_eq_true rfl⟩ rfl ?_
      exact h5
    · have h6 := h3.2 (Classical.not_not.mp c4)
      refine WP.run hP_11 1 (c' := (41, [some (.ref 38), some (.ref 1), some (.int l2), some (.int l3)], [.ref 38, .int l3, .int (f 2440), .ref 38], Wd f fl g gl hh v tx)) rfl ?_
      refine WP.call hP_11 hP_4 (as := [.ref 38]) (pc' := 44) (L' := [some (.ref 38), some (.ref 1), some (.int l2), some (.int l3)]) (st' := [.int l3, .int (f 2440), .ref 38]) (w1 := Wd f fl g gl hh v tx) rfl ⟨Nat.le_of_ble_eq_true rfl, Nat.le_of_ble_eq_true rfl⟩ rfl ?_
      exact h6

set_option maxRecDepth 20000 in
theorem b_yca_follow_38_1_51 (X : mm_X) (d : Nat) (f : Nat → Int32) (fl : Nat → Int64) (g : Nat → Nat → Int32) (gl : Nat → Nat → Int64) (hh : Nat → Nat → Option Nat) (v : Nat → Value) (tx : mm_W) (l2 : Int32) (s0 : Int32)  (P : Option Value → mm_W → Prop)
    (h : WP X (d) 11 (2, [some (.ref 38), some (.ref 1), some (.int (l2 + (1 : Int32))), none], [], Wd (va_up f 2440 s0) fl g gl hh v tx) P) :
    WP X (d) 11 (51, [some (.ref 38), some (.ref 1), some (.int l2), none], [.int s0, .ref 38], Wd f fl g gl hh v tx) P := by
  refine WP.run hP_11 3 (c' := (2, [some (.ref 38), some (.ref 1), some (.int (l2 + (1 : Int32))), none], [], Wd (va_up f 2440 s0) fl g gl hh v tx)) rfl ?_
  exact h

set_option maxRecDepth 20000 in
theorem b_yca_follow_38_1_44 (X : mm_X) (d : Nat) (f : Nat → Int32) (fl : Nat → Int64) (g : Nat → Nat → Int32) (gl : Nat → Nat → Int64) (hh : Nat → Nat → Option Nat) (v : Nat → Value) (tx : mm_W) (l2 : Int32) (l3 : Int32) (s0 : Int32) (s1 : Int32) (s2 : Int32)  (P : Option Value → mm_W → Prop)
    (h : WP X (d) 114 (0, [some (.int s2), some (.int s1), some (.int s0), none], [], Wd f fl g gl hh v tx) (fun rv w2 => WP X (d + 1) 11 (51, [some (.ref 38), some (.ref 1), some (.int l2), none], rv.toList ++ [.ref 38], w2) P)) :
    WP X (d + 1) 11 (44, [some (.ref 38), some (.ref 1), some (.int l2), some (.int l3)], [.int s0, .int s1, .int s2, .ref 38], Wd f fl g gl hh v tx) P := by
  refine WP.run hP_11 1 (c' := (48, [some (.ref 38), some (.ref 1), some (.int l2), some (.int l3)], [.int s0, .int s1, .int s2, .ref 38], Wd f fl g gl hh v tx)) rfl ?_
  refine WP.call hP_11 hP_114 (as := [.int s2, .int s1, .int s0]) (pc' := 51) (L' := [some (.ref 38), some (.ref 1), some (.int l2), none]) (st' := [.ref 38]) (w1 := Wd f fl g gl hh v tx) rfl ⟨Nat.le_of_ble_eq_true rfl, Nat.le_of_ble_eq_true rfl⟩ rfl ?_
  exact h

set_option maxRecDepth 20000 in
theorem b_yca_follow_38_19_0 (X : mm_X) (d : Nat) (f : Nat → Int32) (fl : Nat → Int64) (g : Nat → Nat → Int32) (gl : Nat → Nat → Int64) (hh : Nat → Nat → Option Nat) (v : Nat → Value) (tx : mm_W)   (P : Option Value → mm_W → Prop)
    (h : WP X (d) 11 (2, [some (.ref 38), some (.ref 19), some (.int 0), none], [], Wd f fl g gl hh v tx) P) :
    WP X (d) 11 (0, [some (.ref 38), some (.ref 19), none, none], [], Wd f fl g gl hh v tx) P := by
  refine WP.run hP_11 2 (c' := (2, [some (.ref 38), some (.ref 19), some (.int 0), none], [], Wd f fl g gl hh v tx)) rfl ?_
  exact h

set_option maxRecDepth 20000 in
theorem b_yca_follow_38_19_2 (X : mm_X) (d : Nat) (f : Nat → Int32) (fl : Nat → Int64) (g : Nat → Nat → Int32) (gl : Nat → Nat → Int64) (hh : Nat → Nat → Option Nat) (v : Nat → Value) (tx : mm_W) (l2 : Int32)  (P : Option Value → mm_W → Prop)
    (h : (((f 2437) ≤ l2) → P none (Wd f fl g gl hh v tx)) ∧
    ((¬ ((f 2437) ≤ l2)) → ((¬ (l2 < 0 ∨ 12 ≤ l2.toNatClampNeg)) ∧ ((¬ (((g 44) l2.toNatClampNeg) < 0 ∨ 8 ≤ ((g 44) l2.toNatClampNeg).toNatClampNeg)) ∧ WP X (d) 5 (0, [some (.ref 38), some (.int ((g 22) ((g 44) l2.toNatClampNeg).toNatClampNeg))], [], Wd f fl g gl hh v tx) (fun rv w2 => WP X (d + 1) 11 (27, [some (.ref 38), some (.ref 19), some (.int l2), some (.int ((g 22) ((g 44) l2.toNatClampNeg).toNatClampNeg))], rv.toList ++ [], w2) P))))) :
    WP X (d + 1) 11 (2, [some (.ref 38), some (.ref 19), some (.int l2), none], [], Wd f fl g gl hh v tx) P := by
  refine WP.run hP_11 3 (c' := (7, [some (.ref 38), some (.ref 19), some (.int l2), none], [.int (f 2437), .int l2], Wd f fl g gl hh v tx)) rfl ?_
  refine WP.br hP_11 (q := (f 2437) ≤ l2) (t := 60) (f := 10) (L := [some (.ref 38), some (.ref 19), some (.int l2), none]) (st := []) (w := Wd f fl g gl hh v tx) rfl (fun c1 => ?_) (fun c1 => ?_)
  · have h2 := h.1 c1
    exact WP.ret hP_11 (r := none) (w' := Wd f fl g gl hh v tx) rfl h2
  · have h3 := h.2 c1
    refine WP.run hP_11 5 (c' := (19, [some (.ref 38), some (.ref 19), some (.int l2), none], [.int l2, .ref 44, .ref 22], Wd f fl g gl hh v tx)) rfl ?_
    refine WP.of (fun _ _ => Ex.iald hP_11 rfl (Wa_44 _ _ _ _ _ _ _) h3.1) ?_
    have h4 := h3.2
    refine WP.of (fun _ _ => Ex.iald hP_11 rfl (Wa_22 _ _ _ _ _ _ _) h4.1) ?_
    have h5 := h4.2
    refine WP.run hP_11 3 (c' := (24, [some (.ref 38), some (.ref 19), some (.int l2), some (.int ((g 22) ((g 44) l2.toNatClampNeg).toNatClampNeg))], [.int ((g 22) ((g 44) l2.toNatClampNeg).toNatClampNeg), .ref 38], Wd f fl g gl hh v tx)) rfl ?_
    refine WP.call hP_11 hP_5 (as := [.ref 38, .int ((g 22) ((g 44) l2.toNatClampNeg).toNatClampNeg)]) (pc' := 27) (L' := [some (.ref 38), some (.ref 19), some (.int l2), some (.int ((g 22) ((g 44) l2.toNatClampNeg).toNatClampNeg))]) (st' := []) (w1 := Wd f fl g gl hh v tx) rfl ⟨Nat.le_of_ble_eq_true rfl, Nat.le_of_ble_eq_true rfl⟩ rfl ?_
    exact h5

set_option maxRecDepth 20000 in
theorem b_yca_follow_38_19_27 (X : mm_X) (d : Nat) (f : Nat → Int32) (fl : Nat → Int64) (g : Nat → Nat → Int32) (gl : Nat → Nat → Int64) (hh : Nat → Nat → Option Nat) (v : Nat → Value) (tx : mm_W) (l2 : Int32) (l3 : Int32) (s0 : Int32)  (P : Option Value → mm_W → Prop)
    (h : ((¬ s0 = 0) → WP X (d + 1) 11 (2, [some (.ref 38), some (.ref 19), some (.int (l2 + (1 : Int32))), none], [], Wd f fl g gl hh v tx) P) ∧
    ((s0 = 0) → (((¬ l3 = 0) → WP X (d) 114 (0, [some (.int (f 2440)), some (.int l3), some (.int 0), none], [], Wd f fl g gl hh v tx) (fun rv w2 => WP X (d + 1) 11 (51, [some (.ref 38), some (.ref 19), some (.int l2), none], rv.toList ++ [.ref 38], w2) P)) ∧
      ((l3 = 0) → WP X (d) 4 (0, [some (.ref 38), none, none], [], Wd f fl g gl hh v tx) (fun rv w2 => WP X (d + 1) 11 (44, [some (.ref 38), some (.ref 19), some (.int l2), some (.int l3)], rv.toList ++ [.int l3, .int (f 2440), .ref 38], w2) P))))) :
    WP X (d + 1) 11 (27, [some (.ref 38), some (.ref 19), some (.int l2), some (.int l3)], [.int s0], Wd f fl g gl hh v tx) P := by
  refine WP.br hP_11 (q := ¬ s0 = 0) (t := 54) (f := 30) (L := [some (.ref 38), some (.ref 19), some (.int l2), some (.int l3)]) (st := []) (w := Wd f fl g gl hh v tx) rfl (fun c1 => ?_) (fun c1 => ?_)
  · have h2 := h.1 c1
    refine WP.run hP_11 2 (c' := (2, [some (.ref 38), some (.ref 19), some (.int (l2 + (1 : Int32))), none], [], Wd f fl g gl hh v tx)) rfl ?_
    exact h2
  · have h3 := h.2 (Classical.not_not.mp c1)
    refine WP.run hP_11 5 (c' := (37, [some (.ref 38), some (.ref 19), some (.int l2), some (.int l3)], [.int l3, .int l3, .int (f 2440), .ref 38], Wd f fl g gl hh v tx)) rfl ?_
    refine WP.br hP_11 (q := ¬ l3 = 0) (t := 47) (f := 40) (L := [some (.ref 38), some (.ref 19), some (.int l2), some (.int l3)]) (st := [.int l3, .int (f 2440), .ref 38]) (w := Wd f fl g gl hh v tx) rfl (fun c4 => ?_) (fun c4 => ?_)
    · have h5 := h3.1 c4
      refine WP.run hP_11 1 (c' := (48, [some (.ref 38), some (.ref 19), some (.int l2), none], [.int 0, .int l3, .int (f 2440), .ref 38], Wd f fl g gl hh v tx)) rfl ?_
      refine WP.call hP_11 hP_114 (as := [.int (f 2440), .int l3, .int 0]) (pc' := 51) (L' := [some (.ref 38), some (.ref 19), some (.int l2), none]) (st' := [.ref 38]) (w1 := Wd f fl g gl hh v tx) rfl ⟨Nat.le_of_ble_eq_true rfl, Nat.le_of_ble_eq_true rfl⟩ rfl ?_
      exact h5
    · have h6 := h3.2 (Classical.not_not.mp c4)
      refine WP.run hP_11 1 (c' := (41, [some (.ref 38), some (.ref 19), some (.int l2), some (.int l3)], [.ref 38, .int l3, .int (f 2440), .ref 38], Wd f fl g gl hh v tx)) rfl ?_
      refine WP.call hP_11 hP_4 (as := [.ref 38]) (pc' := 44) (L' := [some (.ref 38), some (.ref 19), some (.int l2), some (.int l3)]) (st' := [.int l3, .int (f 2440), .ref 38]) (w1 := Wd f fl g gl hh v tx) rfl ⟨Nat.le_of_ble_eq_true rfl, Nat.le_of_ble_eq_true rfl⟩ rfl ?_
      exact h6

set_option maxRecDepth 20000 in
theorem b_yca_follow_38_19_51 (X : mm_X) (d : Nat) (f : Nat → Int32) (fl : Nat → Int64) (g : Nat → Nat → Int32) (gl : Nat → Nat → Int64) (hh : Nat → Nat → Option Nat) (v : Nat → Value) (tx : mm_W) (l2 : Int32) (s0 : Int32)  (P : Option Value → mm_W → Prop)
    (h : WP X (d) 11 (2, [some (.ref 38), some (.ref 19), some (.int (l2 + (1 : Int32))), none], [], Wd (va_up f 2440 s0) fl g gl hh v tx) P) :
    WP X (d) 11 (51, [some (.ref 38), some (.ref 19), some (.int l2), none], [.int s0, .ref 38], Wd f fl g gl hh v tx) P := by
  refine WP.run hP_11 3 (c' := (2, [some (.ref 38), some (.ref 19), some (.int (l2 + (1 : Int32))), none], [], Wd (va_up f 2440 s0) fl g gl hh v tx)) rfl ?_
  exact h

set_option maxRecDepth 20000 in
theorem b_yca_follow_38_19_44 (X : mm_X) (d : Nat) (f : Nat → Int32) (fl : Nat → Int64) (g : Nat → Nat → Int32) (gl : Nat → Nat → Int64) (hh : Nat → Nat → Option Nat) (v : Nat → Value) (tx : mm_W) (l2 : Int32) (l3 : Int32) (s0 : Int32) (s1 : Int32) (s2 : Int32)  (P : Option Value → mm_W → Prop)
    (h : WP X (d) 114 (0, [some (.int s2), some (.int s1), some (.int s0), none], [], Wd f fl g gl hh v tx) (fun rv w2 => WP X (d + 1) 11 (51, [some (.ref 38), some (.ref 19), some (.int l2), none], rv.toList ++ [.ref 38], w2) P)) :
    WP X (d + 1) 11 (44, [some (.ref 38), some (.ref 19), some (.int l2), some (.int l3)], [.int s0, .int s1, .int s2, .ref 38], Wd f fl g gl hh v tx) P := by
  refine WP.run hP_11 1 (c' := (48, [some (.ref 38), some (.ref 19), some (.int l2), some (.int l3)], [.int s0, .int s1, .int s2, .ref 38], Wd f fl g gl hh v tx)) rfl ?_
  refine WP.call hP_11 hP_114 (as := [.int s2, .int s1, .int s0]) (pc' := 51) (L' := [some (.ref 38), some (.ref 19), some (.int l2), none]) (st' := [.ref 38]) (w1 := Wd f fl g gl hh v tx) rfl ⟨Nat.le_of_ble_eq_true rfl, Nat.le_of_ble_eq_true rfl⟩ rfl ?_
  exact h

set_option maxRecDepth 20000 in
theorem b_x_sail_0 (X : mm_X) (d : Nat) (f : Nat → Int32) (fl : Nat → Int64) (g : Nat → Nat → Int32) (gl : Nat → Nat → Int64) (hh : Nat → Nat → Option Nat) (v : Nat → Value) (tx : mm_W) (p0 : Int32)  (P : Option Value → mm_W → Prop)
    (h : WP X (d) 107 (0, [some (.ref 0), some (.long ((p0 : Int32).toInt64)), none, none], [], Wd f fl g gl hh v tx) (fun rv w2 => WP X (d + 1) 76 (7, [some (.ref 0), some (.int p0)], rv.toList ++ [.ref 0], w2) P)) :
    WP X (d + 1) 76 (0, [some (.ref 0), some (.int p0)], [], Wd f fl g gl hh v tx) P := by
  refine WP.run hP_76 4 (c' := (4, [some (.ref 0), some (.int p0)], [.long ((p0 : Int32).toInt64), .ref 0, .ref 0], Wd f fl g gl hh v tx)) rfl ?_
  refine WP.call hP_76 hP_107 (as := [.ref 0, .long ((p0 : Int32).toInt64)]) (pc' := 7) (L' := [some (.ref 0), some (.int p0)]) (st' := [.ref 0]) (w1 := Wd f fl g gl hh v tx) rfl ⟨Nat.le_of_ble_eq_true rfl, Nat.le_of_ble_eq_true rfl⟩ rfl ?_
  exact h

set_option maxRecDepth 20000 in
theorem b_x_sail_7 (X : mm_X) (d : Nat) (f : Nat → Int32) (fl : Nat → Int64) (g : Nat → Nat → Int32) (gl : Nat → Nat → Int64) (hh : Nat → Nat → Option Nat) (v : Nat → Value) (tx : mm_W) (l1 : Int32) (s0 : Int32)  (P : Option Value → mm_W → Prop)
    (h : ((0 ≤ s0) → P (some (.int s0)) (Wd (va_up f 18 0) fl g gl hh v tx)) ∧
    ((¬ (0 ≤ s0)) → (((0 ≤ (-s0) ∧ (-s0) < (7 : Int32)) → ((¬ ((-s0) < 0 ∨ 7 ≤ (-s0).toNatClampNeg)) ∧ ((¬ ((-s0) < 0 ∨ 7 ≤ (-s0).toNatClampNeg)) ∧ P (some (.int s0)) (Wd (va_up f 18 s0) fl (va_up g 55 (upd (g 55) ((-s0).toNatClampNeg) (((g 55) (-s0).toNatClampNeg) + (1 : Int32)))) gl hh v tx)))) ∧
      ((¬ (0 ≤ (-s0) ∧ (-s0) < (7 : Int32))) → P (some (.int s0)) (Wd (va_up f 18 s0) fl g gl hh v tx))))) :
    WP X (d + 3) 76 (7, [some (.ref 0), some (.int l1)], [.int s0, .ref 0], Wd f fl g gl hh v tx) P := by
  refine WP.call hP_76 hP_102 (as := [.ref 0, .int s0]) (pc' := 10) (L' := [some (.ref 0), some (.int l1)]) (st' := []) (w1 := Wd f fl g gl hh v tx) rfl ⟨Nat.le_of_ble_eq_true rfl, Nat.le_of_ble_eq_true rfl⟩ rfl (b_x_settled_0 X (d) f fl g gl hh v tx s0 _ ?_)
  refine ⟨fun c1 => ?_, fun c1 => ?_⟩
  · have h2 := h.1 c1
    exact WP.retI hP_76 rfl rfl h2
  · have h3 := h.2 c1
    refine ⟨fun c4 => ?_, fun c4 => ?_⟩
    · have h5 := h3.1 c4
      refine ⟨h5.1, ?_⟩
      have h6 := h5.2
      refine ⟨h6.1, ?_⟩
      have h7 := h6.2
      exact WP.retI hP_76 rfl rfl h7
    · have h8 := h3.2 c4
      exact WP.retI hP_76 rfl rfl h8

set_option maxRecDepth 20000 in
theorem b_x_where_0 (X : mm_X) (d : Nat) (f : Nat → Int32) (fl : Nat → Int64) (g : Nat → Nat → Int32) (gl : Nat → Nat → Int64) (hh : Nat → Nat → Option Nat) (v : Nat → Value) (tx : mm_W) (p0 : Int32) (p1 : Int32) (t0 : Nat)  (P : Option Value → mm_W → Prop)
    (h : ((0 ≤ p0 ∧ p0 < (f 68)) → (((0 ≤ (f 76) ∧ (f 76) < (f 74)) → ((¬ ((f 76) < 0 ∨ 6 ≤ (f 76).toNatClampNeg)) ∧ (((mm_rf ((hh 7) (f 76).toNatClampNeg)) = .ref t0) ∧ WP X (d + 1) 7 (0, [some (.ref 38), some (.ref 1), some (.int p0), some (.ref t0), none], [], Wd f fl g gl hh v tx) (fun rv w2 => WP X (d + 2) 81 (33, [some (.ref 0), some (.int p0), some (.int p1)], rv.toList ++ [], w2) P)))) ∧
      ((¬ (0 ≤ (f 76) ∧ (f 76) < (f 74))) → WP X (d + 1) 7 (0, [some (.ref 38), some (.ref 1), some (.int p0), some (.null), none], [], Wd f fl g gl hh v tx) (fun rv w2 => WP X (d + 2) 81 (33, [some (.ref 0), some (.int p0), some (.int p1)], rv.toList ++ [], w2) P)))) ∧
    ((¬ (0 ≤ p0 ∧ p0 < (f 68))) → P (some (.int (-1))) (Wd f fl g gl hh v tx))) :
    WP X (d + 2) 81 (0, [some (.ref 0), some (.int p0), some (.int p1)], [], Wd f fl g gl hh v tx) P := by
  refine WP.run hP_81 4 (c' := (8, [some (.ref 0), some (.int p0), some (.int p1)], [.int (f 68), .int p0], Wd f fl g gl hh v tx)) rfl ?_
  refine WP.call hP_81 hP_99 (as := [.int p0, .int (f 68)]) (pc' := 11) (L' := [some (.ref 0), some (.int p0), some (.int p1)]) (st' := []) (w1 := Wd f fl g gl hh v tx) rfl ⟨Nat.le_of_ble_eq_true rfl, Nat.le_of_ble_eq_true rfl⟩ rfl (b_within_m X (d + 1) f fl g gl hh v tx p0 (f 68) _ ?_)
  refine ⟨fun c1 => ?_, fun c1 => ?_⟩
  · have h2 := h.1 c1
    refine WP.run hP_81 8 (c' := (27, [some (.ref 0), some (.int p0), some (.int p1)], [.ref 1, .int p0, .ref 1, .ref 38], Wd f fl g gl hh v tx)) rfl ?_
    refine WP.call hP_81 hP_46 (as := [.ref 1]) (pc' := 30) (L' := [some (.ref 0), some (.int p0), some (.int p1)]) (st' := [.int p0, .ref 1, .ref 38]) (w1 := Wd f fl g gl hh v tx) rfl ⟨Nat.le_of_ble_eq_true rfl, Nat.le_of_ble_eq_true rfl⟩ rfl (b_yst_lawInForce_1_0 X (d) f fl g gl hh v tx  _ ?_)
    refine ⟨fun c3 => ?_, fun c3 => ?_⟩
    · have h4 := h2.1 c3
      refine ⟨h4.1, ?_⟩
      have h5 := h4.2
      rw [h5.1]
      have h6 := h5.2
      refine WP.call hP_81 hP_7 (as := [.ref 38, .ref 1, .int p0, .ref t0]) (pc' := 33) (L' := [some (.ref 0), some (.int p0), some (.int p1)]) (st' := []) (w1 := Wd f fl g gl hh v tx) rfl ⟨Nat.le_of_ble_eq_true rfl, Nat.le_of_ble_eq_true rfl⟩ rfl ?_
      exact h6
    · have h7 := h2.2 c3
      refine WP.call hP_81 hP_7 (as := [.ref 38, .ref 1, .int p0, .null]) (pc' := 33) (L' := [some (.ref 0), some (.int p0), some (.int p1)]) (st' := []) (w1 := Wd f fl g gl hh v tx) rfl ⟨Nat.le_of_ble_eq_true rfl, Nat.le_of_ble_eq_true rfl⟩ rfl ?_
      exact h7
  · have h8 := h.2 c1
    refine WP.run hP_81 2 (c' := (37, [none, none, none], [.int (-1)], Wd f fl g gl hh v tx)) rfl ?_
    exact WP.retI hP_81 rfl rfl h8

set_option maxRecDepth 20000 in
theorem b_x_where_33 (X : mm_X) (d : Nat) (f : Nat → Int32) (fl : Nat → Int64) (g : Nat → Nat → Int32) (gl : Nat → Nat → Int64) (hh : Nat → Nat → Option Nat) (v : Nat → Value) (tx : mm_W) (l1 : Int32) (l2 : Int32) (s0 : Int32)  (P : Option Value → mm_W → Prop)
    (h : ((¬ s0 = 0) → WP X (d) 11 (0, [some (.ref 38), some (.ref 1), none, none], [], Wd f fl g gl hh v tx) (fun rv w2 => WP X (d + 1) 81 (49, [some (.ref 0), none, some (.int l2)], rv.toList ++ [], w2) P)) ∧
    ((s0 = 0) → P (some (.int (-1))) (Wd f fl g gl hh v tx))) :
    WP X (d + 1) 81 (33, [some (.ref 0), some (.int l1), some (.int l2)], [.int s0], Wd f fl g gl hh v tx) P := by
  refine WP.br hP_81 (q := ¬ s0 = 0) (t := 38) (f := 36) (L := [some (.ref 0), some (.int l1), some (.int l2)]) (st := []) (w := Wd f fl g gl hh v tx) rfl (fun c1 => ?_) (fun c1 => ?_)
  · have h2 := h.1 c1
    refine WP.run hP_81 4 (c' := (46, [some (.ref 0), none, some (.int l2)], [.ref 1, .ref 38], Wd f fl g gl hh v tx)) rfl ?_
    refine WP.call hP_81 hP_11 (as := [.ref 38, .ref 1]) (pc' := 49) (L' := [some (.ref 0), none, some (.int l2)]) (st' := []) (w1 := Wd f fl g gl hh v tx) rfl ⟨Nat.le_of_ble_eq_true rfl, Nat.le_of_ble_eq_true rfl⟩ rfl ?_
    exact h2
  · have h3 := h.2 (Classical.not_not.mp c1)
    refine WP.run hP_81 1 (c' := (37, [none, none, none], [.int (-1)], Wd f fl g gl hh v tx)) rfl ?_
    exact WP.retI hP_81 rfl rfl h3

set_option maxRecDepth 20000 in
theorem b_x_where_49 (X : mm_X) (d : Nat) (f : Nat → Int32) (fl : Nat → Int64) (g : Nat → Nat → Int32) (gl : Nat → Nat → Int64) (hh : Nat → Nat → Option Nat) (v : Nat → Value) (tx : mm_W) (l2 : Int32)  (P : Option Value → mm_W → Prop)
    (h : ((l2 = 0) → P (some (.int ((f 2440) / (40 : Int32)))) (Wd f fl g gl hh v tx)) ∧
    ((¬ l2 = 0) → (((l2 = 1) → P (some (.int (((f 2440) / (10 : Int32)) - (((f 2440) / (10 : Int32)) / (4 : Int32)) * (4 : Int32)))) (Wd f fl g gl hh v tx)) ∧
      ((¬ l2 = 1) → (((l2 = 2) → P (some (.int ((f 2440) - ((f 2440) / (10 : Int32)) * (10 : Int32)))) (Wd f fl g gl hh v tx)) ∧
        ((¬ l2 = 2) → P (some (.int (-1))) (Wd f fl g gl hh v tx))))))) :
    WP X (d + 2) 81 (49, [some (.ref 0), none, some (.int l2)], [], Wd f fl g gl hh v tx) P := by
  refine WP.run hP_81 4 (c' := (57, [some (.ref 0), none, some (.int l2)], [.int l2, .int (f 2440)], Wd f fl g gl hh v tx)) rfl ?_
  refine WP.call hP_81 hP_113 (as := [.int (f 2440), .int l2]) (pc' := 60) (L' := [some (.ref 0), none, some (.int l2)]) (st' := []) (w1 := Wd f fl g gl hh v tx) rfl ⟨Nat.le_of_ble_eq_true rfl, Nat.le_of_ble_eq_true rfl⟩ rfl (b_x_detail_0 X (d) f fl g gl hh v tx (f 2440) l2 _ ?_)
  refine ⟨fun c1 => ?_, fun c1 => ?_⟩
  · have h2 := h.1 c1
    exact WP.retI hP_81 rfl rfl h2
  · have h3 := h.2 c1
    refine ⟨fun c4 => ?_, fun c4 => ?_⟩
    · have h5 := h3.1 c4
      exact WP.retI hP_81 rfl rfl h5
    · have h6 := h3.2 c4
      refine ⟨fun c7 => ?_, fun c7 => ?_⟩
      · have h8 := h6.1 c7
        exact WP.retI hP_81 rfl rfl h8
      · have h9 := h6.2 c7
        exact WP.retI hP_81 rfl rfl h9

set_option maxRecDepth 20000 in
theorem b_x_meetings_0 (X : mm_X) (d : Nat) (f : Nat → Int32) (fl : Nat → Int64) (g : Nat → Nat → Int32) (gl : Nat → Nat → Int64) (hh : Nat → Nat → Option Nat) (v : Nat → Value) (tx : mm_W) (p0 : Int32)  (P : Option Value → mm_W → Prop)
    (h : WP X (d) 82 (4, [some (.ref 0), some (.int p0), some (.int 0), some (.int 0), none, none], [], Wd f fl g gl hh v tx) P) :
    WP X (d) 82 (0, [some (.ref 0), some (.int p0), none, none, none, none], [], Wd f fl g gl hh v tx) P := by
  refine WP.run hP_82 3 (c' := (3, [some (.ref 0), some (.int p0), some (.int 0), none, none, none], [.int 0], Wd f fl g gl hh v tx)) rfl ?_
  refine WP.run hP_82 1 (c' := (4, [some (.ref 0), some (.int p0), some (.int 0), some (.int 0), none, none], [], Wd f fl g gl hh v tx)) rfl ?_
  exact h

set_option maxRecDepth 20000 in
theorem b_x_meetings_4 (X : mm_X) (d : Nat) (f : Nat → Int32) (fl : Nat → Int64) (g : Nat → Nat → Int32) (gl : Nat → Nat → Int64) (hh : Nat → Nat → Option Nat) (v : Nat → Value) (tx : mm_W) (l1 : Int32) (l2 : Int32) (l3 : Int32)  (P : Option Value → mm_W → Prop)
    (h : (((f 68) ≤ l3) → (((¬ l1 = (-1)) → P (some (.int (-1))) (Wd f fl g gl hh v tx)) ∧
      ((l1 = (-1)) → P (some (.int l2)) (Wd f fl g gl hh v tx)))) ∧
    ((¬ ((f 68) ≤ l3)) → WP X (d) 82 (20, [some (.ref 0), some (.int l1), some (.int l2), some (.int l3), some (.int (l3 + (1 : Int32))), none], [], Wd f fl g gl hh v tx) P)) :
    WP X (d) 82 (4, [some (.ref 0), some (.int l1), some (.int l2), some (.int l3), none, none], [], Wd f fl g gl hh v tx) P := by
  refine WP.run hP_82 4 (c' := (12, [some (.ref 0), some (.int l1), some (.int l2), some (.int l3), none, none], [.int (f 68), .int l3], Wd f fl g gl hh v tx)) rfl ?_
  refine WP.br hP_82 (q := (f 68) ≤ l3) (t := 86) (f := 15) (L := [some (.ref 0), some (.int l1), some (.int l2), some (.int l3), none, none]) (st := []) (w := Wd f fl g gl hh v tx) rfl (fun c1 => ?_) (fun c1 => ?_)
  · have h2 := h.1 c1
    refine WP.run hP_82 2 (c' := (88, [none, some (.int l1), some (.int l2), none, none, none], [.int (-1), .int l1], Wd f fl g gl hh v tx)) rfl ?_
    refine WP.br hP_82 (q := ¬ l1 = (-1)) (t := 95) (f := 91) (L := [none, some (.int l1), some (.int l2), none, none, none]) (st := []) (w := Wd f fl g gl hh v tx) rfl (fun c3 => ?_) (fun c3 => ?_)
    · have h4 := h2.1 c3
      refine WP.run hP_82 1 (c' := (96, [none, none, none, none, none, none], [.int (-1)], Wd f fl g gl hh v tx)) rfl ?_
      exact WP.retI hP_82 rfl rfl h4
    · have h5 := h2.2 (Classical.not_not.mp c3)
      refine WP.run hP_82 2 (c' := (96, [none, some (.int l1), some (.int l2), none, none, none], [.int l2], Wd f fl g gl hh v tx)) rfl ?_
      exact WP.retI hP_82 rfl rfl h5
  · have h6 := h.2 c1
    refine WP.run hP_82 4 (c' := (20, [some (.ref 0), some (.int l1), some (.int l2), some (.int l3), some (.int (l3 + (1 : Int32))), none], [], Wd f fl g gl hh v tx)) rfl ?_
    exact h6

set_option maxRecDepth 20000 in
theorem b_x_meetings_20 (X : mm_X) (d : Nat) (f : Nat → Int32) (fl : Nat → Int64) (g : Nat → Nat → Int32) (gl : Nat → Nat → Int64) (hh : Nat → Nat → Option Nat) (v : Nat → Value) (tx : mm_W) (l1 : Int32) (l2 : Int32) (l3 : Int32) (l4 : Int32)  (P : Option Value → mm_W → Prop)
    (h : (((f 68) ≤ l4) → WP X (d + 1) 82 (4, [some (.ref 0), some (.int l1), some (.int l2), some (.int (l3 + (1 : Int32))), none, none], [], Wd f fl g gl hh v tx) P) ∧
    ((¬ ((f 68) ≤ l4)) → WP X (d) 81 (0, [some (.ref 0), some (.int l3), some (.int 0)], [], Wd f fl g gl hh v tx) (fun rv w2 => WP X (d + 1) 82 (38, [some (.ref 0), some (.int l1), some (.int l2), some (.int l3), some (.int l4), none], rv.toList ++ [], w2) P))) :
    WP X (d + 1) 82 (20, [some (.ref 0), some (.int l1), some (.int l2), some (.int l3), some (.int l4), none], [], Wd f fl g gl hh v tx) P := by
  refine WP.run hP_82 4 (c' := (29, [some (.ref 0), some (.int l1), some (.int l2), some (.int l3), some (.int l4), none], [.int (f 68), .int l4], Wd f fl g gl hh v tx)) rfl ?_
  refine WP.br hP_82 (q := (f 68) ≤ l4) (t := 80) (f := 32) (L := [some (.ref 0), some (.int l1), some (.int l2), some (.int l3), some (.int l4), none]) (st := []) (w := Wd f fl g gl hh v tx) rfl (fun c1 => ?_) (fun c1 => ?_)
  · have h2 := h.1 c1
    refine WP.run hP_82 2 (c' := (4, [some (.ref 0), some (.int l1), some (.int l2), some (.int (l3 + (1 : Int32))), none, none], [], Wd f fl g gl hh v tx)) rfl ?_
    exact h2
  · have h3 := h.2 c1
    refine WP.run hP_82 3 (c' := (35, [some (.ref 0), some (.int l1), some (.int l2), some (.int l3), some (.int l4), none], [.int 0, .int l3, .ref 0], Wd f fl g gl hh v tx)) rfl ?_
    refine WP.call hP_82 hP_81 (as := [.ref 0, .int l3, .int 0]) (pc' := 38) (L' := [some (.ref 0), some (.int l1), some (.int l2), some (.int l3), some (.int l4), none]) (st' := []) (w1 := Wd f fl g gl hh v tx) rfl ⟨Nat.le_of_ble_eq_true rfl, Nat.le_of_ble_eq_true rfl⟩ rfl ?_
    exact h3

set_option maxRecDepth 20000 in
theorem b_x_meetings_38 (X : mm_X) (d : Nat) (f : Nat → Int32) (fl : Nat → Int64) (g : Nat → Nat → Int32) (gl : Nat → Nat → Int64) (hh : Nat → Nat → Option Nat) (v : Nat → Value) (tx : mm_W) (l1 : Int32) (l2 : Int32) (l3 : Int32) (l4 : Int32) (s0 : Int32)  (P : Option Value → mm_W → Prop)
    (h : ((s0 = (-1)) → WP X (d + 1) 82 (20, [some (.ref 0), some (.int l1), some (.int l2), some (.int l3), some (.int (l4 + (1 : Int32))), none], [], Wd f fl g gl hh v tx) P) ∧
    ((¬ s0 = (-1)) → WP X (d) 81 (0, [some (.ref 0), some (.int l4), some (.int 0)], [], Wd f fl g gl hh v tx) (fun rv w2 => WP X (d + 1) 82 (55, [some (.ref 0), some (.int l1), some (.int l2), some (.int l3), some (.int l4), some (.int s0)], rv.toList ++ [.int s0], w2) P))) :
    WP X (d + 1) 82 (38, [some (.ref 0), some (.int l1), some (.int l2), some (.int l3), some (.int l4), none], [.int s0], Wd f fl g gl hh v tx) P := by
  refine WP.run hP_82 3 (c' := (43, [some (.ref 0), some (.int l1), some (.int l2), some (.int l3), some (.int l4), some (.int s0)], [.int (-1), .int s0], Wd f fl g gl hh v tx)) rfl ?_
  refine WP.br hP_82 (q := s0 = (-1)) (t := 74) (f := 46) (L := [some (.ref 0), some (.int l1), some (.int l2), some (.int l3), some (.int l4), some (.int s0)]) (st := []) (w := Wd f fl g gl hh v tx) rfl (fun c1 => ?_) (fun c1 => ?_)
  · have h2 := h.1 c1
    refine WP.run hP_82 2 (c' := (20, [some (.ref 0), some (.int l1), some (.int l2), some (.int l3), some (.int (l4 + (1 : Int32))), none], [], Wd f fl g gl hh v tx)) rfl ?_
    exact h2
  · have h3 := h.2 c1
    refine WP.run hP_82 4 (c' := (52, [some (.ref 0), some (.int l1), some (.int l2), some (.int l3), some (.int l4), some (.int s0)], [.int 0, .int l4, .ref 0, .int s0], Wd f fl g gl hh v tx)) rfl ?_
    refine WP.call hP_82 hP_81 (as := [.ref 0, .int l4, .int 0]) (pc' := 55) (L' := [some (.ref 0), some (.int l1), some (.int l2), some (.int l3), some (.int l4), some (.int s0)]) (st' := [.int s0]) (w1 := Wd f fl g gl hh v tx) rfl ⟨Nat.le_of_ble_eq_true rfl, Nat.le_of_ble_eq_true rfl⟩ rfl ?_
    exact h3

set_option maxRecDepth 20000 in
theorem b_x_meetings_55 (X : mm_X) (d : Nat) (f : Nat → Int32) (fl : Nat → Int64) (g : Nat → Nat → Int32) (gl : Nat → Nat → Int64) (hh : Nat → Nat → Option Nat) (v : Nat → Value) (tx : mm_W) (l1 : Int32) (l2 : Int32) (l3 : Int32) (l4 : Int32) (l5 : Int32) (s0 : Int32) (s1 : Int32)  (P : Option Value → mm_W → Prop)
    (h : ((¬ s1 = s0) → WP X (d) 82 (20, [some (.ref 0), some (.int l1), some (.int l2), some (.int l3), some (.int (l4 + (1 : Int32))), none], [], Wd f fl g gl hh v tx) P) ∧
    ((s1 = s0) → (((¬ l2 = l1) → WP X (d) 82 (20, [some (.ref 0), some (.int l1), some (.int (l2 + (1 : Int32))), some (.int l3), some (.int (l4 + (1 : Int32))), none], [], Wd f fl g gl hh v tx) P) ∧
      ((l2 = l1) → P (some (.int (((10 : Int32) * l3) + l4))) (Wd f fl g gl hh v tx))))) :
    WP X (d) 82 (55, [some (.ref 0), some (.int l1), some (.int l2), some (.int l3), some (.int l4), some (.int l5)], [.int s0, .int s1], Wd f fl g gl hh v tx) P := by
  refine WP.br hP_82 (q := ¬ s1 = s0) (t := 74) (f := 58) (L := [some (.ref 0), some (.int l1), some (.int l2), some (.int l3), some (.int l4), some (.int l5)]) (st := []) (w := Wd f fl g gl hh v tx) rfl (fun c1 => ?_) (fun c1 => ?_)
  · have h2 := h.1 c1
    refine WP.run hP_82 2 (c' := (20, [some (.ref 0), some (.int l1), some (.int l2), some (.int l3), some (.int (l4 + (1 : Int32))), none], [], Wd f fl g gl hh v tx)) rfl ?_
    exact h2
  · have h3 := h.2 (Classical.not_not.mp c1)
    refine WP.run hP_82 2 (c' := (60, [some (.ref 0), some (.int l1), some (.int l2), some (.int l3), some (.int l4), some (.int l5)], [.int l1, .int l2], Wd f fl g gl hh v tx)) rfl ?_
    refine WP.br hP_82 (q := ¬ l2 = l1) (t := 71) (f := 63) (L := [some (.ref 0), some (.int l1), some (.int l2), some (.int l3), some (.int l4), some (.int l5)]) (st := []) (w := Wd f fl g gl hh v tx) rfl (fun c4 => ?_) (fun c4 => ?_)
    · have h5 := h3.1 c4
      refine WP.run hP_82 1 (c' := (74, [some (.ref 0), some (.int l1), some (.int (l2 + (1 : Int32))), some (.int l3), some (.int l4), none], [], Wd f fl g gl hh v tx)) rfl ?_
      refine WP.run hP_82 2 (c' := (20, [some (.ref 0), some (.int l1), some (.int (l2 + (1 : Int32))), some (.int l3), some (.int (l4 + (1 : Int32))), none], [], Wd f fl g gl hh v tx)) rfl ?_
      exact h5
    · have h6 := h3.2 (Classical.not_not.mp c4)
      refine WP.run hP_82 5 (c' := (70, [some (.ref 0), some (.int l1), some (.int l2), some (.int l3), some (.int l4), some (.int l5)], [.int (((10 : Int32) * l3) + l4)], Wd f fl g gl hh v tx)) rfl ?_
      exact WP.retI hP_82 rfl rfl h6

set_option maxRecDepth 20000 in
theorem b_x_compare_0 (X : mm_X) (d : Nat) (f : Nat → Int32) (fl : Nat → Int64) (g : Nat → Nat → Int32) (gl : Nat → Nat → Int64) (hh : Nat → Nat → Option Nat) (v : Nat → Value) (tx : mm_W) (p0 : Int32) (p1 : Int32) (t0 : Nat)  (P : Option Value → mm_W → Prop)
    (h : ((p0 < (-1)) → P (some (.int (-1))) (Wd f fl g gl hh v tx)) ∧
    ((¬ (p0 < (-1))) → ((((f 74) ≤ p0) → P (some (.int (-1))) (Wd f fl g gl hh v tx)) ∧
      ((¬ ((f 74) ≤ p0)) → (((0 ≤ p1 ∧ p1 < (f 68)) → (((¬ p0 = (-1)) → ((¬ (p0 < 0 ∨ 6 ≤ p0.toNatClampNeg)) ∧ (((mm_rf ((hh 7) p0.toNatClampNeg)) = .ref t0) ∧ WP X (d) 7 (0, [some (.ref 38), some (.ref 1), some (.int p1), some (.ref t0), none], [], Wd f fl g gl hh v tx) (fun rv w2 => WP X (d + 1) 92 (64, [some (.ref 0), none, some (.int p1), some (.ref t0)], rv.toList ++ [], w2) P)))) ∧
          ((p0 = (-1)) → WP X (d) 7 (0, [some (.ref 38), some (.ref 1), some (.int p1), some (.null), none], [], Wd f fl g gl hh v tx) (fun rv w2 => WP X (d + 1) 92 (64, [some (.ref 0), none, some (.int p1), some (.null)], rv.toList ++ [], w2) P)))) ∧
        ((¬ (0 ≤ p1 ∧ p1 < (f 68))) → P (some (.int (-1))) (Wd f fl g gl hh v tx))))))) :
    WP X (d + 1) 92 (0, [some (.ref 0), some (.int p0), some (.int p1), none], [], Wd f fl g gl hh v tx) P := by
  refine WP.run hP_92 2 (c' := (2, [some (.ref 0), some (.int p0), some (.int p1), none], [.int (-1), .int p0], Wd f fl g gl hh v tx)) rfl ?_
  refine WP.br hP_92 (q := p0 < (-1)) (t := 30) (f := 5) (L := [some (.ref 0), some (.int p0), some (.int p1), none]) (st := []) (w := Wd f fl g gl hh v tx) rfl (fun c1 => ?_) (fun c1 => ?_)
  · have h2 := h.1 c1
    refine WP.run hP_92 1 (c' := (31, [none, none, none, none], [.int (-1)], Wd f fl g gl hh v tx)) rfl ?_
    exact WP.retI hP_92 rfl rfl h2
  · have h3 := h.2 c1
    refine WP.run hP_92 4 (c' := (13, [some (.ref 0), some (.int p0), some (.int p1), none], [.int (f 74), .int p0], Wd f fl g gl hh v tx)) rfl ?_
    refine WP.br hP_92 (q := (f 74) ≤ p0) (t := 30) (f := 16) (L := [some (.ref 0), some (.int p0), some (.int p1), none]) (st := []) (w := Wd f fl g gl hh v tx) rfl (fun c4 => ?_) (fun c4 => ?_)
    · have h5 := h3.1 c4
      refine WP.run hP_92 1 (c' := (31, [none, none, none, none], [.int (-1)], Wd f fl g gl hh v tx)) rfl ?_
      exact WP.retI hP_92 rfl rfl h5
    · have h6 := h3.2 c4
      refine WP.run hP_92 4 (c' := (24, [some (.ref 0), some (.int p0), some (.int p1), none], [.int (f 68), .int p1], Wd f fl g gl hh v tx)) rfl ?_
      refine WP.call hP_92 hP_99 (as := [.int p1, .int (f 68)]) (pc' := 27) (L' := [some (.ref 0), some (.int p0), some (.int p1), none]) (st' := []) (w1 := Wd f fl g gl hh v tx) rfl ⟨Nat.le_of_ble_eq_true rfl, Nat.le_of_ble_eq_true rfl⟩ rfl (b_within_m X (d) f fl g gl hh v tx p1 (f 68) _ ?_)
      refine ⟨fun c7 => ?_, fun c7 => ?_⟩
      · have h8 := h6.1 c7
        refine WP.run hP_92 3 (c' := (34, [some (.ref 0), some (.int p0), some (.int p1), none], [.int (-1), .int p0], Wd f fl g gl hh v tx)) rfl ?_
        refine WP.br hP_92 (q := ¬ p0 = (-1)) (t := 41) (f := 37) (L := [some (.ref 0), some (.int p0), some (.int p1), none]) (st := []) (w := Wd f fl g gl hh v tx) rfl (fun c9 => ?_) (fun c9 => ?_)
        · have h10 := h8.1 c9
          refine WP.run hP_92 4 (c' := (49, [some (.ref 0), some (.int p0), some (.int p1), none], [.int p0, .ref 7], Wd f fl g gl hh v tx)) rfl ?_
          refine WP.of (fun _ _ => Ex.aald4 hP_92 rfl (Wa_7 _ _ _ _ _ _ _) h10.1) ?_
          have h11 := h10.2
          rw [h11.1]
          have h12 := h11.2
          refine WP.run hP_92 7 (c' := (61, [some (.ref 0), none, some (.int p1), some (.ref t0)], [.ref t0, .int p1, .ref 1, .ref 38], Wd f fl g gl hh v tx)) rfl ?_
          refine WP.call hP_92 hP_7 (as := [.ref 38, .ref 1, .int p1, .ref t0]) (pc' := 64) (L' := [some (.ref 0), none, some (.int p1), some (.ref t0)]) (st' := []) (w1 := Wd f fl g gl hh v tx) rfl ⟨Nat.le_of_ble_eq_true rfl, Nat.le_of_ble_eq_true rfl⟩ rfl ?_
          exact h12
        · have h13 := h8.2 (Classical.not_not.mp c9)
          refine WP.run hP_92 9 (c' := (61, [some (.ref 0), none, some (.int p1), some (.null)], [.null, .int p1, .ref 1, .ref 38], Wd f fl g gl hh v tx)) rfl ?_
          refine WP.call hP_92 hP_7 (as := [.ref 38, .ref 1, .int p1, .null]) (pc' := 64) (L' := [some (.ref 0), none, some (.int p1), some (.null)]) (st' := []) (w1 := Wd f fl g gl hh v tx) rfl ⟨Nat.le_of_ble_eq_true rfl, Nat.le_of_ble_eq_true rfl⟩ rfl ?_
          exact h13
      · have h14 := h6.2 c7
        refine WP.run hP_92 2 (c' := (31, [none, none, none, none], [.int (-1)], Wd f fl g gl hh v tx)) rfl ?_
        exact WP.retI hP_92 rfl rfl h14

set_option maxRecDepth 20000 in
theorem b_x_compare_64 (X : mm_X) (d : Nat) (f : Nat → Int32) (fl : Nat → Int64) (g : Nat → Nat → Int32) (gl : Nat → Nat → Int64) (hh : Nat → Nat → Option Nat) (v : Nat → Value) (tx : mm_W) (l2 : Int32) (t0 : Nat) (s0 : Int32)  (P : Option Value → mm_W → Prop)
    (h : ((s0 = 0) → P (some (.int (-1))) (Wd f fl g gl hh v tx)) ∧
    ((¬ s0 = 0) → P (some (.int (f 2438))) (Wd f fl g gl hh v tx))) :
    WP X (d) 92 (64, [some (.ref 0), none, some (.int l2), some (.ref t0)], [.int s0], Wd f fl g gl hh v tx) P := by
  refine WP.br hP_92 (q := s0 = 0) (t := 77) (f := 67) (L := [some (.ref 0), none, some (.int l2), some (.ref t0)]) (st := []) (w := Wd f fl g gl hh v tx) rfl (fun c1 => ?_) (fun c1 => ?_)
  · have h2 := h.1 c1
    refine WP.run hP_92 1 (c' := (78, [none, none, none, none], [.int (-1)], Wd f fl g gl hh v tx)) rfl ?_
    exact WP.retI hP_92 rfl rfl h2
  · have h3 := h.2 c1
    refine WP.run hP_92 4 (c' := (78, [some (.ref 0), none, some (.int l2), some (.ref t0)], [.int (f 2438)], Wd f fl g gl hh v tx)) rfl ?_
    exact WP.retI hP_92 rfl rfl h3

set_option maxRecDepth 20000 in
theorem b_x_compare_64a (X : mm_X) (d : Nat) (f : Nat → Int32) (fl : Nat → Int64) (g : Nat → Nat → Int32) (gl : Nat → Nat → Int64) (hh : Nat → Nat → Option Nat) (v : Nat → Value) (tx : mm_W) (l2 : Int32) (s0 : Int32)  (P : Option Value → mm_W → Prop)
    (h : ((s0 = 0) → P (some (.int (-1))) (Wd f fl g gl hh v tx)) ∧
    ((¬ s0 = 0) → P (some (.int (f 2438))) (Wd f fl g gl hh v tx))) :
    WP X (d) 92 (64, [some (.ref 0), none, some (.int l2), some (.null)], [.int s0], Wd f fl g gl hh v tx) P := by
  refine WP.br hP_92 (q := s0 = 0) (t := 77) (f := 67) (L := [some (.ref 0), none, some (.int l2), some (.null)]) (st := []) (w := Wd f fl g gl hh v tx) rfl (fun c1 => ?_) (fun c1 => ?_)
  · have h2 := h.1 c1
    refine WP.run hP_92 1 (c' := (78, [none, none, none, none], [.int (-1)], Wd f fl g gl hh v tx)) rfl ?_
    exact WP.retI hP_92 rfl rfl h2
  · have h3 := h.2 c1
    refine WP.run hP_92 4 (c' := (78, [some (.ref 0), none, some (.int l2), some (.null)], [.int (f 2438)], Wd f fl g gl hh v tx)) rfl ?_
    exact WP.retI hP_92 rfl rfl h3

set_option maxRecDepth 20000 in
theorem b_x_sails_0 (X : mm_X) (d : Nat) (f : Nat → Int32) (fl : Nat → Int64) (g : Nat → Nat → Int32) (gl : Nat → Nat → Int64) (hh : Nat → Nat → Option Nat) (v : Nat → Value) (tx : mm_W) (p0 : Int64) (t0 : Nat)  (P : Option Value → mm_W → Prop)
    (h : (((lg_cmp p0 0) < 0) → P (some (.int (-2))) (Wd f fl g gl hh v tx)) ∧
    ((¬ ((lg_cmp p0 0) < 0)) → ((((lg_cmp p0 (((f 68) : Int32).toInt64)) < 0) → (((0 ≤ (f 76) ∧ (f 76) < (f 74)) → ((¬ ((f 76) < 0 ∨ 6 ≤ (f 76).toNatClampNeg)) ∧ (((mm_rf ((hh 7) (f 76).toNatClampNeg)) = .ref t0) ∧ WP X (d + 1) 7 (0, [some (.ref 38), some (.ref 1), some (.int ((p0 : Int64).toInt32)), some (.ref t0), none], [], Wd f fl g gl hh v tx) (fun rv w2 => WP X (d + 2) 107 (44, [some (.ref 0), some (.long p0), none, some (.int ((p0 : Int64).toInt32))], rv.toList ++ [], w2) P)))) ∧
        ((¬ (0 ≤ (f 76) ∧ (f 76) < (f 74))) → WP X (d + 1) 7 (0, [some (.ref 38), some (.ref 1), some (.int ((p0 : Int64).toInt32)), some (.null), none], [], Wd f fl g gl hh v tx) (fun rv w2 => WP X (d + 2) 107 (44, [some (.ref 0), some (.long p0), none, some (.int ((p0 : Int64).toInt32))], rv.toList ++ [], w2) P)))) ∧
      ((¬ ((lg_cmp p0 (((f 68) : Int32).toInt64)) < 0)) → P (some (.int (-2))) (Wd f fl g gl hh v tx))))) :
    WP X (d + 2) 107 (0, [some (.ref 0), some (.long p0), none, none], [], Wd f fl g gl hh v tx) P := by
  refine WP.run hP_107 3 (c' := (3, [some (.ref 0), some (.long p0), none, none], [.int (lg_cmp p0 0)], Wd f fl g gl hh v tx)) rfl ?_
  refine WP.br hP_107 (q := (lg_cmp p0 0) < 0) (t := 19) (f := 6) (L := [some (.ref 0), some (.long p0), none, none]) (st := []) (w := Wd f fl g gl hh v tx) rfl (fun c1 => ?_) (fun c1 => ?_)
  · have h2 := h.1 c1
    refine WP.run hP_107 1 (c' := (21, [none, none, none, none], [.int (-2)], Wd f fl g gl hh v tx)) rfl ?_
    exact WP.retI hP_107 rfl rfl h2
  · have h3 := h.2 c1
    refine WP.run hP_107 6 (c' := (16, [some (.ref 0), some (.long p0), none, none], [.int (lg_cmp p0 (((f 68) : Int32).toInt64))], Wd f fl g gl hh v tx)) rfl ?_
    refine WP.br hP_107 (q := (lg_cmp p0 (((f 68) : Int32).toInt64)) < 0) (t := 22) (f := 19) (L := [some (.ref 0), some (.long p0), none, none]) (st := []) (w := Wd f fl g gl hh v tx) rfl (fun c4 => ?_) (fun c4 => ?_)
    · have h5 := h3.1 c4
      refine WP.run hP_107 2 (c' := (24, [some (.ref 0), some (.long p0), none, none], [.int ((p0 : Int64).toInt32)], Wd f fl g gl hh v tx)) rfl ?_
      refine WP.run hP_107 8 (c' := (38, [some (.ref 0), some (.long p0), none, some (.int ((p0 : Int64).toInt32))], [.ref 1, .int ((p0 : Int64).toInt32), .ref 1, .ref 38], Wd f fl g gl hh v tx)) rfl ?_
      refine WP.call hP_107 hP_46 (as := [.ref 1]) (pc' := 41) (L' := [some (.ref 0), some (.long p0), none, some (.int ((p0 : Int64).toInt32))]) (st' := [.int ((p0 : Int64).toInt32), .ref 1, .ref 38]) (w1 := Wd f fl g gl hh v tx) rfl ⟨Nat.le_of_ble_eq_true rfl, Nat.le_of_ble_eq_true rfl⟩ rfl (b_yst_lawInForce_1_0 X (d) f fl g gl hh v tx  _ ?_)
      refine ⟨fun c6 => ?_, fun c6 => ?_⟩
      · have h7 := h5.1 c6
        refine ⟨h7.1, ?_⟩
        have h8 := h7.2
        rw [h8.1]
        have h9 := h8.2
        refine WP.call hP_107 hP_7 (as := [.ref 38, .ref 1, .int ((p0 : Int64).toInt32), .ref t0]) (pc' := 44) (L' := [some (.ref 0), some (.long p0), none, some (.int ((p0 : Int64).toInt32))]) (st' := []) (w1 := Wd f fl g gl hh v tx) rfl ⟨Nat.le_of_ble_eq_true rfl, Nat.le_of_ble_eq_true rfl⟩ rfl ?_
        exact h9
      · have h10 := h5.2 c6
        refine WP.call hP_107 hP_7 (as := [.ref 38, .ref 1, .int ((p0 : Int64).toInt32), .null]) (pc' := 44) (L' := [some (.ref 0), some (.long p0), none, some (.int ((p0 : Int64).toInt32))]) (st' := []) (w1 := Wd f fl g gl hh v tx) rfl ⟨Nat.le_of_ble_eq_true rfl, Nat.le_of_ble_eq_true rfl⟩ rfl ?_
        exact h10
    · have h11 := h3.2 c4
      refine WP.run hP_107 1 (c' := (21, [none, none, none, none], [.int (-2)], Wd f fl g gl hh v tx)) rfl ?_
      exact WP.retI hP_107 rfl rfl h11

set_option maxRecDepth 20000 in
theorem b_x_sails_44 (X : mm_X) (d : Nat) (f : Nat → Int32) (fl : Nat → Int64) (g : Nat → Nat → Int32) (gl : Nat → Nat → Int64) (hh : Nat → Nat → Option Nat) (v : Nat → Value) (tx : mm_W) (l1 : Int64) (l3 : Int32) (s0 : Int32)  (P : Option Value → mm_W → Prop)
    (h : ((¬ s0 = 0) → ((¬ (l3 < 0 ∨ 3 ≤ l3.toNatClampNeg)) ∧ WP X (d) 51 (0, [some (.ref 1), some (.int (((2 : Int32) ||| ((l3 <<< ((2 : Int32) &&& (31 : Int32))) : Int32)) ||| ((((g 5) l3.toNatClampNeg) <<< ((4 : Int32) &&& (31 : Int32))) : Int32)))], [], Wd f fl g gl hh v tx) (fun rv w2 => WP X (d + 1) 107 (74, [some (.ref 0), none, none, some (.int l3)], rv.toList ++ [], w2) P))) ∧
    ((s0 = 0) → P (some (.int (-3))) (Wd f fl g gl hh v tx))) :
    WP X (d + 1) 107 (44, [some (.ref 0), some (.long l1), none, some (.int l3)], [.int s0], Wd f fl g gl hh v tx) P := by
  refine WP.br hP_107 (q := ¬ s0 = 0) (t := 50) (f := 47) (L := [some (.ref 0), some (.long l1), none, some (.int l3)]) (st := []) (w := Wd f fl g gl hh v tx) rfl (fun c1 => ?_) (fun c1 => ?_)
  · have h2 := h.1 c1
    refine WP.run hP_107 11 (c' := (67, [some (.ref 0), none, none, some (.int l3)], [.int l3, .ref 5, .int ((2 : Int32) ||| ((l3 <<< ((2 : Int32) &&& (31 : Int32))) : Int32)), .ref 1], Wd f fl g gl hh v tx)) rfl ?_
    refine WP.of (fun _ _ => Ex.iald hP_107 rfl (Wa_5 _ _ _ _ _ _ _) h2.1) ?_
    have h3 := h2.2
    refine WP.run hP_107 3 (c' := (71, [some (.ref 0), none, none, some (.int l3)], [.int (((2 : Int32) ||| ((l3 <<< ((2 : Int32) &&& (31 : Int32))) : Int32)) ||| ((((g 5) l3.toNatClampNeg) <<< ((4 : Int32) &&& (31 : Int32))) : Int32)), .ref 1], Wd f fl g gl hh v tx)) rfl ?_
    refine WP.call hP_107 hP_51 (as := [.ref 1, .int (((2 : Int32) ||| ((l3 <<< ((2 : Int32) &&& (31 : Int32))) : Int32)) ||| ((((g 5) l3.toNatClampNeg) <<< ((4 : Int32) &&& (31 : Int32))) : Int32))]) (pc' := 74) (L' := [some (.ref 0), none, none, some (.int l3)]) (st' := []) (w1 := Wd f fl g gl hh v tx) rfl ⟨Nat.le_of_ble_eq_true rfl, Nat.le_of_ble_eq_true rfl⟩ rfl ?_
    exact h3
  · have h4 := h.2 (Classical.not_not.mp c1)
    refine WP.run hP_107 1 (c' := (49, [some (.ref 0), some (.long l1), none, some (.int l3)], [.int (-3)], Wd f fl g gl hh v tx)) rfl ?_
    exact WP.retI hP_107 rfl rfl h4

set_option maxRecDepth 20000 in
theorem b_x_sails_74 (X : mm_X) (d : Nat) (f : Nat → Int32) (fl : Nat → Int64) (g : Nat → Nat → Int32) (gl : Nat → Nat → Int64) (hh : Nat → Nat → Option Nat) (v : Nat → Value) (tx : mm_W) (l3 : Int32)  (P : Option Value → mm_W → Prop)
    (h : WP X (d) 11 (0, [some (.ref 38), some (.ref 1), none, none], [], Wd f fl g gl hh v tx) (fun rv w2 => WP X (d + 1) 107 (85, [some (.ref 0), none, none, some (.int l3)], rv.toList ++ [], w2) P)) :
    WP X (d + 1) 107 (74, [some (.ref 0), none, none, some (.int l3)], [], Wd f fl g gl hh v tx) P := by
  refine WP.run hP_107 4 (c' := (82, [some (.ref 0), none, none, some (.int l3)], [.ref 1, .ref 38], Wd f fl g gl hh v tx)) rfl ?_
  refine WP.call hP_107 hP_11 (as := [.ref 38, .ref 1]) (pc' := 85) (L' := [some (.ref 0), none, none, some (.int l3)]) (st' := []) (w1 := Wd f fl g gl hh v tx) rfl ⟨Nat.le_of_ble_eq_true rfl, Nat.le_of_ble_eq_true rfl⟩ rfl ?_
  exact h

set_option maxRecDepth 20000 in
theorem b_x_sails_85 (X : mm_X) (d : Nat) (f : Nat → Int32) (fl : Nat → Int64) (g : Nat → Nat → Int32) (gl : Nat → Nat → Int64) (hh : Nat → Nat → Option Nat) (v : Nat → Value) (tx : mm_W) (l3 : Int32)  (P : Option Value → mm_W → Prop)
    (h : (¬ (l3 < 0 ∨ 3 ≤ l3.toNatClampNeg)) ∧ P (some (.int (f 2437))) (Wd f fl (va_up g 5 (upd (g 5) (l3.toNatClampNeg) (f 2440))) gl hh v tx)) :
    WP X (d) 107 (85, [some (.ref 0), none, none, some (.int l3)], [], Wd f fl g gl hh v tx) P := by
  refine WP.run hP_107 7 (c' := (100, [some (.ref 0), none, none, some (.int l3)], [.int (f 2440), .int l3, .ref 5], Wd f fl g gl hh v tx)) rfl ?_
  refine WP.of (fun _ _ => Ex.iast hP_107 (w2 := Wd f fl (va_up g 5 (upd (g 5) (l3.toNatClampNeg) (f 2440))) gl hh v tx) rfl (Wa_5 _ _ _ _ _ _ _) h.1 (Ws_5 _ _ _ _ _ _ _ _)) ?_
  have h1 := h.2
  refine WP.run hP_107 3 (c' := (108, [some (.ref 0), none, none, some (.int l3)], [.int (f 2437)], Wd f fl (va_up g 5 (upd (g 5) (l3.toNatClampNeg) (f 2440))) gl hh v tx)) rfl ?_
  exact WP.retI hP_107 rfl rfl h1

set_option maxRecDepth 20000 in
theorem b_m_greater_0 (X : mm_X) (d : Nat) (f : Nat → Int32) (fl : Nat → Int64) (g : Nat → Nat → Int32) (gl : Nat → Nat → Int64) (hh : Nat → Nat → Option Nat) (v : Nat → Value) (tx : mm_W) (p0 : Int32) (p1 : Int32)  (P : Option Value → mm_W → Prop)
    (h : ((p0 ≤ p1) → P (some (.int p1)) (Wd f fl g gl hh v tx)) ∧
    ((¬ (p0 ≤ p1)) → P (some (.int p0)) (Wd f fl g gl hh v tx))) :
    WP X (d) 118 (0, [some (.int p0), some (.int p1)], [], Wd f fl g gl hh v tx) P := by
  refine WP.run hP_118 2 (c' := (2, [some (.int p0), some (.int p1)], [.int p1, .int p0], Wd f fl g gl hh v tx)) rfl ?_
  refine WP.br hP_118 (q := p0 ≤ p1) (t := 9) (f := 5) (L := [some (.int p0), some (.int p1)]) (st := []) (w := Wd f fl g gl hh v tx) rfl (fun c1 => ?_) (fun c1 => ?_)
  · have h2 := h.1 c1
    refine WP.run hP_118 1 (c' := (10, [none, some (.int p1)], [.int p1], Wd f fl g gl hh v tx)) rfl ?_
    exact WP.retI hP_118 rfl rfl h2
  · have h3 := h.2 c1
    refine WP.run hP_118 2 (c' := (10, [some (.int p0), some (.int p1)], [.int p0], Wd f fl g gl hh v tx)) rfl ?_
    exact WP.retI hP_118 rfl rfl h3

set_option maxRecDepth 20000 in
theorem b_m_laysRead_0 (X : mm_X) (d : Nat) (f : Nat → Int32) (fl : Nat → Int64) (g : Nat → Nat → Int32) (gl : Nat → Nat → Int64) (hh : Nat → Nat → Option Nat) (v : Nat → Value) (tx : mm_W) (p0 : Int32)  (P : Option Value → mm_W → Prop)
    (h : WP X (d) 201 (2, [some (.ref 74), some (.int p0), some (.int 0)], [], Wd f fl g gl hh v tx) P) :
    WP X (d) 201 (0, [some (.ref 74), some (.int p0), none], [], Wd f fl g gl hh v tx) P := by
  refine WP.run hP_201 2 (c' := (2, [some (.ref 74), some (.int p0), some (.int 0)], [], Wd f fl g gl hh v tx)) rfl ?_
  exact h

set_option maxRecDepth 20000 in
theorem b_m_laysRead_2 (X : mm_X) (d : Nat) (f : Nat → Int32) (fl : Nat → Int64) (g : Nat → Nat → Int32) (gl : Nat → Nat → Int64) (hh : Nat → Nat → Option Nat) (v : Nat → Value) (tx : mm_W) (l1 : Int32) (l2 : Int32)  (P : Option Value → mm_W → Prop)
    (h : ((((g 76) 55) ≤ l2) → WP X (d) 196 (0, [some (.ref 74), some (.int 0), none, none], [], Wd f fl g gl hh v tx) (fun rv w2 => WP X (d + 1) 201 (33, [some (.ref 74), none, none], rv.toList ++ [], w2) P)) ∧
    ((¬ (((g 76) 55) ≤ l2)) → WP X (d) 191 (0, [some (.ref 74), some (.int l1), some (.int l2)], [], Wd f fl g gl hh v tx) (fun rv w2 => WP X (d + 1) 201 (21, [some (.ref 74), some (.int l1), some (.int l2)], rv.toList ++ [.int l2, .ref 89], w2) P))) :
    WP X (d + 1) 201 (2, [some (.ref 74), some (.int l1), some (.int l2)], [], Wd f fl g gl hh v tx) P := by
  refine WP.run hP_201 2 (c' := (4, [some (.ref 74), some (.int l1), some (.int l2)], [.ref 74, .int l2], Wd f fl g gl hh v tx)) rfl ?_
  refine WP.call hP_201 hP_129 (as := [.ref 74]) (pc' := 7) (L' := [some (.ref 74), some (.int l1), some (.int l2)]) (st' := [.int l2]) (w1 := Wd f fl g gl hh v tx) rfl ⟨Nat.le_of_ble_eq_true rfl, Nat.le_of_ble_eq_true rfl⟩ rfl (b_m_signMany_0 X (d) f fl g gl hh v tx  _ ?_)
  refine WP.br hP_201 (q := ((g 76) 55) ≤ l2) (t := 28) (f := 10) (L := [some (.ref 74), some (.int l1), some (.int l2)]) (st := []) (w := Wd f fl g gl hh v tx) rfl (fun c1 => ?_) (fun c1 => ?_)
  · have h2 := h.1 c1
    refine WP.run hP_201 2 (c' := (30, [some (.ref 74), none, none], [.int 0, .ref 74], Wd f fl g gl hh v tx)) rfl ?_
    refine WP.call hP_201 hP_196 (as := [.ref 74, .int 0]) (pc' := 33) (L' := [some (.ref 74), none, none]) (st' := []) (w1 := Wd f fl g gl hh v tx) rfl ⟨Nat.le_of_ble_eq_true rfl, Nat.le_of_ble_eq_true rfl⟩ rfl ?_
    exact h2
  · have h3 := h.2 c1
    refine WP.run hP_201 6 (c' := (18, [some (.ref 74), some (.int l1), some (.int l2)], [.int l2, .int l1, .ref 74, .int l2, .ref 89], Wd f fl g gl hh v tx)) rfl ?_
    refine WP.call hP_201 hP_191 (as := [.ref 74, .int l1, .int l2]) (pc' := 21) (L' := [some (.ref 74), some (.int l1), some (.int l2)]) (st' := [.int l2, .ref 89]) (w1 := Wd f fl g gl hh v tx) rfl ⟨Nat.le_of_ble_eq_true rfl, Nat.le_of_ble_eq_true rfl⟩ rfl ?_
    exact h3

set_option maxRecDepth 20000 in
theorem b_m_laysRead_33 (X : mm_X) (d : Nat) (f : Nat → Int32) (fl : Nat → Int64) (g : Nat → Nat → Int32) (gl : Nat → Nat → Int64) (hh : Nat → Nat → Option Nat) (v : Nat → Value) (tx : mm_W)   (P : Option Value → mm_W → Prop)
    (h : ((1000000 ≤ ((g 88) 0)) → P (some (.int 0)) (Wd f fl g gl hh v tx)) ∧
    ((¬ (1000000 ≤ ((g 88) 0))) → P (some (.int 1)) (Wd f fl g gl hh v tx))) :
    WP X (d) 201 (33, [some (.ref 74), none, none], [], Wd f fl g gl hh v tx) P := by
  refine WP.run hP_201 3 (c' := (38, [some (.ref 74), none, none], [.int 0, .ref 88], Wd f fl g gl hh v tx)) rfl ?_
  refine WP.of (fun _ _ => Ex.iald hP_201 rfl (Wa_88 _ _ _ _ _ _ _) (by decide)) ?_
  show WP X _ 201 (39, [some (.ref 74), none, none], [.int ((g 88) 0)], Wd f fl g gl hh v tx) P
  refine WP.run hP_201 1 (c' := (41, [some (.ref 74), none, none], [.int 1000000, .int ((g 88) 0)], Wd f fl g gl hh v tx)) rfl ?_
  refine WP.br hP_201 (q := 1000000 ≤ ((g 88) 0)) (t := 48) (f := 44) (L := [some (.ref 74), none, none]) (st := []) (w := Wd f fl g gl hh v tx) rfl (fun c1 => ?_) (fun c1 => ?_)
  · have h2 := h.1 c1
    refine WP.run hP_201 1 (c' := (49, [none, none, none], [.int 0], Wd f fl g gl hh v tx)) rfl ?_
    exact WP.ret hP_201 (r := some (.int 0)) (w' := Wd f fl g gl hh v tx) rfl h2
  · have h3 := h.2 c1
    refine WP.run hP_201 2 (c' := (49, [some (.ref 74), none, none], [.int 1], Wd f fl g gl hh v tx)) rfl ?_
    exact WP.ret hP_201 (r := some (.int 1)) (w' := Wd f fl g gl hh v tx) rfl h3

set_option maxRecDepth 20000 in
theorem b_m_laysRead_21 (X : mm_X) (d : Nat) (f : Nat → Int32) (fl : Nat → Int64) (g : Nat → Nat → Int32) (gl : Nat → Nat → Int64) (hh : Nat → Nat → Option Nat) (v : Nat → Value) (tx : mm_W) (l1 : Int32) (l2 : Int32) (s0 : Int32) (s1 : Int32)  (P : Option Value → mm_W → Prop)
    (h : (¬ (s1 < 0 ∨ 8 ≤ s1.toNatClampNeg)) ∧ WP X (d) 201 (2, [some (.ref 74), some (.int l1), some (.int (l2 + (1 : Int32)))], [], Wd f fl (va_up g 89 (upd (g 89) (s1.toNatClampNeg) s0)) gl hh v tx) P) :
    WP X (d) 201 (21, [some (.ref 74), some (.int l1), some (.int l2)], [.int s0, .int s1, .ref 89], Wd f fl g gl hh v tx) P := by
  refine WP.of (fun _ _ => Ex.iast hP_201 (w2 := Wd f fl (va_up g 89 (upd (g 89) (s1.toNatClampNeg) s0)) gl hh v tx) rfl (Wa_89 _ _ _ _ _ _ _) h.1 (Ws_89 _ _ _ _ _ _ _ _)) ?_
  have h1 := h.2
  refine WP.run hP_201 2 (c' := (2, [some (.ref 74), some (.int l1), some (.int (l2 + (1 : Int32)))], [], Wd f fl (va_up g 89 (upd (g 89) (s1.toNatClampNeg) s0)) gl hh v tx)) rfl ?_
  exact h1

set_option maxRecDepth 20000 in
theorem b_m_reads_0 (X : mm_X) (d : Nat) (f : Nat → Int32) (fl : Nat → Int64) (g : Nat → Nat → Int32) (gl : Nat → Nat → Int64) (hh : Nat → Nat → Option Nat) (v : Nat → Value) (tx : mm_W) (p0 : Int32) (p1 : Int32)  (P : Option Value → mm_W → Prop)
    (h : (((0 : Int32) ≤ p0 ∧ p0 ≤ (((g 76) 56) - (1 : Int32))) → (((p1 < (-1)) → P (some (.int (-1))) (Wd f fl g gl hh v tx)) ∧
      ((¬ (p1 < (-1))) → WP X (d + 1) 201 (0, [some (.ref 74), some (.int p0), none], [], Wd f fl g gl hh v tx) (fun rv w2 => WP X (d + 2) 202 (18, [some (.ref 74), some (.int p0), some (.int p1)], rv.toList ++ [], w2) P)))) ∧
    ((¬ ((0 : Int32) ≤ p0 ∧ p0 ≤ (((g 76) 56) - (1 : Int32)))) → P (some (.int (-1))) (Wd f fl g gl hh v tx))) :
    WP X (d + 2) 202 (0, [some (.ref 74), some (.int p0), some (.int p1)], [], Wd f fl g gl hh v tx) P := by
  refine WP.run hP_202 2 (c' := (2, [some (.ref 74), some (.int p0), some (.int p1)], [.int p0, .ref 74], Wd f fl g gl hh v tx)) rfl ?_
  refine WP.call hP_202 hP_132 (as := [.ref 74, .int p0]) (pc' := 5) (L' := [some (.ref 74), some (.int p0), some (.int p1)]) (st' := []) (w1 := Wd f fl g gl hh v tx) rfl ⟨Nat.le_of_ble_eq_true rfl, Nat.le_of_ble_eq_true rfl⟩ rfl (b_m_isShip_0 X (d) f fl g gl hh v tx p0 _ ?_)
  refine ⟨fun c1 => ?_, fun c1 => ?_⟩
  · have h2 := h.1 c1
    refine WP.run hP_202 3 (c' := (10, [some (.ref 74), some (.int p0), some (.int p1)], [.int (-1), .int p1], Wd f fl g gl hh v tx)) rfl ?_
    refine WP.br hP_202 (q := p1 < (-1)) (t := 21) (f := 13) (L := [some (.ref 74), some (.int p0), some (.int p1)]) (st := []) (w := Wd f fl g gl hh v tx) rfl (fun c3 => ?_) (fun c3 => ?_)
    · have h4 := h2.1 c3
      refine WP.run hP_202 1 (c' := (22, [none, none, none], [.int (-1)], Wd f fl g gl hh v tx)) rfl ?_
      exact WP.retI hP_202 rfl rfl h4
    · have h5 := h2.2 c3
      refine WP.run hP_202 2 (c' := (15, [some (.ref 74), some (.int p0), some (.int p1)], [.int p0, .ref 74], Wd f fl g gl hh v tx)) rfl ?_
      refine WP.call hP_202 hP_201 (as := [.ref 74, .int p0]) (pc' := 18) (L' := [some (.ref 74), some (.int p0), some (.int p1)]) (st' := []) (w1 := Wd f fl g gl hh v tx) rfl ⟨Nat.le_of_ble_eq_true rfl, Nat.le_of_ble_eq_true rfl⟩ rfl ?_
      exact h5
  · have h6 := h.2 c1
    refine WP.run hP_202 2 (c' := (22, [none, none, none], [.int (-1)], Wd f fl g gl hh v tx)) rfl ?_
    exact WP.retI hP_202 rfl rfl h6

set_option maxRecDepth 20000 in
theorem b_m_reads_18 (X : mm_X) (d : Nat) (f : Nat → Int32) (fl : Nat → Int64) (g : Nat → Nat → Int32) (gl : Nat → Nat → Int64) (hh : Nat → Nat → Option Nat) (v : Nat → Value) (tx : mm_W) (l1 : Int32) (l2 : Int32) (s0 : Int32)  (P : Option Value → mm_W → Prop)
    (h : ((¬ s0 = 0) → (((¬ l2 = (-1)) → WP X (d) 199 (0, [some (.ref 74), some (.int l2), some (.int 0), none, none], [], Wd f fl g gl hh v tx) (fun rv w2 => WP X (d + 1) 202 (42, [none, none, none], rv.toList ++ [], w2) P)) ∧
      ((l2 = (-1)) → WP X (d) 200 (0, [some (.ref 74), some (.int 0), none, none], [], Wd f fl g gl hh v tx) (fun rv w2 => WP X (d + 1) 202 (33, [some (.ref 74), none, some (.int l2)], rv.toList ++ [], w2) P)))) ∧
    ((s0 = 0) → P (some (.int (-1))) (Wd f fl g gl hh v tx))) :
    WP X (d + 1) 202 (18, [some (.ref 74), some (.int l1), some (.int l2)], [.int s0], Wd f fl g gl hh v tx) P := by
  refine WP.br hP_202 (q := ¬ s0 = 0) (t := 23) (f := 21) (L := [some (.ref 74), some (.int l1), some (.int l2)]) (st := []) (w := Wd f fl g gl hh v tx) rfl (fun c1 => ?_) (fun c1 => ?_)
  · have h2 := h.1 c1
    refine WP.run hP_202 2 (c' := (25, [some (.ref 74), none, some (.int l2)], [.int (-1), .int l2], Wd f fl g gl hh v tx)) rfl ?_
    refine WP.br hP_202 (q := ¬ l2 = (-1)) (t := 36) (f := 28) (L := [some (.ref 74), none, some (.int l2)]) (st := []) (w := Wd f fl g gl hh v tx) rfl (fun c3 => ?_) (fun c3 => ?_)
    · have h4 := h2.1 c3
      refine WP.run hP_202 3 (c' := (39, [some (.ref 74), none, some (.int l2)], [.int 0, .int l2, .ref 74], Wd f fl g gl hh v tx)) rfl ?_
      refine WP.call hP_202 hP_199 (as := [.ref 74, .int l2, .int 0]) (pc' := 42) (L' := [some (.ref 74), none, some (.int l2)]) (st' := []) (w1 := Wd f fl g gl hh v tx) rfl ⟨Nat.le_of_ble_eq_true rfl, Nat.le_of_ble_eq_true rfl⟩ rfl ?_
      refine WP.mono h4 (fun _ _ hq => ?_)
      exact WP.clr hP_202 (pc := 42) rfl hq
    · have h5 := h2.2 (Classical.not_not.mp c3)
      refine WP.run hP_202 2 (c' := (30, [some (.ref 74), none, some (.int l2)], [.int 0, .ref 74], Wd f fl g gl hh v tx)) rfl ?_
      refine WP.call hP_202 hP_200 (as := [.ref 74, .int 0]) (pc' := 33) (L' := [some (.ref 74), none, some (.int l2)]) (st' := []) (w1 := Wd f fl g gl hh v tx) rfl ⟨Nat.le_of_ble_eq_true rfl, Nat.le_of_ble_eq_true rfl⟩ rfl ?_
      exact h5
  · have h6 := h.2 (Classical.not_not.mp c1)
    refine WP.run hP_202 1 (c' := (22, [none, none, none], [.int (-1)], Wd f fl g gl hh v tx)) rfl ?_
    exact WP.retI hP_202 rfl rfl h6

set_option maxRecDepth 20000 in
theorem b_m_reads_42 (X : mm_X) (d : Nat) (f : Nat → Int32) (fl : Nat → Int64) (g : Nat → Nat → Int32) (gl : Nat → Nat → Int64) (hh : Nat → Nat → Option Nat) (v : Nat → Value) (tx : mm_W) (s0 : Int32)  (P : Option Value → mm_W → Prop)
    (h : P (some (.int s0)) (Wd f fl g gl hh v tx)) :
    WP X (d) 202 (42, [none, none, none], [.int s0], Wd f fl g gl hh v tx) P := by
  exact WP.retI hP_202 rfl rfl h

set_option maxRecDepth 20000 in
theorem b_m_reads_33 (X : mm_X) (d : Nat) (f : Nat → Int32) (fl : Nat → Int64) (g : Nat → Nat → Int32) (gl : Nat → Nat → Int64) (hh : Nat → Nat → Option Nat) (v : Nat → Value) (tx : mm_W) (l2 : Int32) (s0 : Int32)  (P : Option Value → mm_W → Prop)
    (h : P (some (.int s0)) (Wd f fl g gl hh v tx)) :
    WP X (d) 202 (33, [some (.ref 74), none, some (.int l2)], [.int s0], Wd f fl g gl hh v tx) P := by
  refine WP.run hP_202 1 (c' := (42, [some (.ref 74), none, some (.int l2)], [.int s0], Wd f fl g gl hh v tx)) rfl ?_
  exact WP.retI hP_202 rfl rfl h

set_option maxRecDepth 20000 in
theorem b_m_compare_0 (X : mm_X) (d : Nat) (f : Nat → Int32) (fl : Nat → Int64) (g : Nat → Nat → Int32) (gl : Nat → Nat → Int64) (hh : Nat → Nat → Option Nat) (v : Nat → Value) (tx : mm_W) (p0 : Int32) (p1 : Int32)  (P : Option Value → mm_W → Prop)
    (h : (((-1 : Int32) ≤ p0 ∧ p0 ≤ (((g 76) 58) - (1 : Int32))) → ((((0 : Int32) ≤ p1 ∧ p1 ≤ (((g 76) 56) - (1 : Int32))) → WP X (d + 1) 201 (0, [some (.ref 74), some (.int p1), none], [], Wd f fl (va_up g 76 (upd (g 76) 59 p0)) gl hh v tx) (fun rv w2 => WP X (d + 2) 203 (39, [some (.ref 74), some (.int p0), some (.int p1), some (.int ((g 76) 59)), none], rv.toList ++ [], w2) P)) ∧
      ((¬ ((0 : Int32) ≤ p1 ∧ p1 ≤ (((g 76) 56) - (1 : Int32)))) → P (some (.int (-1))) (Wd f fl g gl hh v tx)))) ∧
    ((¬ ((-1 : Int32) ≤ p0 ∧ p0 ≤ (((g 76) 58) - (1 : Int32)))) → P (some (.int (-1))) (Wd f fl g gl hh v tx))) :
    WP X (d + 2) 203 (0, [some (.ref 74), some (.int p0), some (.int p1), none, none], [], Wd f fl g gl hh v tx) P := by
  refine WP.run hP_203 2 (c' := (2, [some (.ref 74), some (.int p0), some (.int p1), none, none], [.int p0, .ref 74], Wd f fl g gl hh v tx)) rfl ?_
  refine WP.call hP_203 hP_176 (as := [.ref 74, .int p0]) (pc' := 5) (L' := [some (.ref 74), some (.int p0), some (.int p1), none, none]) (st' := []) (w1 := Wd f fl g gl hh v tx) rfl ⟨Nat.le_of_ble_eq_true rfl, Nat.le_of_ble_eq_true rfl⟩ rfl (b_m_isLaw_0 X (d) f fl g gl hh v tx p0 _ ?_)
  refine ⟨fun c1 => ?_, fun c1 => ?_⟩
  · have h2 := h.1 c1
    refine WP.run hP_203 3 (c' := (10, [some (.ref 74), some (.int p0), some (.int p1), none, none], [.int p1, .ref 74], Wd f fl g gl hh v tx)) rfl ?_
    refine WP.call hP_203 hP_132 (as := [.ref 74, .int p1]) (pc' := 13) (L' := [some (.ref 74), some (.int p0), some (.int p1), none, none]) (st' := []) (w1 := Wd f fl g gl hh v tx) rfl ⟨Nat.le_of_ble_eq_true rfl, Nat.le_of_ble_eq_true rfl⟩ rfl (b_m_isShip_0 X (d) f fl g gl hh v tx p1 _ ?_)
    refine ⟨fun c3 => ?_, fun c3 => ?_⟩
    · have h4 := h2.1 c3
      refine WP.run hP_203 4 (c' := (24, [some (.ref 74), some (.int p0), some (.int p1), none, none], [.int 59, .ref 76], Wd f fl g gl hh v tx)) rfl ?_
      refine WP.of (fun _ _ => Ex.iald hP_203 rfl (Wa_76 _ _ _ _ _ _ _) (by decide)) ?_
      show WP X _ 203 (25, [some (.ref 74), some (.int p0), some (.int p1), none, none], [.int ((g 76) 59)], Wd f fl g gl hh v tx) P
      refine WP.run hP_203 5 (c' := (33, [some (.ref 74), some (.int p0), some (.int p1), some (.int ((g 76) 59)), none], [.int p0, .int 59, .ref 76], Wd f fl g gl hh v tx)) rfl ?_
      refine WP.of (fun _ _ => Ex.iast hP_203 (w2 := Wd f fl (va_up g 76 (upd (g 76) 59 p0)) gl hh v tx) rfl (Wa_76 _ _ _ _ _ _ _) (by decide) (Ws_76 _ _ _ _ _ _ _ _)) ?_
      refine WP.run hP_203 2 (c' := (36, [some (.ref 74), some (.int p0), some (.int p1), some (.int ((g 76) 59)), none], [.int p1, .ref 74], Wd f fl (va_up g 76 (upd (g 76) 59 p0)) gl hh v tx)) rfl ?_
      refine WP.call hP_203 hP_201 (as := [.ref 74, .int p1]) (pc' := 39) (L' := [some (.ref 74), some (.int p0), some (.int p1), some (.int ((g 76) 59)), none]) (st' := []) (w1 := Wd f fl (va_up g 76 (upd (g 76) 59 p0)) gl hh v tx) rfl ⟨Nat.le_of_ble_eq_true rfl, Nat.le_of_ble_eq_true rfl⟩ rfl ?_
      exact h4
    · have h5 := h2.2 c3
      refine WP.run hP_203 2 (c' := (17, [none, none, none, none, none], [.int (-1)], Wd f fl g gl hh v tx)) rfl ?_
      exact WP.retI hP_203 rfl rfl h5
  · have h6 := h.2 c1
    refine WP.run hP_203 2 (c' := (17, [none, none, none, none, none], [.int (-1)], Wd f fl g gl hh v tx)) rfl ?_
    exact WP.retI hP_203 rfl rfl h6

set_option maxRecDepth 20000 in
theorem b_m_compare_39 (X : mm_X) (d : Nat) (f : Nat → Int32) (fl : Nat → Int64) (g : Nat → Nat → Int32) (gl : Nat → Nat → Int64) (hh : Nat → Nat → Option Nat) (v : Nat → Value) (tx : mm_W) (l1 : Int32) (l2 : Int32) (l3 : Int32) (s0 : Int32)  (P : Option Value → mm_W → Prop)
    (h : ((s0 = 0) → P (some (.int (-1))) (Wd f fl (va_up g 76 (upd (g 76) 59 l3)) gl hh v tx)) ∧
    ((¬ s0 = 0) → P (some (.int ((g 88) 0))) (Wd f fl (va_up g 76 (upd (g 76) 59 l3)) gl hh v tx))) :
    WP X (d) 203 (39, [some (.ref 74), some (.int l1), some (.int l2), some (.int l3), none], [.int s0], Wd f fl g gl hh v tx) P := by
  refine WP.br hP_203 (q := s0 = 0) (t := 51) (f := 42) (L := [some (.ref 74), some (.int l1), some (.int l2), some (.int l3), none]) (st := []) (w := Wd f fl g gl hh v tx) rfl (fun c1 => ?_) (fun c1 => ?_)
  · have h2 := h.1 c1
    refine WP.run hP_203 1 (c' := (52, [some (.ref 74), none, none, some (.int l3), none], [.int (-1)], Wd f fl g gl hh v tx)) rfl ?_
    refine WP.run hP_203 5 (c' := (61, [some (.ref 74), none, none, some (.int l3), some (.int (-1))], [.int l3, .int 59, .ref 76], Wd f fl g gl hh v tx)) rfl ?_
    refine WP.of (fun _ _ => Ex.iast hP_203 (w2 := Wd f fl (va_up g 76 (upd (g 76) 59 l3)) gl hh v tx) rfl (Wa_76 _ _ _ _ _ _ _) (by decide) (Ws_76 _ _ _ _ _ _ _ _)) ?_
    refine WP.run hP_203 1 (c' := (64, [some (.ref 74), none, none, some (.int l3), some (.int (-1))], [.int (-1)], Wd f fl (va_up g 76 (upd (g 76) 59 l3)) gl hh v tx)) rfl ?_
    exact WP.retI hP_203 rfl rfl h2
  · have h3 := h.2 c1
    refine WP.run hP_203 3 (c' := (47, [some (.ref 74), some (.int l1), some (.int l2), some (.int l3), none], [.int 0, .ref 88], Wd f fl g gl hh v tx)) rfl ?_
    refine WP.of (fun _ _ => Ex.iald hP_203 rfl (Wa_88 _ _ _ _ _ _ _) (by decide)) ?_
    show WP X _ 203 (48, [some (.ref 74), some (.int l1), some (.int l2), some (.int l3), none], [.int ((g 88) 0)], Wd f fl g gl hh v tx) P
    refine WP.run hP_203 6 (c' := (61, [some (.ref 74), none, none, some (.int l3), some (.int ((g 88) 0))], [.int l3, .int 59, .ref 76], Wd f fl g gl hh v tx)) rfl ?_
    refine WP.of (fun _ _ => Ex.iast hP_203 (w2 := Wd f fl (va_up g 76 (upd (g 76) 59 l3)) gl hh v tx) rfl (Wa_76 _ _ _ _ _ _ _) (by decide) (Ws_76 _ _ _ _ _ _ _ _)) ?_
    refine WP.run hP_203 1 (c' := (64, [some (.ref 74), none, none, some (.int l3), some (.int ((g 88) 0))], [.int ((g 88) 0)], Wd f fl (va_up g 76 (upd (g 76) 59 l3)) gl hh v tx)) rfl ?_
    exact WP.retI hP_203 rfl rfl h3

set_option maxRecDepth 20000 in
theorem b_m_goesOn_0 (X : mm_X) (d : Nat) (f : Nat → Int32) (fl : Nat → Int64) (g : Nat → Nat → Int32) (gl : Nat → Nat → Int64) (hh : Nat → Nat → Option Nat) (v : Nat → Value) (tx : mm_W) (p0 : Int32) (p1 : Int32) (p2 : Int32)  (P : Option Value → mm_W → Prop)
    (h : ((p1 = 0) → (((((p0 / (5 : Int32)) + p2) ≤ (4 : Int32)) → P (some (.int (((5 : Int32) * ((p0 / (5 : Int32)) + p2)) + (p0 - (p0 / (5 : Int32)) * (5 : Int32))))) (Wd f fl g gl hh v tx)) ∧
      ((¬ (((p0 / (5 : Int32)) + p2) ≤ (4 : Int32))) → P (some (.int ((20 : Int32) + (p0 - (p0 / (5 : Int32)) * (5 : Int32))))) (Wd f fl g gl hh v tx)))) ∧
    ((¬ p1 = 0) → (((p1 = 1) → (((((p0 - (p0 / (5 : Int32)) * (5 : Int32)) + p2) ≤ (4 : Int32)) → P (some (.int (((5 : Int32) * (p0 / (5 : Int32))) + ((p0 - (p0 / (5 : Int32)) * (5 : Int32)) + p2)))) (Wd f fl g gl hh v tx)) ∧
        ((¬ (((p0 - (p0 / (5 : Int32)) * (5 : Int32)) + p2) ≤ (4 : Int32))) → P (some (.int (((5 : Int32) * (p0 / (5 : Int32))) + (4 : Int32)))) (Wd f fl g gl hh v tx)))) ∧
      ((¬ p1 = 1) → (((p1 = 2) → ((((0 : Int32) ≤ ((p0 / (5 : Int32)) - p2)) → P (some (.int (((5 : Int32) * ((p0 / (5 : Int32)) - p2)) + (p0 - (p0 / (5 : Int32)) * (5 : Int32))))) (Wd f fl g gl hh v tx)) ∧
          ((¬ ((0 : Int32) ≤ ((p0 / (5 : Int32)) - p2))) → P (some (.int ((0 : Int32) + (p0 - (p0 / (5 : Int32)) * (5 : Int32))))) (Wd f fl g gl hh v tx)))) ∧
        ((¬ p1 = 2) → ((((0 : Int32) ≤ ((p0 - (p0 / (5 : Int32)) * (5 : Int32)) - p2)) → P (some (.int (((5 : Int32) * (p0 / (5 : Int32))) + ((p0 - (p0 / (5 : Int32)) * (5 : Int32)) - p2)))) (Wd f fl g gl hh v tx)) ∧
          ((¬ ((0 : Int32) ≤ ((p0 - (p0 / (5 : Int32)) * (5 : Int32)) - p2))) → P (some (.int (((5 : Int32) * (p0 / (5 : Int32))) + (0 : Int32)))) (Wd f fl g gl hh v tx))))))))) :
    WP X (d + 1) 205 (0, [some (.int p0), some (.int p1), some (.int p2), none, none], [], Wd f fl g gl hh v tx) P := by
  refine WP.run hP_205 7 (c' := (7, [some (.int p0), some (.int p1), some (.int p2), some (.int (p0 - (p0 / (5 : Int32)) * (5 : Int32))), none], [.int (p0 / (5 : Int32))], Wd f fl g gl hh v tx)) rfl ?_
  refine WP.run hP_205 2 (c' := (10, [some (.int p0), some (.int p1), some (.int p2), some (.int (p0 - (p0 / (5 : Int32)) * (5 : Int32))), some (.int (p0 / (5 : Int32)))], [.int p1], Wd f fl g gl hh v tx)) rfl ?_
  refine WP.run hP_205 1 (c' := (mm_sw p1 0 [36, 49, 62] 75, [some (.int p0), some (.int p1), some (.int p2), some (.int (p0 - (p0 / (5 : Int32)) * (5 : Int32))), some (.int (p0 / (5 : Int32)))], [], Wd f fl g gl hh v tx)) rfl ?_
  refine WP.sw (lo' := 1) rfl (fun c1 => ?_) (fun c1 => ?_)
  · have h2 := h.1 c1
    refine WP.run hP_205 5 (c' := (42, [none, none, some (.int p2), some (.int (p0 - (p0 / (5 : Int32)) * (5 : Int32))), some (.int (p0 / (5 : Int32)))], [.int ((p0 / (5 : Int32)) + p2), .int 4, .int 5], Wd f fl g gl hh v tx)) rfl ?_
    refine WP.call hP_205 hP_117 (as := [.int 4, .int ((p0 / (5 : Int32)) + p2)]) (pc' := 45) (L' := [none, none, some (.int p2), some (.int (p0 - (p0 / (5 : Int32)) * (5 : Int32))), some (.int (p0 / (5 : Int32)))]) (st' := [.int 5]) (w1 := Wd f fl g gl hh v tx) rfl ⟨Nat.le_of_ble_eq_true rfl, Nat.le_of_ble_eq_true rfl⟩ rfl (b_m_lesser_0 X (d) f fl g gl hh v tx 4 ((p0 / (5 : Int32)) + p2) _ ?_)
    refine ⟨fun c3 => ?_, fun c3 => ?_⟩
    · have h4 := h2.1 c3
      refine WP.run hP_205 3 (c' := (48, [none, none, some (.int p2), some (.int (p0 - (p0 / (5 : Int32)) * (5 : Int32))), some (.int (p0 / (5 : Int32)))], [.int (((5 : Int32) * ((p0 / (5 : Int32)) + p2)) + (p0 - (p0 / (5 : Int32)) * (5 : Int32)))], Wd f fl g gl hh v tx)) rfl ?_
      exact WP.retI hP_205 rfl rfl h4
    · have h5 := h2.2 c3
      refine WP.run hP_205 3 (c' := (48, [none, none, some (.int p2), some (.int (p0 - (p0 / (5 : Int32)) * (5 : Int32))), some (.int (p0 / (5 : Int32)))], [.int ((20 : Int32) + (p0 - (p0 / (5 : Int32)) * (5 : Int32)))], Wd f fl g gl hh v tx)) rfl ?_
      exact WP.retI hP_205 rfl rfl h5
  · have h6 := h.2 c1
    refine WP.sw (lo' := 2) rfl (fun c7 => ?_) (fun c7 => ?_)
    · have h8 := h6.1 c7
      refine WP.run hP_205 7 (c' := (57, [none, none, some (.int p2), some (.int (p0 - (p0 / (5 : Int32)) * (5 : Int32))), some (.int (p0 / (5 : Int32)))], [.int ((p0 - (p0 / (5 : Int32)) * (5 : Int32)) + p2), .int 4, .int ((5 : Int32) * (p0 / (5 : Int32)))], Wd f fl g gl hh v tx)) rfl ?_
      refine WP.call hP_205 hP_117 (as := [.int 4, .int ((p0 - (p0 / (5 : Int32)) * (5 : Int32)) + p2)]) (pc' := 60) (L' := [none, none, some (.int p2), some (.int (p0 - (p0 / (5 : Int32)) * (5 : Int32))), some (.int (p0 / (5 : Int32)))]) (st' := [.int ((5 : Int32) * (p0 / (5 : Int32)))]) (w1 := Wd f fl g gl hh v tx) rfl ⟨Nat.le_of_ble_eq_true rfl, Nat.le_of_ble_eq_true rfl⟩ rfl (b_m_lesser_0 X (d) f fl g gl hh v tx 4 ((p0 - (p0 / (5 : Int32)) * (5 : Int32)) + p2) _ ?_)
      refine ⟨fun c9 => ?_, fun c9 => ?_⟩
      · have h10 := h8.1 c9
        refine WP.run hP_205 1 (c' := (61, [none, none, some (.int p2), some (.int (p0 - (p0 / (5 : Int32)) * (5 : Int32))), some (.int (p0 / (5 : Int32)))], [.int (((5 : Int32) * (p0 / (5 : Int32))) + ((p0 - (p0 / (5 : Int32)) * (5 : Int32)) + p2))], Wd f fl g gl hh v tx)) rfl ?_
        exact WP.retI hP_205 rfl rfl h10
      · have h11 := h8.2 c9
        refine WP.run hP_205 1 (c' := (61, [none, none, some (.int p2), some (.int (p0 - (p0 / (5 : Int32)) * (5 : Int32))), some (.int (p0 / (5 : Int32)))], [.int (((5 : Int32) * (p0 / (5 : Int32))) + (4 : Int32))], Wd f fl g gl hh v tx)) rfl ?_
        exact WP.retI hP_205 rfl rfl h11
    · have h12 := h6.2 c7
      refine WP.sw (lo' := 3) rfl (fun c13 => ?_) (fun c13 => ?_)
      · have h14 := h12.1 c13
        refine WP.run hP_205 5 (c' := (68, [none, none, some (.int p2), some (.int (p0 - (p0 / (5 : Int32)) * (5 : Int32))), some (.int (p0 / (5 : Int32)))], [.int ((p0 / (5 : Int32)) - p2), .int 0, .int 5], Wd f fl g gl hh v tx)) rfl ?_
        refine WP.call hP_205 hP_118 (as := [.int 0, .int ((p0 / (5 : Int32)) - p2)]) (pc' := 71) (L' := [none, none, some (.int p2), some (.int (p0 - (p0 / (5 : Int32)) * (5 : Int32))), some (.int (p0 / (5 : Int32)))]) (st' := [.int 5]) (w1 := Wd f fl g gl hh v tx) rfl ⟨Nat.le_of_ble_eq_true rfl, Nat.le_of_ble_eq_true rfl⟩ rfl (b_m_greater_0 X (d) f fl g gl hh v tx 0 ((p0 / (5 : Int32)) - p2) _ ?_)
        refine ⟨fun c15 => ?_, fun c15 => ?_⟩
        · have h16 := h14.1 c15
          refine WP.run hP_205 3 (c' := (74, [none, none, some (.int p2), some (.int (p0 - (p0 / (5 : Int32)) * (5 : Int32))), some (.int (p0 / (5 : Int32)))], [.int (((5 : Int32) * ((p0 / (5 : Int32)) - p2)) + (p0 - (p0 / (5 : Int32)) * (5 : Int32)))], Wd f fl g gl hh v tx)) rfl ?_
          exact WP.retI hP_205 rfl rfl h16
        · have h17 := h14.2 c15
          refine WP.run hP_205 3 (c' := (74, [none, none, some (.int p2), some (.int (p0 - (p0 / (5 : Int32)) * (5 : Int32))), some (.int (p0 / (5 : Int32)))], [.int ((0 : Int32) + (p0 - (p0 / (5 : Int32)) * (5 : Int32)))], Wd f fl g gl hh v tx)) rfl ?_
          exact WP.retI hP_205 rfl rfl h17
      · have h18 := h12.2 c13
        show WP X _ 205 (75, [some (.int p0), some (.int p1), some (.int p2), some (.int (p0 - (p0 / (5 : Int32)) * (5 : Int32))), some (.int (p0 / (5 : Int32)))], [], Wd f fl g gl hh v tx) P
        refine WP.run hP_205 7 (c' := (83, [none, none, some (.int p2), some (.int (p0 - (p0 / (5 : Int32)) * (5 : Int32))), some (.int (p0 / (5 : Int32)))], [.int ((p0 - (p0 / (5 : Int32)) * (5 : Int32)) - p2), .int 0, .int ((5 : Int32) * (p0 / (5 : Int32)))], Wd f fl g gl hh v tx)) rfl ?_
        refine WP.call hP_205 hP_118 (as := [.int 0, .int ((p0 - (p0 / (5 : Int32)) * (5 : Int32)) - p2)]) (pc' := 86) (L' := [none, none, some (.int p2), some (.int (p0 - (p0 / (5 : Int32)) * (5 : Int32))), some (.int (p0 / (5 : Int32)))]) (st' := [.int ((5 : Int32) * (p0 / (5 : Int32)))]) (w1 := Wd f fl g gl hh v tx) rfl ⟨Nat.le_of_ble_eq_true rfl, Nat.le_of_ble_eq_true rfl⟩ rfl (b_m_greater_0 X (d) f fl g gl hh v tx 0 ((p0 - (p0 / (5 : Int32)) * (5 : Int32)) - p2) _ ?_)
        refine ⟨fun c19 => ?_, fun c19 => ?_⟩
        · have h20 := h18.1 c19
          refine WP.run hP_205 1 (c' := (87, [none, none, some (.int p2), some (.int (p0 - (p0 / (5 : Int32)) * (5 : Int32))), some (.int (p0 / (5 : Int32)))], [.int (((5 : Int32) * (p0 / (5 : Int32))) + ((p0 - (p0 / (5 : Int32)) * (5 : Int32)) - p2))], Wd f fl g gl hh v tx)) rfl ?_
          exact WP.retI hP_205 rfl rfl h20
        · have h21 := h18.2 c19
          refine WP.run hP_205 1 (c' := (87, [none, none, some (.int p2), some (.int (p0 - (p0 / (5 : Int32)) * (5 : Int32))), some (.int (p0 / (5 : Int32)))], [.int (((5 : Int32) * (p0 / (5 : Int32))) + (0 : Int32))], Wd f fl g gl hh v tx)) rfl ?_
          exact WP.retI hP_205 rfl rfl h21

set_option maxRecDepth 20000 in
theorem b_m_stateOf_0 (X : mm_X) (d : Nat) (f : Nat → Int32) (fl : Nat → Int64) (g : Nat → Nat → Int32) (gl : Nat → Nat → Int64) (hh : Nat → Nat → Option Nat) (v : Nat → Value) (tx : mm_W) (p0 : Int32) (p1 : Int32) (p2 : Int32)  (P : Option Value → mm_W → Prop)
    (h : P (some (.int (((((4 : Int32) * p0) + p1) * (10 : Int32)) + p2))) (Wd f fl g gl hh v tx)) :
    WP X (d) 206 (0, [some (.int p0), some (.int p1), some (.int p2)], [], Wd f fl g gl hh v tx) P := by
  refine WP.run hP_206 9 (c' := (10, [some (.int p0), some (.int p1), some (.int p2)], [.int (((((4 : Int32) * p0) + p1) * (10 : Int32)) + p2)], Wd f fl g gl hh v tx)) rfl ?_
  exact WP.retI hP_206 rfl rfl h

set_option maxRecDepth 20000 in
theorem b_m_stateBehind_0 (X : mm_X) (d : Nat) (f : Nat → Int32) (fl : Nat → Int64) (g : Nat → Nat → Int32) (gl : Nat → Nat → Int64) (hh : Nat → Nat → Option Nat) (v : Nat → Value) (tx : mm_W) (p0 : Int32) (p1 : Int32) (p2 : Int32)  (P : Option Value → mm_W → Prop)
    (h : WP X (d) 193 (0, [some (.ref 74), some (.int p0), some (.int p2), some (.int ((p1 / (10 : Int32)) / (4 : Int32))), some (.int (p1 - (p1 / (10 : Int32)) * (10 : Int32)))], [], Wd f fl g gl hh v tx) (fun rv w2 => WP X (d + 1) 207 (32, [some (.ref 74), some (.int p0), some (.int p1), some (.int p2), some (.int (p1 - (p1 / (10 : Int32)) * (10 : Int32))), some (.int ((p1 / (10 : Int32)) - ((p1 / (10 : Int32)) / (4 : Int32)) * (4 : Int32))), some (.int ((p1 / (10 : Int32)) / (4 : Int32)))], rv.toList ++ [], w2) P)) :
    WP X (d + 1) 207 (0, [some (.ref 74), some (.int p0), some (.int p1), some (.int p2), none, none, none], [], Wd f fl g gl hh v tx) P := by
  refine WP.run hP_207 9 (c' := (12, [some (.ref 74), some (.int p0), some (.int p1), some (.int p2), some (.int (p1 - (p1 / (10 : Int32)) * (10 : Int32))), none, none], [.int ((p1 / (10 : Int32)) - ((p1 / (10 : Int32)) / (4 : Int32)) * (4 : Int32))], Wd f fl g gl hh v tx)) rfl ?_
  refine WP.run hP_207 6 (c' := (20, [some (.ref 74), some (.int p0), some (.int p1), some (.int p2), some (.int (p1 - (p1 / (10 : Int32)) * (10 : Int32))), some (.int ((p1 / (10 : Int32)) - ((p1 / (10 : Int32)) / (4 : Int32)) * (4 : Int32))), none], [.int ((p1 / (10 : Int32)) / (4 : Int32))], Wd f fl g gl hh v tx)) rfl ?_
  refine WP.run hP_207 6 (c' := (29, [some (.ref 74), some (.int p0), some (.int p1), some (.int p2), some (.int (p1 - (p1 / (10 : Int32)) * (10 : Int32))), some (.int ((p1 / (10 : Int32)) - ((p1 / (10 : Int32)) / (4 : Int32)) * (4 : Int32))), some (.int ((p1 / (10 : Int32)) / (4 : Int32)))], [.int (p1 - (p1 / (10 : Int32)) * (10 : Int32)), .int ((p1 / (10 : Int32)) / (4 : Int32)), .int p2, .int p0, .ref 74], Wd f fl g gl hh v tx)) rfl ?_
  refine WP.call hP_207 hP_193 (as := [.ref 74, .int p0, .int p2, .int ((p1 / (10 : Int32)) / (4 : Int32)), .int (p1 - (p1 / (10 : Int32)) * (10 : Int32))]) (pc' := 32) (L' := [some (.ref 74), some (.int p0), some (.int p1), some (.int p2), some (.int (p1 - (p1 / (10 : Int32)) * (10 : Int32))), some (.int ((p1 / (10 : Int32)) - ((p1 / (10 : Int32)) / (4 : Int32)) * (4 : Int32))), some (.int ((p1 / (10 : Int32)) / (4 : Int32)))]) (st' := []) (w1 := Wd f fl g gl hh v tx) rfl ⟨Nat.le_of_ble_eq_true rfl, Nat.le_of_ble_eq_true rfl⟩ rfl ?_
  exact h

set_option maxRecDepth 20000 in
theorem b_m_stateBehind_32 (X : mm_X) (d : Nat) (f : Nat → Int32) (fl : Nat → Int64) (g : Nat → Nat → Int32) (gl : Nat → Nat → Int64) (hh : Nat → Nat → Option Nat) (v : Nat → Value) (tx : mm_W) (l1 : Int32) (l2 : Int32) (l3 : Int32) (l4 : Int32) (l5 : Int32) (l6 : Int32) (s0 : Int32)  (P : Option Value → mm_W → Prop)
    (h : ((s0 = 0) → (((l3 = 0) → WP X (d) 192 (0, [some (.ref 74), some (.int l1), some (.int l6), some (.int l4)], [], Wd f fl g gl hh v tx) (fun rv w2 => WP X (d + 1) 207 (85, [some (.ref 74), some (.int l1), none, none, some (.int l4), some (.int l5), some (.int l6)], rv.toList ++ [.int l5, .int l6], w2) P)) ∧
      ((¬ l3 = 0) → (((l3 = 1) → P (some (.int (((((4 : Int32) * l6) + ((l5 + (3 : Int32)) - ((l5 + (3 : Int32)) / (4 : Int32)) * (4 : Int32))) * (10 : Int32)) + l4))) (Wd f fl g gl hh v tx)) ∧
        ((¬ l3 = 1) → (((l3 = 2) → P (some (.int (((((4 : Int32) * l6) + ((l5 + (1 : Int32)) - ((l5 + (1 : Int32)) / (4 : Int32)) * (4 : Int32))) * (10 : Int32)) + l4))) (Wd f fl g gl hh v tx)) ∧
          ((¬ l3 = 2) → (((l3 = 3) → P (some (.int (((((4 : Int32) * l6) + ((l5 + (2 : Int32)) - ((l5 + (2 : Int32)) / (4 : Int32)) * (4 : Int32))) * (10 : Int32)) + l4))) (Wd f fl g gl hh v tx)) ∧
            ((¬ l3 = 3) → (((l3 = 4) → ((((0 : Int32) ≤ (l4 - (1 : Int32))) → P (some (.int (((((4 : Int32) * l6) + l5) * (10 : Int32)) + (l4 - (1 : Int32))))) (Wd f fl g gl hh v tx)) ∧
                ((¬ ((0 : Int32) ≤ (l4 - (1 : Int32)))) → P (some (.int (((((4 : Int32) * l6) + l5) * (10 : Int32)) + (0 : Int32)))) (Wd f fl g gl hh v tx)))) ∧
              ((¬ l3 = 4) → P (some (.int l2)) (Wd f fl g gl hh v tx)))))))))))) ∧
    ((¬ s0 = 0) → P (some (.int l2)) (Wd f fl g gl hh v tx))) :
    WP X (d + 1) 207 (32, [some (.ref 74), some (.int l1), some (.int l2), some (.int l3), some (.int l4), some (.int l5), some (.int l6)], [.int s0], Wd f fl g gl hh v tx) P := by
  refine WP.br hP_207 (q := s0 = 0) (t := 37) (f := 35) (L := [some (.ref 74), some (.int l1), some (.int l2), some (.int l3), some (.int l4), some (.int l5), some (.int l6)]) (st := []) (w := Wd f fl g gl hh v tx) rfl (fun c1 => ?_) (fun c1 => ?_)
  · have h2 := h.1 c1
    refine WP.run hP_207 1 (c' := (38, [some (.ref 74), some (.int l1), some (.int l2), some (.int l3), some (.int l4), some (.int l5), some (.int l6)], [.int l3], Wd f fl g gl hh v tx)) rfl ?_
    refine WP.run hP_207 1 (c' := (mm_sw l3 0 [72, 96, 110, 124, 138] 154, [some (.ref 74), some (.int l1), some (.int l2), some (.int l3), some (.int l4), some (.int l5), some (.int l6)], [], Wd f fl g gl hh v tx)) rfl ?_
    refine WP.sw (lo' := 1) rfl (fun c3 => ?_) (fun c3 => ?_)
    · have h4 := h2.1 c3
      refine WP.run hP_207 6 (c' := (82, [some (.ref 74), some (.int l1), none, none, some (.int l4), some (.int l5), some (.int l6)], [.int l4, .int l6, .int l1, .ref 74, .int l5, .int l6], Wd f fl g gl hh v tx)) rfl ?_
      refine WP.call hP_207 hP_192 (as := [.ref 74, .int l1, .int l6, .int l4]) (pc' := 85) (L' := [some (.ref 74), some (.int l1), none, none, some (.int l4), some (.int l5), some (.int l6)]) (st' := [.int l5, .int l6]) (w1 := Wd f fl g gl hh v tx) rfl ⟨Nat.le_of_ble_eq_true rfl, Nat.le_of_ble_eq_true rfl⟩ rfl ?_
      exact h4
    · have h5 := h2.2 c3
      refine WP.sw (lo' := 2) rfl (fun c6 => ?_) (fun c6 => ?_)
      · have h7 := h5.1 c6
        refine WP.run hP_207 7 (c' := (106, [none, none, none, none, some (.int l4), some (.int l5), some (.int l6)], [.int l4, .int ((l5 + (3 : Int32)) - ((l5 + (3 : Int32)) / (4 : Int32)) * (4 : Int32)), .int l6], Wd f fl g gl hh v tx)) rfl ?_
        refine WP.call hP_207 hP_206 (as := [.int l6, .int ((l5 + (3 : Int32)) - ((l5 + (3 : Int32)) / (4 : Int32)) * (4 : Int32)), .int l4]) (pc' := 109) (L' := [none, none, none, none, some (.int l4), some (.int l5), some (.int l6)]) (st' := []) (w1 := Wd f fl g gl hh v tx) rfl ⟨Nat.le_of_ble_eq_true rfl, Nat.le_of_ble_eq_true rfl⟩ rfl (b_m_stateOf_0 X (d) f fl g gl hh v tx l6 ((l5 + (3 : Int32)) - ((l5 + (3 : Int32)) / (4 : Int32)) * (4 : Int32)) l4 _ ?_)
        exact WP.retI hP_207 rfl rfl h7
      · have h8 := h5.2 c6
        refine WP.sw (lo' := 3) rfl (fun c9 => ?_) (fun c9 => ?_)
        · have h10 := h8.1 c9
          refine WP.run hP_207 7 (c' := (120, [none, none, none, none, some (.int l4), some (.int l5), some (.int l6)], [.int l4, .int ((l5 + (1 : Int32)) - ((l5 + (1 : Int32)) / (4 : Int32)) * (4 : Int32)), .int l6], Wd f fl g gl hh v tx)) rfl ?_
          refine WP.call hP_207 hP_206 (as := [.int l6, .int ((l5 + (1 : Int32)) - ((l5 + (1 : Int32)) / (4 : Int32)) * (4 : Int32)), .int l4]) (pc' := 123) (L' := [none, none, none, none, some (.int l4), some (.int l5), some (.int l6)]) (st' := []) (w1 := Wd f fl g gl hh v tx) rfl ⟨Nat.le_of_ble_eq_true rfl, Nat.le_of_ble_eq_true rfl⟩ rfl (b_m_stateOf_0 X (d) f fl g gl hh v tx l6 ((l5 + (1 : Int32)) - ((l5 + (1 : Int32)) / (4 : Int32)) * (4 : Int32)) l4 _ ?_)
          exact WP.retI hP_207 rfl rfl h10
        · have h11 := h8.2 c9
          refine WP.sw (lo' := 4) rfl (fun c12 => ?_) (fun c12 => ?_)
          · have h13 := h11.1 c12
            refine WP.run hP_207 7 (c' := (134, [none, none, none, none, some (.int l4), some (.int l5), some (.int l6)], [.int l4, .int ((l5 + (2 : Int32)) - ((l5 + (2 : Int32)) / (4 : Int32)) * (4 : Int32)), .int l6], Wd f fl g gl hh v tx)) rfl ?_
            refine WP.call hP_207 hP_206 (as := [.int l6, .int ((l5 + (2 : Int32)) - ((l5 + (2 : Int32)) / (4 : Int32)) * (4 : Int32)), .int l4]) (pc' := 137) (L' := [none, none, none, none, some (.int l4), some (.int l5), some (.int l6)]) (st' := []) (w1 := Wd f fl g gl hh v tx) rfl ⟨Nat.le_of_ble_eq_true rfl, Nat.le_of_ble_eq_true rfl⟩ rfl (b_m_stateOf_0 X (d) f fl g gl hh v tx l6 ((l5 + (2 : Int32)) - ((l5 + (2 : Int32)) / (4 : Int32)) * (4 : Int32)) l4 _ ?_)
            exact WP.retI hP_207 rfl rfl h13
          · have h14 := h11.2 c12
            refine WP.sw (lo' := 5) rfl (fun c15 => ?_) (fun c15 => ?_)
            · have h16 := h14.1 c15
              refine WP.run hP_207 6 (c' := (147, [none, none, none, none, some (.int l4), some (.int l5), some (.int l6)], [.int (l4 - (1 : Int32)), .int 0, .int l5, .int l6], Wd f fl g gl hh v tx)) rfl ?_
              refine WP.call hP_207 hP_118 (as := [.int 0, .int (l4 - (1 : Int32))]) (pc' := 150) (L' := [none, none, none, none, some (.int l4), some (.int l5), some (.int l6)]) (st' := [.int l5, .int l6]) (w1 := Wd f fl g gl hh v tx) rfl ⟨Nat.le_of_ble_eq_true rfl, Nat.le_of_ble_eq_true rfl⟩ rfl (b_m_greater_0 X (d) f fl g gl hh v tx 0 (l4 - (1 : Int32)) _ ?_)
              refine ⟨fun c17 => ?_, fun c17 => ?_⟩
              · have h18 := h16.1 c17
                refine WP.call hP_207 hP_206 (as := [.int l6, .int l5, .int (l4 - (1 : Int32))]) (pc' := 153) (L' := [none, none, none, none, some (.int l4), some (.int l5), some (.int l6)]) (st' := []) (w1 := Wd f fl g gl hh v tx) rfl ⟨Nat.le_of_ble_eq_true rfl, Nat.le_of_ble_eq_true rfl⟩ rfl (b_m_stateOf_0 X (d) f fl g gl hh v tx l6 l5 (l4 - (1 : Int32)) _ ?_)
                exact WP.retI hP_207 rfl rfl h18
              · have h19 := h16.2 c17
                refine WP.call hP_207 hP_206 (as := [.int l6, .int l5, .int 0]) (pc' := 153) (L' := [none, none, none, none, some (.int l4), some (.int l5), some (.int l6)]) (st' := []) (w1 := Wd f fl g gl hh v tx) rfl ⟨Nat.le_of_ble_eq_true rfl, Nat.le_of_ble_eq_true rfl⟩ rfl (b_m_stateOf_0 X (d) f fl g gl hh v tx l6 l5 0 _ ?_)
                exact WP.retI hP_207 rfl rfl h19
            · have h20 := h14.2 c15
              show WP X _ 207 (154, [some (.ref 74), some (.int l1), some (.int l2), some (.int l3), some (.int l4), some (.int l5), some (.int l6)], [], Wd f fl g gl hh v tx) P
              refine WP.run hP_207 1 (c' := (155, [none, none, some (.int l2), none, none, none, none], [.int l2], Wd f fl g gl hh v tx)) rfl ?_
              exact WP.retI hP_207 rfl rfl h20
  · have h21 := h.2 c1
    refine WP.run hP_207 1 (c' := (36, [some (.ref 74), some (.int l1), some (.int l2), some (.int l3), some (.int l4), some (.int l5), some (.int l6)], [.int l2], Wd f fl g gl hh v tx)) rfl ?_
    exact WP.retI hP_207 rfl rfl h21

set_option maxRecDepth 20000 in
theorem b_m_stateBehind_85 (X : mm_X) (d : Nat) (f : Nat → Int32) (fl : Nat → Int64) (g : Nat → Nat → Int32) (gl : Nat → Nat → Int64) (hh : Nat → Nat → Option Nat) (v : Nat → Value) (tx : mm_W) (l1 : Int32) (l4 : Int32) (l5 : Int32) (l6 : Int32) (s0 : Int32) (s1 : Int32) (s2 : Int32)  (P : Option Value → mm_W → Prop)
    (h : WP X (d) 205 (0, [some (.int s2), some (.int s1), some (.int s0), none, none], [], Wd f fl g gl hh v tx) (fun rv w2 => WP X (d + 1) 207 (88, [some (.ref 74), some (.int l1), none, none, some (.int l4), some (.int l5), some (.int l6)], rv.toList ++ [], w2) P)) :
    WP X (d + 1) 207 (85, [some (.ref 74), some (.int l1), none, none, some (.int l4), some (.int l5), some (.int l6)], [.int s0, .int s1, .int s2], Wd f fl g gl hh v tx) P := by
  refine WP.call hP_207 hP_205 (as := [.int s2, .int s1, .int s0]) (pc' := 88) (L' := [some (.ref 74), some (.int l1), none, none, some (.int l4), some (.int l5), some (.int l6)]) (st' := []) (w1 := Wd f fl g gl hh v tx) rfl ⟨Nat.le_of_ble_eq_true rfl, Nat.le_of_ble_eq_true rfl⟩ rfl ?_
  exact h

set_option maxRecDepth 20000 in
theorem b_m_stateBehind_88 (X : mm_X) (d : Nat) (f : Nat → Int32) (fl : Nat → Int64) (g : Nat → Nat → Int32) (gl : Nat → Nat → Int64) (hh : Nat → Nat → Option Nat) (v : Nat → Value) (tx : mm_W) (l1 : Int32) (l4 : Int32) (l5 : Int32) (l6 : Int32) (s0 : Int32)  (P : Option Value → mm_W → Prop)
    (h : P (some (.int (((((4 : Int32) * s0) + l5) * (10 : Int32)) + l4))) (Wd f fl g gl hh v tx)) :
    WP X (d + 1) 207 (88, [some (.ref 74), some (.int l1), none, none, some (.int l4), some (.int l5), some (.int l6)], [.int s0], Wd f fl g gl hh v tx) P := by
  refine WP.run hP_207 2 (c' := (92, [some (.ref 74), some (.int l1), none, none, some (.int l4), some (.int l5), some (.int l6)], [.int l4, .int l5, .int s0], Wd f fl g gl hh v tx)) rfl ?_
  refine WP.call hP_207 hP_206 (as := [.int s0, .int l5, .int l4]) (pc' := 95) (L' := [some (.ref 74), some (.int l1), none, none, some (.int l4), some (.int l5), some (.int l6)]) (st' := []) (w1 := Wd f fl g gl hh v tx) rfl ⟨Nat.le_of_ble_eq_true rfl, Nat.le_of_ble_eq_true rfl⟩ rfl (b_m_stateOf_0 X (d) f fl g gl hh v tx s0 l5 l4 _ ?_)
  exact WP.retI hP_207 rfl rfl h

set_option maxRecDepth 20000 in
theorem b_m_stateNow_0 (X : mm_X) (d : Nat) (f : Nat → Int32) (fl : Nat → Int64) (g : Nat → Nat → Int32) (gl : Nat → Nat → Int64) (hh : Nat → Nat → Option Nat) (v : Nat → Value) (tx : mm_W) (p0 : Int32)  (P : Option Value → mm_W → Prop)
    (h : (¬ (((13 : Int32) + p0) < 0 ∨ 5667 ≤ ((13 : Int32) + p0).toNatClampNeg)) ∧ ((¬ (((16 : Int32) + p0) < 0 ∨ 5667 ≤ ((16 : Int32) + p0).toNatClampNeg)) ∧ ((¬ (((19 : Int32) + p0) < 0 ∨ 5667 ≤ ((19 : Int32) + p0).toNatClampNeg)) ∧ P (some (.int (((((4 : Int32) * ((g 76) ((13 : Int32) + p0).toNatClampNeg)) + ((g 76) ((16 : Int32) + p0).toNatClampNeg)) * (10 : Int32)) + ((g 76) ((19 : Int32) + p0).toNatClampNeg)))) (Wd f fl g gl hh v tx)))) :
    WP X (d + 1) 208 (0, [some (.ref 74), some (.int p0)], [], Wd f fl g gl hh v tx) P := by
  refine WP.run hP_208 5 (c' := (8, [some (.ref 74), some (.int p0)], [.int ((13 : Int32) + p0), .ref 76], Wd f fl g gl hh v tx)) rfl ?_
  refine WP.of (fun _ _ => Ex.iald hP_208 rfl (Wa_76 _ _ _ _ _ _ _) h.1) ?_
  have h1 := h.2
  refine WP.run hP_208 5 (c' := (17, [some (.ref 74), some (.int p0)], [.int ((16 : Int32) + p0), .ref 76, .int ((g 76) ((13 : Int32) + p0).toNatClampNeg)], Wd f fl g gl hh v tx)) rfl ?_
  refine WP.of (fun _ _ => Ex.iald hP_208 rfl (Wa_76 _ _ _ _ _ _ _) h1.1) ?_
  have h2 := h1.2
  refine WP.run hP_208 5 (c' := (26, [some (.ref 74), some (.int p0)], [.int ((19 : Int32) + p0), .ref 76, .int ((g 76) ((16 : Int32) + p0).toNatClampNeg), .int ((g 76) ((13 : Int32) + p0).toNatClampNeg)], Wd f fl g gl hh v tx)) rfl ?_
  refine WP.of (fun _ _ => Ex.iald hP_208 rfl (Wa_76 _ _ _ _ _ _ _) h2.1) ?_
  have h3 := h2.2
  refine WP.call hP_208 hP_206 (as := [.int ((g 76) ((13 : Int32) + p0).toNatClampNeg), .int ((g 76) ((16 : Int32) + p0).toNatClampNeg), .int ((g 76) ((19 : Int32) + p0).toNatClampNeg)]) (pc' := 30) (L' := [some (.ref 74), some (.int p0)]) (st' := []) (w1 := Wd f fl g gl hh v tx) rfl ⟨Nat.le_of_ble_eq_true rfl, Nat.le_of_ble_eq_true rfl⟩ rfl (b_m_stateOf_0 X (d) f fl g gl hh v tx ((g 76) ((13 : Int32) + p0).toNatClampNeg) ((g 76) ((16 : Int32) + p0).toNatClampNeg) ((g 76) ((19 : Int32) + p0).toNatClampNeg) _ ?_)
  exact WP.retI hP_208 rfl rfl h3

set_option maxRecDepth 20000 in
theorem b_m_stateThen_0 (X : mm_X) (d : Nat) (f : Nat → Int32) (fl : Nat → Int64) (g : Nat → Nat → Int32) (gl : Nat → Nat → Int64) (hh : Nat → Nat → Option Nat) (v : Nat → Value) (tx : mm_W) (p0 : Int32)  (P : Option Value → mm_W → Prop)
    (h : WP X (d) 201 (0, [some (.ref 74), some (.int p0), none], [], Wd f fl g gl hh v tx) (fun rv w2 => WP X (d + 1) 209 (5, [some (.ref 74), some (.int p0), none, none, none], rv.toList ++ [], w2) P)) :
    WP X (d + 1) 209 (0, [some (.ref 74), some (.int p0), none, none, none], [], Wd f fl g gl hh v tx) P := by
  refine WP.run hP_209 2 (c' := (2, [some (.ref 74), some (.int p0), none, none, none], [.int p0, .ref 74], Wd f fl g gl hh v tx)) rfl ?_
  refine WP.call hP_209 hP_201 (as := [.ref 74, .int p0]) (pc' := 5) (L' := [some (.ref 74), some (.int p0), none, none, none]) (st' := []) (w1 := Wd f fl g gl hh v tx) rfl ⟨Nat.le_of_ble_eq_true rfl, Nat.le_of_ble_eq_true rfl⟩ rfl ?_
  exact h

set_option maxRecDepth 20000 in
theorem b_m_stateThen_5 (X : mm_X) (d : Nat) (f : Nat → Int32) (fl : Nat → Int64) (g : Nat → Nat → Int32) (gl : Nat → Nat → Int64) (hh : Nat → Nat → Option Nat) (v : Nat → Value) (tx : mm_W) (l1 : Int32) (s0 : Int32)  (P : Option Value → mm_W → Prop)
    (h : ((¬ s0 = 0) → WP X (d) 209 (14, [some (.ref 74), some (.int l1), some (.int 0), some (.int 0), none], [], Wd f fl g gl hh v tx) P) ∧
    ((s0 = 0) → P (some (.int (-1))) (Wd f fl g gl hh v tx))) :
    WP X (d) 209 (5, [some (.ref 74), some (.int l1), none, none, none], [.int s0], Wd f fl g gl hh v tx) P := by
  refine WP.br hP_209 (q := ¬ s0 = 0) (t := 10) (f := 8) (L := [some (.ref 74), some (.int l1), none, none, none]) (st := []) (w := Wd f fl g gl hh v tx) rfl (fun c1 => ?_) (fun c1 => ?_)
  · have h2 := h.1 c1
    refine WP.run hP_209 1 (c' := (11, [some (.ref 74), some (.int l1), none, none, none], [.int 0], Wd f fl g gl hh v tx)) rfl ?_
    refine WP.run hP_209 2 (c' := (13, [some (.ref 74), some (.int l1), some (.int 0), none, none], [.int 0], Wd f fl g gl hh v tx)) rfl ?_
    refine WP.run hP_209 1 (c' := (14, [some (.ref 74), some (.int l1), some (.int 0), some (.int 0), none], [], Wd f fl g gl hh v tx)) rfl ?_
    exact h2
  · have h3 := h.2 (Classical.not_not.mp c1)
    refine WP.run hP_209 1 (c' := (9, [some (.ref 74), some (.int l1), none, none, none], [.int (-1)], Wd f fl g gl hh v tx)) rfl ?_
    exact WP.retI hP_209 rfl rfl h3

set_option maxRecDepth 20000 in
theorem b_m_stateThen_14 (X : mm_X) (d : Nat) (f : Nat → Int32) (fl : Nat → Int64) (g : Nat → Nat → Int32) (gl : Nat → Nat → Int64) (hh : Nat → Nat → Option Nat) (v : Nat → Value) (tx : mm_W) (l1 : Int32) (l2 : Int32) (l3 : Int32)  (P : Option Value → mm_W → Prop)
    (h : ((((g 76) 12) ≤ l3) → ((¬ (((13 : Int32) + l1) < 0 ∨ 5667 ≤ ((13 : Int32) + l1).toNatClampNeg)) ∧ ((¬ (((16 : Int32) + l1) < 0 ∨ 5667 ≤ ((16 : Int32) + l1).toNatClampNeg)) ∧ ((¬ (((19 : Int32) + l1) < 0 ∨ 5667 ≤ ((19 : Int32) + l1).toNatClampNeg)) ∧ WP X (d + 2) 209 (68, [some (.ref 74), some (.int l1), some (.int l2), some (.int (((((4 : Int32) * ((g 76) ((13 : Int32) + l1).toNatClampNeg)) + ((g 76) ((16 : Int32) + l1).toNatClampNeg)) * (10 : Int32)) + ((g 76) ((19 : Int32) + l1).toNatClampNeg))), some (.int 0)], [], Wd f fl g gl hh v tx) P)))) ∧
    ((¬ (((g 76) 12) ≤ l3)) → WP X (d + 1) 198 (0, [some (.ref 74), some (.int l3), some (.int 0), none], [], Wd f fl g gl hh v tx) (fun rv w2 => WP X (d + 2) 209 (33, [some (.ref 74), some (.int l1), some (.int l2), some (.int l3), none], rv.toList ++ [.int l2, .ref 90], w2) P))) :
    WP X (d + 2) 209 (14, [some (.ref 74), some (.int l1), some (.int l2), some (.int l3), none], [], Wd f fl g gl hh v tx) P := by
  refine WP.run hP_209 2 (c' := (16, [some (.ref 74), some (.int l1), some (.int l2), some (.int l3), none], [.ref 74, .int l3], Wd f fl g gl hh v tx)) rfl ?_
  refine WP.call hP_209 hP_130 (as := [.ref 74]) (pc' := 19) (L' := [some (.ref 74), some (.int l1), some (.int l2), some (.int l3), none]) (st' := [.int l3]) (w1 := Wd f fl g gl hh v tx) rfl ⟨Nat.le_of_ble_eq_true rfl, Nat.le_of_ble_eq_true rfl⟩ rfl (b_m_size_0 X (d + 1) f fl g gl hh v tx  _ ?_)
  refine WP.br hP_209 (q := ((g 76) 12) ≤ l3) (t := 59) (f := 22) (L := [some (.ref 74), some (.int l1), some (.int l2), some (.int l3), none]) (st := []) (w := Wd f fl g gl hh v tx) rfl (fun c1 => ?_) (fun c1 => ?_)
  · have h2 := h.1 c1
    refine WP.run hP_209 2 (c' := (61, [some (.ref 74), some (.int l1), some (.int l2), none, none], [.int l1, .ref 74], Wd f fl g gl hh v tx)) rfl ?_
    refine WP.call hP_209 hP_208 (as := [.ref 74, .int l1]) (pc' := 64) (L' := [some (.ref 74), some (.int l1), some (.int l2), none, none]) (st' := []) (w1 := Wd f fl g gl hh v tx) rfl ⟨Nat.le_of_ble_eq_true rfl, Nat.le_of_ble_eq_true rfl⟩ rfl (b_m_stateNow_0 X (d) f fl g gl hh v tx l1 _ ?_)
    refine ⟨h2.1, ?_⟩
    have h3 := h2.2
    refine ⟨h3.1, ?_⟩
    have h4 := h3.2
    refine ⟨h4.1, ?_⟩
    have h5 := h4.2
    refine WP.run hP_209 2 (c' := (66, [some (.ref 74), some (.int l1), some (.int l2), some (.int (((((4 : Int32) * ((g 76) ((13 : Int32) + l1).toNatClampNeg)) + ((g 76) ((16 : Int32) + l1).toNatClampNeg)) * (10 : Int32)) + ((g 76) ((19 : Int32) + l1).toNatClampNeg))), none], [.int 0], Wd f fl g gl hh v tx)) rfl ?_
    refine WP.run hP_209 1 (c' := (68, [some (.ref 74), some (.int l1), some (.int l2), some (.int (((((4 : Int32) * ((g 76) ((13 : Int32) + l1).toNatClampNeg)) + ((g 76) ((16 : Int32) + l1).toNatClampNeg)) * (10 : Int32)) + ((g 76) ((19 : Int32) + l1).toNatClampNeg))), some (.int 0)], [], Wd f fl g gl hh v tx)) rfl ?_
    exact h5
  · have h6 := h.2 c1
    refine WP.run hP_209 6 (c' := (30, [some (.ref 74), some (.int l1), some (.int l2), some (.int l3), none], [.int 0, .int l3, .ref 74, .int l2, .ref 90], Wd f fl g gl hh v tx)) rfl ?_
    refine WP.call hP_209 hP_198 (as := [.ref 74, .int l3, .int 0]) (pc' := 33) (L' := [some (.ref 74), some (.int l1), some (.int l2), some (.int l3), none]) (st' := [.int l2, .ref 90]) (w1 := Wd f fl g gl hh v tx) rfl ⟨Nat.le_of_ble_eq_true rfl, Nat.le_of_ble_eq_true rfl⟩ rfl ?_
    exact h6

set_option maxRecDepth 20000 in
theorem b_m_stateThen_68 (X : mm_X) (d : Nat) (f : Nat → Int32) (fl : Nat → Int64) (g : Nat → Nat → Int32) (gl : Nat → Nat → Int64) (hh : Nat → Nat → Option Nat) (v : Nat → Value) (tx : mm_W) (l1 : Int32) (l2 : Int32) (l3 : Int32) (l4 : Int32)  (P : Option Value → mm_W → Prop)
    (h : ((l2 ≤ l4) → P (some (.int l3)) (Wd f fl g gl hh v tx)) ∧
    ((¬ (l2 ≤ l4)) → ((¬ (l4 < 0 ∨ 12 ≤ l4.toNatClampNeg)) ∧ ((¬ (((39 : Int32) + ((g 90) l4.toNatClampNeg)) < 0 ∨ 5667 ≤ ((39 : Int32) + ((g 90) l4.toNatClampNeg)).toNatClampNeg)) ∧ WP X (d) 207 (0, [some (.ref 74), some (.int l1), some (.int l3), some (.int ((g 76) ((39 : Int32) + ((g 90) l4.toNatClampNeg)).toNatClampNeg)), none, none, none], [], Wd f fl g gl hh v tx) (fun rv w2 => WP X (d + 1) 209 (95, [some (.ref 74), some (.int l1), some (.int l2), some (.int l3), some (.int l4)], rv.toList ++ [], w2) P))))) :
    WP X (d + 1) 209 (68, [some (.ref 74), some (.int l1), some (.int l2), some (.int l3), some (.int l4)], [], Wd f fl g gl hh v tx) P := by
  refine WP.run hP_209 2 (c' := (71, [some (.ref 74), some (.int l1), some (.int l2), some (.int l3), some (.int l4)], [.int l2, .int l4], Wd f fl g gl hh v tx)) rfl ?_
  refine WP.br hP_209 (q := l2 ≤ l4) (t := 102) (f := 74) (L := [some (.ref 74), some (.int l1), some (.int l2), some (.int l3), some (.int l4)]) (st := []) (w := Wd f fl g gl hh v tx) rfl (fun c1 => ?_) (fun c1 => ?_)
  · have h2 := h.1 c1
    refine WP.run hP_209 1 (c' := (103, [none, none, none, some (.int l3), none], [.int l3], Wd f fl g gl hh v tx)) rfl ?_
    exact WP.retI hP_209 rfl rfl h2
  · have h3 := h.2 c1
    refine WP.run hP_209 9 (c' := (89, [some (.ref 74), some (.int l1), some (.int l2), some (.int l3), some (.int l4)], [.int l4, .ref 90, .int 39, .ref 76, .int l3, .int l1, .ref 74], Wd f fl g gl hh v tx)) rfl ?_
    refine WP.of (fun _ _ => Ex.iald hP_209 rfl (Wa_90 _ _ _ _ _ _ _) h3.1) ?_
    have h4 := h3.2
    refine WP.run hP_209 1 (c' := (91, [some (.ref 74), some (.int l1), some (.int l2), some (.int l3), some (.int l4)], [.int ((39 : Int32) + ((g 90) l4.toNatClampNeg)), .ref 76, .int l3, .int l1, .ref 74], Wd f fl g gl hh v tx)) rfl ?_
    refine WP.of (fun _ _ => Ex.iald hP_209 rfl (Wa_76 _ _ _ _ _ _ _) h4.1) ?_
    have h5 := h4.2
    refine WP.call hP_209 hP_207 (as := [.ref 74, .int l1, .int l3, .int ((g 76) ((39 : Int32) + ((g 90) l4.toNatClampNeg)).toNatClampNeg)]) (pc' := 95) (L' := [some (.ref 74), some (.int l1), some (.int l2), some (.int l3), some (.int l4)]) (st' := []) (w1 := Wd f fl g gl hh v tx) rfl ⟨Nat.le_of_ble_eq_true rfl, Nat.le_of_ble_eq_true rfl⟩ rfl ?_
    exact h5

set_option maxRecDepth 20000 in
theorem b_m_stateThen_33 (X : mm_X) (d : Nat) (f : Nat → Int32) (fl : Nat → Int64) (g : Nat → Nat → Int32) (gl : Nat → Nat → Int64) (hh : Nat → Nat → Option Nat) (v : Nat → Value) (tx : mm_W) (l1 : Int32) (l2 : Int32) (l3 : Int32) (s0 : Int32) (s1 : Int32)  (P : Option Value → mm_W → Prop)
    (h : (¬ (s1 < 0 ∨ 12 ≤ s1.toNatClampNeg)) ∧ ((¬ (((l2 + (1 : Int32)) - (1 : Int32)) < 0 ∨ 12 ≤ ((l2 + (1 : Int32)) - (1 : Int32)).toNatClampNeg)) ∧ ((¬ (((31 : Int32) + ((upd (g 90) (s1.toNatClampNeg) s0) ((l2 + (1 : Int32)) - (1 : Int32)).toNatClampNeg)) < 0 ∨ 5667 ≤ ((31 : Int32) + ((upd (g 90) (s1.toNatClampNeg) s0) ((l2 + (1 : Int32)) - (1 : Int32)).toNatClampNeg)).toNatClampNeg)) ∧ WP X (d) 209 (14, [some (.ref 74), some (.int l1), some (.int (l2 + (1 : Int32))), some (.int (l3 + ((g 76) ((31 : Int32) + ((upd (g 90) (s1.toNatClampNeg) s0) ((l2 + (1 : Int32)) - (1 : Int32)).toNatClampNeg)).toNatClampNeg))), none], [], Wd f fl (va_up g 90 (upd (g 90) (s1.toNatClampNeg) s0)) gl hh v tx) P))) :
    WP X (d) 209 (33, [some (.ref 74), some (.int l1), some (.int l2), some (.int l3), none], [.int s0, .int s1, .ref 90], Wd f fl g gl hh v tx) P := by
  refine WP.of (fun _ _ => Ex.iast hP_209 (w2 := Wd f fl (va_up g 90 (upd (g 90) (s1.toNatClampNeg) s0)) gl hh v tx) rfl (Wa_90 _ _ _ _ _ _ _) h.1 (Ws_90 _ _ _ _ _ _ _ _)) ?_
  have h1 := h.2
  refine WP.run hP_209 10 (c' := (51, [some (.ref 74), some (.int l1), some (.int (l2 + (1 : Int32))), some (.int l3), none], [.int ((l2 + (1 : Int32)) - (1 : Int32)), .ref 90, .int 31, .ref 76, .int l3], Wd f fl (va_up g 90 (upd (g 90) (s1.toNatClampNeg) s0)) gl hh v tx)) rfl ?_
  refine WP.of (fun _ _ => Ex.iald hP_209 rfl (Wa_90 _ _ _ _ _ _ _) h1.1) ?_
  have h2 := h1.2
  refine WP.run hP_209 1 (c' := (53, [some (.ref 74), some (.int l1), some (.int (l2 + (1 : Int32))), some (.int l3), none], [.int ((31 : Int32) + ((upd (g 90) (s1.toNatClampNeg) s0) ((l2 + (1 : Int32)) - (1 : Int32)).toNatClampNeg)), .ref 76, .int l3], Wd f fl (va_up g 90 (upd (g 90) (s1.toNatClampNeg) s0)) gl hh v tx)) rfl ?_
  refine WP.of (fun _ _ => Ex.iald hP_209 rfl (Wa_76 _ _ _ _ _ _ _) h2.1) ?_
  have h3 := h2.2
  refine WP.run hP_209 3 (c' := (14, [some (.ref 74), some (.int l1), some (.int (l2 + (1 : Int32))), some (.int (l3 + ((g 76) ((31 : Int32) + ((upd (g 90) (s1.toNatClampNeg) s0) ((l2 + (1 : Int32)) - (1 : Int32)).toNatClampNeg)).toNatClampNeg))), none], [], Wd f fl (va_up g 90 (upd (g 90) (s1.toNatClampNeg) s0)) gl hh v tx)) rfl ?_
  exact h3

set_option maxRecDepth 20000 in
theorem b_m_stateThen_95 (X : mm_X) (d : Nat) (f : Nat → Int32) (fl : Nat → Int64) (g : Nat → Nat → Int32) (gl : Nat → Nat → Int64) (hh : Nat → Nat → Option Nat) (v : Nat → Value) (tx : mm_W) (l1 : Int32) (l2 : Int32) (l3 : Int32) (l4 : Int32) (s0 : Int32)  (P : Option Value → mm_W → Prop)
    (h : WP X (d) 209 (68, [some (.ref 74), some (.int l1), some (.int l2), some (.int s0), some (.int (l4 + (1 : Int32)))], [], Wd f fl g gl hh v tx) P) :
    WP X (d) 209 (95, [some (.ref 74), some (.int l1), some (.int l2), some (.int l3), some (.int l4)], [.int s0], Wd f fl g gl hh v tx) P := by
  refine WP.run hP_209 1 (c' := (96, [some (.ref 74), some (.int l1), some (.int l2), some (.int s0), some (.int l4)], [], Wd f fl g gl hh v tx)) rfl ?_
  refine WP.run hP_209 2 (c' := (68, [some (.ref 74), some (.int l1), some (.int l2), some (.int s0), some (.int (l4 + (1 : Int32)))], [], Wd f fl g gl hh v tx)) rfl ?_
  exact h

set_option maxRecDepth 20000 in
theorem b_m_movesTo_0 (X : mm_X) (d : Nat) (f : Nat → Int32) (fl : Nat → Int64) (g : Nat → Nat → Int32) (gl : Nat → Nat → Int64) (hh : Nat → Nat → Option Nat) (v : Nat → Value) (tx : mm_W) (p0 : Int32) (p1 : Int32)  (P : Option Value → mm_W → Prop)
    (h : (¬ (((13 : Int32) + p0) < 0 ∨ 5667 ≤ ((13 : Int32) + p0).toNatClampNeg)) ∧ ((¬ (((16 : Int32) + p0) < 0 ∨ 5667 ≤ ((16 : Int32) + p0).toNatClampNeg)) ∧ ((¬ (((19 : Int32) + p0) < 0 ∨ 5667 ≤ ((19 : Int32) + p0).toNatClampNeg)) ∧ P none (Wd f fl (va_up (va_up (va_up g 76 (upd (g 76) (((13 : Int32) + p0).toNatClampNeg) ((p1 / (10 : Int32)) / (4 : Int32)))) 76 (upd (upd (g 76) (((13 : Int32) + p0).toNatClampNeg) ((p1 / (10 : Int32)) / (4 : Int32))) (((16 : Int32) + p0).toNatClampNeg) ((p1 / (10 : Int32)) - ((p1 / (10 : Int32)) / (4 : Int32)) * (4 : Int32)))) 76 (upd (upd (upd (g 76) (((13 : Int32) + p0).toNatClampNeg) ((p1 / (10 : Int32)) / (4 : Int32))) (((16 : Int32) + p0).toNatClampNeg) ((p1 / (10 : Int32)) - ((p1 / (10 : Int32)) / (4 : Int32)) * (4 : Int32))) (((19 : Int32) + p0).toNatClampNeg) (p1 - (p1 / (10 : Int32)) * (10 : Int32)))) gl hh v tx)))) :
    WP X (d) 210 (0, [some (.ref 74), some (.int p0), some (.int p1)], [], Wd f fl g gl hh v tx) P := by
  refine WP.run hP_210 10 (c' := (14, [some (.ref 74), some (.int p0), some (.int p1)], [.int ((p1 / (10 : Int32)) / (4 : Int32)), .int ((13 : Int32) + p0), .ref 76], Wd f fl g gl hh v tx)) rfl ?_
  refine WP.of (fun _ _ => Ex.iast hP_210 (w2 := Wd f fl (va_up g 76 (upd (g 76) (((13 : Int32) + p0).toNatClampNeg) ((p1 / (10 : Int32)) / (4 : Int32)))) gl hh v tx) rfl (Wa_76 _ _ _ _ _ _ _) h.1 (Ws_76 _ _ _ _ _ _ _ _)) ?_
  have h1 := h.2
  refine WP.run hP_210 10 (c' := (29, [some (.ref 74), some (.int p0), some (.int p1)], [.int ((p1 / (10 : Int32)) - ((p1 / (10 : Int32)) / (4 : Int32)) * (4 : Int32)), .int ((16 : Int32) + p0), .ref 76], Wd f fl (va_up g 76 (upd (g 76) (((13 : Int32) + p0).toNatClampNeg) ((p1 / (10 : Int32)) / (4 : Int32)))) gl hh v tx)) rfl ?_
  refine WP.of (fun _ _ => Ex.iast hP_210 (w2 := Wd f fl (va_up (va_up g 76 (upd (g 76) (((13 : Int32) + p0).toNatClampNeg) ((p1 / (10 : Int32)) / (4 : Int32)))) 76 (upd (upd (g 76) (((13 : Int32) + p0).toNatClampNeg) ((p1 / (10 : Int32)) / (4 : Int32))) (((16 : Int32) + p0).toNatClampNeg) ((p1 / (10 : Int32)) - ((p1 / (10 : Int32)) / (4 : Int32)) * (4 : Int32)))) gl hh v tx) rfl (Wa_76 _ _ _ _ _ _ _) h1.1 (Ws_76 _ _ _ _ _ _ _ _)) ?_
  have h2 := h1.2
  refine WP.run hP_210 8 (c' := (42, [some (.ref 74), some (.int p0), some (.int p1)], [.int (p1 - (p1 / (10 : Int32)) * (10 : Int32)), .int ((19 : Int32) + p0), .ref 76], Wd f fl (va_up (va_up g 76 (upd (g 76) (((13 : Int32) + p0).toNatClampNeg) ((p1 / (10 : Int32)) / (4 : Int32)))) 76 (upd (upd (g 76) (((13 : Int32) + p0).toNatClampNeg) ((p1 / (10 : Int32)) / (4 : Int32))) (((16 : Int32) + p0).toNatClampNeg) ((p1 / (10 : Int32)) - ((p1 / (10 : Int32)) / (4 : Int32)) * (4 : Int32)))) gl hh v tx)) rfl ?_
  refine WP.of (fun _ _ => Ex.iast hP_210 (w2 := Wd f fl (va_up (va_up (va_up g 76 (upd (g 76) (((13 : Int32) + p0).toNatClampNeg) ((p1 / (10 : Int32)) / (4 : Int32)))) 76 (upd (upd (g 76) (((13 : Int32) + p0).toNatClampNeg) ((p1 / (10 : Int32)) / (4 : Int32))) (((16 : Int32) + p0).toNatClampNeg) ((p1 / (10 : Int32)) - ((p1 / (10 : Int32)) / (4 : Int32)) * (4 : Int32)))) 76 (upd (upd (upd (g 76) (((13 : Int32) + p0).toNatClampNeg) ((p1 / (10 : Int32)) / (4 : Int32))) (((16 : Int32) + p0).toNatClampNeg) ((p1 / (10 : Int32)) - ((p1 / (10 : Int32)) / (4 : Int32)) * (4 : Int32))) (((19 : Int32) + p0).toNatClampNeg) (p1 - (p1 / (10 : Int32)) * (10 : Int32)))) gl hh v tx) rfl (Wa_76 _ _ _ _ _ _ _) h2.1 (Ws_76 _ _ _ _ _ _ _ _)) ?_
  have h3 := h2.2
  exact WP.ret hP_210 (r := none) (w' := Wd f fl (va_up (va_up (va_up g 76 (upd (g 76) (((13 : Int32) + p0).toNatClampNeg) ((p1 / (10 : Int32)) / (4 : Int32)))) 76 (upd (upd (g 76) (((13 : Int32) + p0).toNatClampNeg) ((p1 / (10 : Int32)) / (4 : Int32))) (((16 : Int32) + p0).toNatClampNeg) ((p1 / (10 : Int32)) - ((p1 / (10 : Int32)) / (4 : Int32)) * (4 : Int32)))) 76 (upd (upd (upd (g 76) (((13 : Int32) + p0).toNatClampNeg) ((p1 / (10 : Int32)) / (4 : Int32))) (((16 : Int32) + p0).toNatClampNeg) ((p1 / (10 : Int32)) - ((p1 / (10 : Int32)) / (4 : Int32)) * (4 : Int32))) (((19 : Int32) + p0).toNatClampNeg) (p1 - (p1 / (10 : Int32)) * (10 : Int32)))) gl hh v tx) rfl h3

set_option maxRecDepth 20000 in
theorem b_m_where_0 (X : mm_X) (d : Nat) (f : Nat → Int32) (fl : Nat → Int64) (g : Nat → Nat → Int32) (gl : Nat → Nat → Int64) (hh : Nat → Nat → Option Nat) (v : Nat → Value) (tx : mm_W) (p0 : Int32) (p1 : Int32)  (P : Option Value → mm_W → Prop)
    (h : (((0 : Int32) ≤ p0 ∧ p0 ≤ (((g 76) 56) - (1 : Int32))) → ((((0 : Int32) ≤ p1 ∧ p1 ≤ (2 : Int32)) → WP X (d + 1) 209 (0, [some (.ref 74), some (.int p0), none, none, none], [], Wd f fl g gl hh v tx) (fun rv w2 => WP X (d + 2) 211 (24, [some (.ref 74), some (.int p0), some (.int p1), none], rv.toList ++ [], w2) P)) ∧
      ((¬ ((0 : Int32) ≤ p1 ∧ p1 ≤ (2 : Int32))) → P (some (.int (-1))) (Wd f fl g gl hh v tx)))) ∧
    ((¬ ((0 : Int32) ≤ p0 ∧ p0 ≤ (((g 76) 56) - (1 : Int32)))) → P (some (.int (-1))) (Wd f fl g gl hh v tx))) :
    WP X (d + 2) 211 (0, [some (.ref 74), some (.int p0), some (.int p1), none], [], Wd f fl g gl hh v tx) P := by
  refine WP.run hP_211 2 (c' := (2, [some (.ref 74), some (.int p0), some (.int p1), none], [.int p0, .ref 74], Wd f fl g gl hh v tx)) rfl ?_
  refine WP.call hP_211 hP_132 (as := [.ref 74, .int p0]) (pc' := 5) (L' := [some (.ref 74), some (.int p0), some (.int p1), none]) (st' := []) (w1 := Wd f fl g gl hh v tx) rfl ⟨Nat.le_of_ble_eq_true rfl, Nat.le_of_ble_eq_true rfl⟩ rfl (b_m_isShip_0 X (d) f fl g gl hh v tx p0 _ ?_)
  refine ⟨fun c1 => ?_, fun c1 => ?_⟩
  · have h2 := h.1 c1
    refine WP.run hP_211 4 (c' := (11, [some (.ref 74), some (.int p0), some (.int p1), none], [.int 2, .int 0, .int p1], Wd f fl g gl hh v tx)) rfl ?_
    refine WP.call hP_211 hP_116 (as := [.int p1, .int 0, .int 2]) (pc' := 14) (L' := [some (.ref 74), some (.int p0), some (.int p1), none]) (st' := []) (w1 := Wd f fl g gl hh v tx) rfl ⟨Nat.le_of_ble_eq_true rfl, Nat.le_of_ble_eq_true rfl⟩ rfl (b_lies_m X (d + 1) f fl g gl hh v tx p1 0 2 _ ?_)
    refine ⟨fun c3 => ?_, fun c3 => ?_⟩
    · have h4 := h2.1 c3
      refine WP.run hP_211 3 (c' := (21, [some (.ref 74), some (.int p0), some (.int p1), none], [.int p0, .ref 74], Wd f fl g gl hh v tx)) rfl ?_
      refine WP.call hP_211 hP_209 (as := [.ref 74, .int p0]) (pc' := 24) (L' := [some (.ref 74), some (.int p0), some (.int p1), none]) (st' := []) (w1 := Wd f fl g gl hh v tx) rfl ⟨Nat.le_of_ble_eq_true rfl, Nat.le_of_ble_eq_true rfl⟩ rfl ?_
      exact h4
    · have h5 := h2.2 c3
      refine WP.run hP_211 2 (c' := (18, [none, none, none, none], [.int (-1)], Wd f fl g gl hh v tx)) rfl ?_
      exact WP.retI hP_211 rfl rfl h5
  · have h6 := h.2 c1
    refine WP.run hP_211 2 (c' := (18, [none, none, none, none], [.int (-1)], Wd f fl g gl hh v tx)) rfl ?_
    exact WP.retI hP_211 rfl rfl h6

set_option maxRecDepth 20000 in
theorem b_m_where_24 (X : mm_X) (d : Nat) (f : Nat → Int32) (fl : Nat → Int64) (g : Nat → Nat → Int32) (gl : Nat → Nat → Int64) (hh : Nat → Nat → Option Nat) (v : Nat → Value) (tx : mm_W) (l1 : Int32) (l2 : Int32) (s0 : Int32)  (P : Option Value → mm_W → Prop)
    (h : ((¬ s0 = (-1)) → (((¬ l2 = 0) → (((¬ l2 = 1) → P (some (.int (s0 - (s0 / (10 : Int32)) * (10 : Int32)))) (Wd f fl g gl hh v tx)) ∧
        ((l2 = 1) → P (some (.int ((s0 / (10 : Int32)) - ((s0 / (10 : Int32)) / (4 : Int32)) * (4 : Int32)))) (Wd f fl g gl hh v tx)))) ∧
      ((l2 = 0) → P (some (.int ((s0 / (10 : Int32)) / (4 : Int32)))) (Wd f fl g gl hh v tx)))) ∧
    ((s0 = (-1)) → P (some (.int (-1))) (Wd f fl g gl hh v tx))) :
    WP X (d) 211 (24, [some (.ref 74), some (.int l1), some (.int l2), none], [.int s0], Wd f fl g gl hh v tx) P := by
  refine WP.run hP_211 3 (c' := (27, [some (.ref 74), some (.int l1), some (.int l2), some (.int s0)], [.int (-1), .int s0], Wd f fl g gl hh v tx)) rfl ?_
  refine WP.br hP_211 (q := ¬ s0 = (-1)) (t := 32) (f := 30) (L := [some (.ref 74), some (.int l1), some (.int l2), some (.int s0)]) (st := []) (w := Wd f fl g gl hh v tx) rfl (fun c1 => ?_) (fun c1 => ?_)
  · have h2 := h.1 c1
    refine WP.run hP_211 1 (c' := (33, [none, none, some (.int l2), some (.int s0)], [.int l2], Wd f fl g gl hh v tx)) rfl ?_
    refine WP.br hP_211 (q := ¬ l2 = 0) (t := 45) (f := 36) (L := [none, none, some (.int l2), some (.int s0)]) (st := []) (w := Wd f fl g gl hh v tx) rfl (fun c3 => ?_) (fun c3 => ?_)
    · have h4 := h2.1 c3
      refine WP.run hP_211 2 (c' := (47, [none, none, some (.int l2), some (.int s0)], [.int 1, .int l2], Wd f fl g gl hh v tx)) rfl ?_
      refine WP.br hP_211 (q := ¬ l2 = 1) (t := 59) (f := 50) (L := [none, none, some (.int l2), some (.int s0)]) (st := []) (w := Wd f fl g gl hh v tx) rfl (fun c5 => ?_) (fun c5 => ?_)
      · have h6 := h4.1 c5
        refine WP.run hP_211 3 (c' := (63, [none, none, none, some (.int s0)], [.int (s0 - (s0 / (10 : Int32)) * (10 : Int32))], Wd f fl g gl hh v tx)) rfl ?_
        exact WP.retI hP_211 rfl rfl h6
      · have h7 := h4.2 (Classical.not_not.mp c5)
        refine WP.run hP_211 6 (c' := (63, [none, none, some (.int l2), some (.int s0)], [.int ((s0 / (10 : Int32)) - ((s0 / (10 : Int32)) / (4 : Int32)) * (4 : Int32))], Wd f fl g gl hh v tx)) rfl ?_
        exact WP.retI hP_211 rfl rfl h7
    · have h8 := h2.2 (Classical.not_not.mp c3)
      refine WP.run hP_211 6 (c' := (63, [none, none, some (.int l2), some (.int s0)], [.int ((s0 / (10 : Int32)) / (4 : Int32))], Wd f fl g gl hh v tx)) rfl ?_
      exact WP.retI hP_211 rfl rfl h8
  · have h9 := h.2 (Classical.not_not.mp c1)
    refine WP.run hP_211 1 (c' := (31, [some (.ref 74), some (.int l1), some (.int l2), some (.int s0)], [.int (-1)], Wd f fl g gl hh v tx)) rfl ?_
    exact WP.retI hP_211 rfl rfl h9

set_option maxRecDepth 20000 in
theorem b_m_meetings_0 (X : mm_X) (d : Nat) (f : Nat → Int32) (fl : Nat → Int64) (g : Nat → Nat → Int32) (gl : Nat → Nat → Int64) (hh : Nat → Nat → Option Nat) (v : Nat → Value) (tx : mm_W) (p0 : Int32)  (P : Option Value → mm_W → Prop)
    (h : (((-1) ≤ p0) → WP X (d) 212 (11, [some (.ref 74), some (.int p0), some (.int 0), some (.int 0), none], [], Wd f fl g gl hh v tx) P) ∧
    ((¬ ((-1) ≤ p0)) → P (some (.int (-1))) (Wd f fl g gl hh v tx))) :
    WP X (d) 212 (0, [some (.ref 74), some (.int p0), none, none, none], [], Wd f fl g gl hh v tx) P := by
  refine WP.run hP_212 2 (c' := (2, [some (.ref 74), some (.int p0), none, none, none], [.int (-1), .int p0], Wd f fl g gl hh v tx)) rfl ?_
  refine WP.br hP_212 (q := (-1) ≤ p0) (t := 7) (f := 5) (L := [some (.ref 74), some (.int p0), none, none, none]) (st := []) (w := Wd f fl g gl hh v tx) rfl (fun c1 => ?_) (fun c1 => ?_)
  · have h2 := h.1 c1
    refine WP.run hP_212 1 (c' := (8, [some (.ref 74), some (.int p0), none, none, none], [.int 0], Wd f fl g gl hh v tx)) rfl ?_
    refine WP.run hP_212 2 (c' := (10, [some (.ref 74), some (.int p0), some (.int 0), none, none], [.int 0], Wd f fl g gl hh v tx)) rfl ?_
    refine WP.run hP_212 1 (c' := (11, [some (.ref 74), some (.int p0), some (.int 0), some (.int 0), none], [], Wd f fl g gl hh v tx)) rfl ?_
    exact h2
  · have h3 := h.2 c1
    refine WP.run hP_212 1 (c' := (6, [some (.ref 74), some (.int p0), none, none, none], [.int (-1)], Wd f fl g gl hh v tx)) rfl ?_
    exact WP.retI hP_212 rfl rfl h3

set_option maxRecDepth 20000 in
theorem b_m_meetings_11 (X : mm_X) (d : Nat) (f : Nat → Int32) (fl : Nat → Int64) (g : Nat → Nat → Int32) (gl : Nat → Nat → Int64) (hh : Nat → Nat → Option Nat) (v : Nat → Value) (tx : mm_W) (l1 : Int32) (l2 : Int32) (l3 : Int32)  (P : Option Value → mm_W → Prop)
    (h : ((((g 76) 56) ≤ l3) → (((¬ l1 = (-1)) → P (some (.int (-1))) (Wd f fl g gl hh v tx)) ∧
      ((l1 = (-1)) → P (some (.int l2)) (Wd f fl g gl hh v tx)))) ∧
    ((¬ (((g 76) 56) ≤ l3)) → WP X (d) 212 (27, [some (.ref 74), some (.int l1), some (.int l2), some (.int l3), some (.int (l3 + (1 : Int32)))], [], Wd f fl g gl hh v tx) P)) :
    WP X (d) 212 (11, [some (.ref 74), some (.int l1), some (.int l2), some (.int l3), none], [], Wd f fl g gl hh v tx) P := by
  refine WP.run hP_212 4 (c' := (18, [some (.ref 74), some (.int l1), some (.int l2), some (.int l3), none], [.int 56, .ref 76, .int l3], Wd f fl g gl hh v tx)) rfl ?_
  refine WP.of (fun _ _ => Ex.iald hP_212 rfl (Wa_76 _ _ _ _ _ _ _) (by decide)) ?_
  show WP X _ 212 (19, [some (.ref 74), some (.int l1), some (.int l2), some (.int l3), none], [.int ((g 76) 56), .int l3], Wd f fl g gl hh v tx) P
  refine WP.br hP_212 (q := ((g 76) 56) ≤ l3) (t := 96) (f := 22) (L := [some (.ref 74), some (.int l1), some (.int l2), some (.int l3), none]) (st := []) (w := Wd f fl g gl hh v tx) rfl (fun c1 => ?_) (fun c1 => ?_)
  · have h2 := h.1 c1
    refine WP.run hP_212 2 (c' := (98, [none, some (.int l1), some (.int l2), none, none], [.int (-1), .int l1], Wd f fl g gl hh v tx)) rfl ?_
    refine WP.br hP_212 (q := ¬ l1 = (-1)) (t := 105) (f := 101) (L := [none, some (.int l1), some (.int l2), none, none]) (st := []) (w := Wd f fl g gl hh v tx) rfl (fun c3 => ?_) (fun c3 => ?_)
    · have h4 := h2.1 c3
      refine WP.run hP_212 1 (c' := (106, [none, none, none, none, none], [.int (-1)], Wd f fl g gl hh v tx)) rfl ?_
      exact WP.retI hP_212 rfl rfl h4
    · have h5 := h2.2 (Classical.not_not.mp c3)
      refine WP.run hP_212 2 (c' := (106, [none, some (.int l1), some (.int l2), none, none], [.int l2], Wd f fl g gl hh v tx)) rfl ?_
      exact WP.retI hP_212 rfl rfl h5
  · have h6 := h.2 c1
    refine WP.run hP_212 4 (c' := (27, [some (.ref 74), some (.int l1), some (.int l2), some (.int l3), some (.int (l3 + (1 : Int32)))], [], Wd f fl g gl hh v tx)) rfl ?_
    exact h6

set_option maxRecDepth 20000 in
theorem b_m_meetings_27 (X : mm_X) (d : Nat) (f : Nat → Int32) (fl : Nat → Int64) (g : Nat → Nat → Int32) (gl : Nat → Nat → Int64) (hh : Nat → Nat → Option Nat) (v : Nat → Value) (tx : mm_W) (l1 : Int32) (l2 : Int32) (l3 : Int32) (l4 : Int32)  (P : Option Value → mm_W → Prop)
    (h : ((((g 76) 56) ≤ l4) → WP X (d + 1) 212 (11, [some (.ref 74), some (.int l1), some (.int l2), some (.int (l3 + (1 : Int32))), none], [], Wd f fl g gl hh v tx) P) ∧
    ((¬ (((g 76) 56) ≤ l4)) → WP X (d) 211 (0, [some (.ref 74), some (.int l3), some (.int 0), none], [], Wd f fl g gl hh v tx) (fun rv w2 => WP X (d + 1) 212 (45, [some (.ref 74), some (.int l1), some (.int l2), some (.int l3), some (.int l4)], rv.toList ++ [], w2) P))) :
    WP X (d + 1) 212 (27, [some (.ref 74), some (.int l1), some (.int l2), some (.int l3), some (.int l4)], [], Wd f fl g gl hh v tx) P := by
  refine WP.run hP_212 4 (c' := (35, [some (.ref 74), some (.int l1), some (.int l2), some (.int l3), some (.int l4)], [.int 56, .ref 76, .int l4], Wd f fl g gl hh v tx)) rfl ?_
  refine WP.of (fun _ _ => Ex.iald hP_212 rfl (Wa_76 _ _ _ _ _ _ _) (by decide)) ?_
  show WP X _ 212 (36, [some (.ref 74), some (.int l1), some (.int l2), some (.int l3), some (.int l4)], [.int ((g 76) 56), .int l4], Wd f fl g gl hh v tx) P
  refine WP.br hP_212 (q := ((g 76) 56) ≤ l4) (t := 90) (f := 39) (L := [some (.ref 74), some (.int l1), some (.int l2), some (.int l3), some (.int l4)]) (st := []) (w := Wd f fl g gl hh v tx) rfl (fun c1 => ?_) (fun c1 => ?_)
  · have h2 := h.1 c1
    refine WP.run hP_212 2 (c' := (11, [some (.ref 74), some (.int l1), some (.int l2), some (.int (l3 + (1 : Int32))), none], [], Wd f fl g gl hh v tx)) rfl ?_
    exact h2
  · have h3 := h.2 c1
    refine WP.run hP_212 3 (c' := (42, [some (.ref 74), some (.int l1), some (.int l2), some (.int l3), some (.int l4)], [.int 0, .int l3, .ref 74], Wd f fl g gl hh v tx)) rfl ?_
    refine WP.call hP_212 hP_211 (as := [.ref 74, .int l3, .int 0]) (pc' := 45) (L' := [some (.ref 74), some (.int l1), some (.int l2), some (.int l3), some (.int l4)]) (st' := []) (w1 := Wd f fl g gl hh v tx) rfl ⟨Nat.le_of_ble_eq_true rfl, Nat.le_of_ble_eq_true rfl⟩ rfl ?_
    exact h3

set_option maxRecDepth 20000 in
theorem b_m_meetings_45 (X : mm_X) (d : Nat) (f : Nat → Int32) (fl : Nat → Int64) (g : Nat → Nat → Int32) (gl : Nat → Nat → Int64) (hh : Nat → Nat → Option Nat) (v : Nat → Value) (tx : mm_W) (l1 : Int32) (l2 : Int32) (l3 : Int32) (l4 : Int32) (s0 : Int32)  (P : Option Value → mm_W → Prop)
    (h : ((s0 = (-1)) → WP X (d + 1) 212 (27, [some (.ref 74), some (.int l1), some (.int l2), some (.int l3), some (.int (l4 + (1 : Int32)))], [], Wd f fl g gl hh v tx) P) ∧
    ((¬ s0 = (-1)) → WP X (d) 211 (0, [some (.ref 74), some (.int l3), some (.int 0), none], [], Wd f fl g gl hh v tx) (fun rv w2 => WP X (d + 1) 212 (55, [some (.ref 74), some (.int l1), some (.int l2), some (.int l3), some (.int l4)], rv.toList ++ [], w2) P))) :
    WP X (d + 1) 212 (45, [some (.ref 74), some (.int l1), some (.int l2), some (.int l3), some (.int l4)], [.int s0], Wd f fl g gl hh v tx) P := by
  refine WP.run hP_212 1 (c' := (46, [some (.ref 74), some (.int l1), some (.int l2), some (.int l3), some (.int l4)], [.int (-1), .int s0], Wd f fl g gl hh v tx)) rfl ?_
  refine WP.br hP_212 (q := s0 = (-1)) (t := 84) (f := 49) (L := [some (.ref 74), some (.int l1), some (.int l2), some (.int l3), some (.int l4)]) (st := []) (w := Wd f fl g gl hh v tx) rfl (fun c1 => ?_) (fun c1 => ?_)
  · have h2 := h.1 c1
    refine WP.run hP_212 2 (c' := (27, [some (.ref 74), some (.int l1), some (.int l2), some (.int l3), some (.int (l4 + (1 : Int32)))], [], Wd f fl g gl hh v tx)) rfl ?_
    exact h2
  · have h3 := h.2 c1
    refine WP.run hP_212 3 (c' := (52, [some (.ref 74), some (.int l1), some (.int l2), some (.int l3), some (.int l4)], [.int 0, .int l3, .ref 74], Wd f fl g gl hh v tx)) rfl ?_
    refine WP.call hP_212 hP_211 (as := [.ref 74, .int l3, .int 0]) (pc' := 55) (L' := [some (.ref 74), some (.int l1), some (.int l2), some (.int l3), some (.int l4)]) (st' := []) (w1 := Wd f fl g gl hh v tx) rfl ⟨Nat.le_of_ble_eq_true rfl, Nat.le_of_ble_eq_true rfl⟩ rfl ?_
    exact h3

set_option maxRecDepth 20000 in
theorem b_m_meetings_55 (X : mm_X) (d : Nat) (f : Nat → Int32) (fl : Nat → Int64) (g : Nat → Nat → Int32) (gl : Nat → Nat → Int64) (hh : Nat → Nat → Option Nat) (v : Nat → Value) (tx : mm_W) (l1 : Int32) (l2 : Int32) (l3 : Int32) (l4 : Int32) (s0 : Int32)  (P : Option Value → mm_W → Prop)
    (h : WP X (d) 211 (0, [some (.ref 74), some (.int l4), some (.int 0), none], [], Wd f fl g gl hh v tx) (fun rv w2 => WP X (d + 1) 212 (62, [some (.ref 74), some (.int l1), some (.int l2), some (.int l3), some (.int l4)], rv.toList ++ [.int s0], w2) P)) :
    WP X (d + 1) 212 (55, [some (.ref 74), some (.int l1), some (.int l2), some (.int l3), some (.int l4)], [.int s0], Wd f fl g gl hh v tx) P := by
  refine WP.run hP_212 3 (c' := (59, [some (.ref 74), some (.int l1), some (.int l2), some (.int l3), some (.int l4)], [.int 0, .int l4, .ref 74, .int s0], Wd f fl g gl hh v tx)) rfl ?_
  refine WP.call hP_212 hP_211 (as := [.ref 74, .int l4, .int 0]) (pc' := 62) (L' := [some (.ref 74), some (.int l1), some (.int l2), some (.int l3), some (.int l4)]) (st' := [.int s0]) (w1 := Wd f fl g gl hh v tx) rfl ⟨Nat.le_of_ble_eq_true rfl, Nat.le_of_ble_eq_true rfl⟩ rfl ?_
  exact h

set_option maxRecDepth 20000 in
theorem b_m_meetings_62 (X : mm_X) (d : Nat) (f : Nat → Int32) (fl : Nat → Int64) (g : Nat → Nat → Int32) (gl : Nat → Nat → Int64) (hh : Nat → Nat → Option Nat) (v : Nat → Value) (tx : mm_W) (l1 : Int32) (l2 : Int32) (l3 : Int32) (l4 : Int32) (s0 : Int32) (s1 : Int32)  (P : Option Value → mm_W → Prop)
    (h : ((s1 = s0) → (((¬ l2 = l1) → WP X (d) 212 (27, [some (.ref 74), some (.int l1), some (.int (l2 + (1 : Int32))), some (.int l3), some (.int (l4 + (1 : Int32)))], [], Wd f fl g gl hh v tx) P) ∧
      ((l2 = l1) → P (some (.int (((10 : Int32) * l3) + l4))) (Wd f fl g gl hh v tx)))) ∧
    ((¬ s1 = s0) → WP X (d) 212 (27, [some (.ref 74), some (.int l1), some (.int l2), some (.int l3), some (.int (l4 + (1 : Int32)))], [], Wd f fl g gl hh v tx) P)) :
    WP X (d) 212 (62, [some (.ref 74), some (.int l1), some (.int l2), some (.int l3), some (.int l4)], [.int s0, .int s1], Wd f fl g gl hh v tx) P := by
  refine WP.br hP_212 (q := s1 = s0) (t := 68) (f := 65) (L := [some (.ref 74), some (.int l1), some (.int l2), some (.int l3), some (.int l4)]) (st := []) (w := Wd f fl g gl hh v tx) rfl (fun c1 => ?_) (fun c1 => ?_)
  · have h2 := h.1 c1
    refine WP.run hP_212 2 (c' := (70, [some (.ref 74), some (.int l1), some (.int l2), some (.int l3), some (.int l4)], [.int l1, .int l2], Wd f fl g gl hh v tx)) rfl ?_
    refine WP.br hP_212 (q := ¬ l2 = l1) (t := 81) (f := 73) (L := [some (.ref 74), some (.int l1), some (.int l2), some (.int l3), some (.int l4)]) (st := []) (w := Wd f fl g gl hh v tx) rfl (fun c3 => ?_) (fun c3 => ?_)
    · have h4 := h2.1 c3
      refine WP.run hP_212 1 (c' := (84, [some (.ref 74), some (.int l1), some (.int (l2 + (1 : Int32))), some (.int l3), some (.int l4)], [], Wd f fl g gl hh v tx)) rfl ?_
      refine WP.run hP_212 2 (c' := (27, [some (.ref 74), some (.int l1), some (.int (l2 + (1 : Int32))), some (.int l3), some (.int (l4 + (1 : Int32)))], [], Wd f fl g gl hh v tx)) rfl ?_
      exact h4
    · have h5 := h2.2 (Classical.not_not.mp c3)
      refine WP.run hP_212 5 (c' := (80, [some (.ref 74), some (.int l1), some (.int l2), some (.int l3), some (.int l4)], [.int (((10 : Int32) * l3) + l4)], Wd f fl g gl hh v tx)) rfl ?_
      exact WP.retI hP_212 rfl rfl h5
  · have h6 := h.2 c1
    refine WP.run hP_212 3 (c' := (27, [some (.ref 74), some (.int l1), some (.int l2), some (.int l3), some (.int (l4 + (1 : Int32)))], [], Wd f fl g gl hh v tx)) rfl ?_
    exact h6

set_option maxRecDepth 20000 in
theorem b_m_sailsKept_0 (X : mm_X) (d : Nat) (f : Nat → Int32) (fl : Nat → Int64) (g : Nat → Nat → Int32) (gl : Nat → Nat → Int64) (hh : Nat → Nat → Option Nat) (v : Nat → Value) (tx : mm_W) (p0 : Int32)  (P : Option Value → mm_W → Prop)
    (h : (((0 : Int32) ≤ p0 ∧ p0 ≤ (((g 76) 56) - (1 : Int32))) → WP X (d + 1) 202 (0, [some (.ref 74), some (.int p0), some (.int (-1))], [], Wd f fl g gl hh v tx) (fun rv w2 => WP X (d + 2) 238 (17, [some (.ref 74), some (.int p0), none], rv.toList ++ [], w2) P)) ∧
    ((¬ ((0 : Int32) ≤ p0 ∧ p0 ≤ (((g 76) 56) - (1 : Int32)))) → P (some (.int (-2))) (Wd f fl g gl hh v tx))) :
    WP X (d + 2) 238 (0, [some (.ref 74), some (.int p0), none], [], Wd f fl g gl hh v tx) P := by
  refine WP.run hP_238 2 (c' := (2, [some (.ref 74), some (.int p0), none], [.int p0, .ref 74], Wd f fl g gl hh v tx)) rfl ?_
  refine WP.call hP_238 hP_132 (as := [.ref 74, .int p0]) (pc' := 5) (L' := [some (.ref 74), some (.int p0), none]) (st' := []) (w1 := Wd f fl g gl hh v tx) rfl ⟨Nat.le_of_ble_eq_true rfl, Nat.le_of_ble_eq_true rfl⟩ rfl (b_m_isShip_0 X (d) f fl g gl hh v tx p0 _ ?_)
  refine ⟨fun c1 => ?_, fun c1 => ?_⟩
  · have h2 := h.1 c1
    refine WP.run hP_238 4 (c' := (14, [some (.ref 74), some (.int p0), none], [.int (-1), .int p0, .ref 74], Wd f fl g gl hh v tx)) rfl ?_
    refine WP.call hP_238 hP_202 (as := [.ref 74, .int p0, .int (-1)]) (pc' := 17) (L' := [some (.ref 74), some (.int p0), none]) (st' := []) (w1 := Wd f fl g gl hh v tx) rfl ⟨Nat.le_of_ble_eq_true rfl, Nat.le_of_ble_eq_true rfl⟩ rfl ?_
    exact h2
  · have h3 := h.2 c1
    refine WP.run hP_238 2 (c' := (10, [some (.ref 74), some (.int p0), none], [.int (-2)], Wd f fl g gl hh v tx)) rfl ?_
    exact WP.retI hP_238 rfl rfl h3

set_option maxRecDepth 20000 in
theorem b_m_sailsKept_17 (X : mm_X) (d : Nat) (f : Nat → Int32) (fl : Nat → Int64) (g : Nat → Nat → Int32) (gl : Nat → Nat → Int64) (hh : Nat → Nat → Option Nat) (v : Nat → Value) (tx : mm_W) (l1 : Int32) (s0 : Int32)  (P : Option Value → mm_W → Prop)
    (h : ((¬ s0 = (-1)) → WP X (d) 232 (0, [some (.ref 74), some (.int 2), none, none], [], Wd f fl g gl hh v tx) (fun rv w2 => WP X (d + 1) 238 (31, [some (.ref 74), some (.int l1), some (.int s0)], rv.toList ++ [], w2) P)) ∧
    ((s0 = (-1)) → P (some (.int (-3))) (Wd f fl g gl hh v tx))) :
    WP X (d + 1) 238 (17, [some (.ref 74), some (.int l1), none], [.int s0], Wd f fl g gl hh v tx) P := by
  refine WP.run hP_238 3 (c' := (20, [some (.ref 74), some (.int l1), some (.int s0)], [.int (-1), .int s0], Wd f fl g gl hh v tx)) rfl ?_
  refine WP.br hP_238 (q := ¬ s0 = (-1)) (t := 26) (f := 23) (L := [some (.ref 74), some (.int l1), some (.int s0)]) (st := []) (w := Wd f fl g gl hh v tx) rfl (fun c1 => ?_) (fun c1 => ?_)
  · have h2 := h.1 c1
    refine WP.run hP_238 2 (c' := (28, [some (.ref 74), some (.int l1), some (.int s0)], [.int 2, .ref 74], Wd f fl g gl hh v tx)) rfl ?_
    refine WP.call hP_238 hP_232 (as := [.ref 74, .int 2]) (pc' := 31) (L' := [some (.ref 74), some (.int l1), some (.int s0)]) (st' := []) (w1 := Wd f fl g gl hh v tx) rfl ⟨Nat.le_of_ble_eq_true rfl, Nat.le_of_ble_eq_true rfl⟩ rfl ?_
    exact h2
  · have h3 := h.2 (Classical.not_not.mp c1)
    refine WP.run hP_238 1 (c' := (25, [some (.ref 74), some (.int l1), some (.int s0)], [.int (-3)], Wd f fl g gl hh v tx)) rfl ?_
    exact WP.retI hP_238 rfl rfl h3

set_option maxRecDepth 20000 in
theorem b_m_sailsKept_31 (X : mm_X) (d : Nat) (f : Nat → Int32) (fl : Nat → Int64) (g : Nat → Nat → Int32) (gl : Nat → Nat → Int64) (hh : Nat → Nat → Option Nat) (v : Nat → Value) (tx : mm_W) (l1 : Int32) (l2 : Int32)  (P : Option Value → mm_W → Prop)
    (h : WP X (d) 209 (0, [some (.ref 74), some (.int l1), none, none, none], [], Wd f fl g gl hh v tx) (fun rv w2 => WP X (d + 1) 238 (38, [some (.ref 74), some (.int l1), some (.int l2)], rv.toList ++ [.int l1, .ref 74], w2) P)) :
    WP X (d + 1) 238 (31, [some (.ref 74), some (.int l1), some (.int l2)], [], Wd f fl g gl hh v tx) P := by
  refine WP.run hP_238 4 (c' := (35, [some (.ref 74), some (.int l1), some (.int l2)], [.int l1, .ref 74, .int l1, .ref 74], Wd f fl g gl hh v tx)) rfl ?_
  refine WP.call hP_238 hP_209 (as := [.ref 74, .int l1]) (pc' := 38) (L' := [some (.ref 74), some (.int l1), some (.int l2)]) (st' := [.int l1, .ref 74]) (w1 := Wd f fl g gl hh v tx) rfl ⟨Nat.le_of_ble_eq_true rfl, Nat.le_of_ble_eq_true rfl⟩ rfl ?_
  exact h

set_option maxRecDepth 20000 in
theorem b_m_sailsKept_38 (X : mm_X) (d : Nat) (f : Nat → Int32) (fl : Nat → Int64) (g : Nat → Nat → Int32) (gl : Nat → Nat → Int64) (hh : Nat → Nat → Option Nat) (v : Nat → Value) (tx : mm_W) (l1 : Int32) (l2 : Int32) (s0 : Int32) (s1 : Int32)  (P : Option Value → mm_W → Prop)
    (h : (¬ (((13 : Int32) + s1) < 0 ∨ 5667 ≤ ((13 : Int32) + s1).toNatClampNeg)) ∧ ((¬ (((16 : Int32) + s1) < 0 ∨ 5667 ≤ ((16 : Int32) + s1).toNatClampNeg)) ∧ ((¬ (((19 : Int32) + s1) < 0 ∨ 5667 ≤ ((19 : Int32) + s1).toNatClampNeg)) ∧ P (some (.int l2)) (Wd f fl (va_up (va_up (va_up g 76 (upd (g 76) (((13 : Int32) + s1).toNatClampNeg) ((s0 / (10 : Int32)) / (4 : Int32)))) 76 (upd (upd (g 76) (((13 : Int32) + s1).toNatClampNeg) ((s0 / (10 : Int32)) / (4 : Int32))) (((16 : Int32) + s1).toNatClampNeg) ((s0 / (10 : Int32)) - ((s0 / (10 : Int32)) / (4 : Int32)) * (4 : Int32)))) 76 (upd (upd (upd (g 76) (((13 : Int32) + s1).toNatClampNeg) ((s0 / (10 : Int32)) / (4 : Int32))) (((16 : Int32) + s1).toNatClampNeg) ((s0 / (10 : Int32)) - ((s0 / (10 : Int32)) / (4 : Int32)) * (4 : Int32))) (((19 : Int32) + s1).toNatClampNeg) (s0 - (s0 / (10 : Int32)) * (10 : Int32)))) gl hh v tx)))) :
    WP X (d + 1) 238 (38, [some (.ref 74), some (.int l1), some (.int l2)], [.int s0, .int s1, .ref 74], Wd f fl g gl hh v tx) P := by
  refine WP.call hP_238 hP_210 (as := [.ref 74, .int s1, .int s0]) (pc' := 41) (L' := [some (.ref 74), some (.int l1), some (.int l2)]) (st' := []) (w1 := Wd f fl g gl hh v tx) rfl ⟨Nat.le_of_ble_eq_true rfl, Nat.le_of_ble_eq_true rfl⟩ rfl (b_m_movesTo_0 X (d) f fl g gl hh v tx s1 s0 _ ?_)
  refine ⟨h.1, ?_⟩
  have h1 := h.2
  refine ⟨h1.1, ?_⟩
  have h2 := h1.2
  refine ⟨h2.1, ?_⟩
  have h3 := h2.2
  refine WP.run hP_238 1 (c' := (42, [some (.ref 74), some (.int l1), some (.int l2)], [.int l2], Wd f fl (va_up (va_up (va_up g 76 (upd (g 76) (((13 : Int32) + s1).toNatClampNeg) ((s0 / (10 : Int32)) / (4 : Int32)))) 76 (upd (upd (g 76) (((13 : Int32) + s1).toNatClampNeg) ((s0 / (10 : Int32)) / (4 : Int32))) (((16 : Int32) + s1).toNatClampNeg) ((s0 / (10 : Int32)) - ((s0 / (10 : Int32)) / (4 : Int32)) * (4 : Int32)))) 76 (upd (upd (upd (g 76) (((13 : Int32) + s1).toNatClampNeg) ((s0 / (10 : Int32)) / (4 : Int32))) (((16 : Int32) + s1).toNatClampNeg) ((s0 / (10 : Int32)) - ((s0 / (10 : Int32)) / (4 : Int32)) * (4 : Int32))) (((19 : Int32) + s1).toNatClampNeg) (s0 - (s0 / (10 : Int32)) * (10 : Int32)))) gl hh v tx)) rfl ?_
  exact WP.retI hP_238 rfl rfl h3

set_option maxRecDepth 20000 in
theorem b_m_sail_0 (X : mm_X) (d : Nat) (f : Nat → Int32) (fl : Nat → Int64) (g : Nat → Nat → Int32) (gl : Nat → Nat → Int64) (hh : Nat → Nat → Option Nat) (v : Nat → Value) (tx : mm_W) (p0 : Int32)  (P : Option Value → mm_W → Prop)
    (h : WP X (d) 238 (0, [some (.ref 74), some (.int p0), none], [], Wd f fl g gl hh v tx) (fun rv w2 => WP X (d + 1) 242 (6, [some (.ref 74), some (.int p0)], rv.toList ++ [.ref 74], w2) P)) :
    WP X (d + 1) 242 (0, [some (.ref 74), some (.int p0)], [], Wd f fl g gl hh v tx) P := by
  refine WP.run hP_242 3 (c' := (3, [some (.ref 74), some (.int p0)], [.int p0, .ref 74, .ref 74], Wd f fl g gl hh v tx)) rfl ?_
  refine WP.call hP_242 hP_238 (as := [.ref 74, .int p0]) (pc' := 6) (L' := [some (.ref 74), some (.int p0)]) (st' := [.ref 74]) (w1 := Wd f fl g gl hh v tx) rfl ⟨Nat.le_of_ble_eq_true rfl, Nat.le_of_ble_eq_true rfl⟩ rfl ?_
  exact h

set_option maxRecDepth 20000 in
theorem b_m_sail_6 (X : mm_X) (d : Nat) (f : Nat → Int32) (fl : Nat → Int64) (g : Nat → Nat → Int32) (gl : Nat → Nat → Int64) (hh : Nat → Nat → Option Nat) (v : Nat → Value) (tx : mm_W) (l1 : Int32) (s0 : Int32)  (P : Option Value → mm_W → Prop)
    (h : ((0 ≤ s0) → P (some (.int s0)) (Wd (va_up f 4736 0) fl g gl hh v tx)) ∧
    ((¬ (0 ≤ s0)) → ((¬ ((-s0) < 0 ∨ 7 ≤ (-s0).toNatClampNeg)) ∧ ((¬ ((-s0) < 0 ∨ 7 ≤ (-s0).toNatClampNeg)) ∧ P (some (.int s0)) (Wd (va_up f 4736 s0) fl (va_up g 75 (upd (g 75) ((-s0).toNatClampNeg) (((g 75) (-s0).toNatClampNeg) + (1 : Int32)))) gl hh v tx))))) :
    WP X (d + 2) 242 (6, [some (.ref 74), some (.int l1)], [.int s0, .ref 74], Wd f fl g gl hh v tx) P := by
  refine WP.call hP_242 hP_234 (as := [.ref 74, .int s0]) (pc' := 9) (L' := [some (.ref 74), some (.int l1)]) (st' := []) (w1 := Wd f fl g gl hh v tx) rfl ⟨Nat.le_of_ble_eq_true rfl, Nat.le_of_ble_eq_true rfl⟩ rfl (b_m_goodOr_0 X (d) f fl g gl hh v tx s0 _ ?_)
  refine ⟨fun c1 => ?_, fun c1 => ?_⟩
  · have h2 := h.1 c1
    exact WP.retI hP_242 rfl rfl h2
  · have h3 := h.2 c1
    refine ⟨h3.1, ?_⟩
    have h4 := h3.2
    refine ⟨h4.1, ?_⟩
    have h5 := h4.2
    exact WP.retI hP_242 rfl rfl h5
