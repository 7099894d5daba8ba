set_option maxRecDepth 20000 in
theorem b_yst_lawInForce_1_0 (X : mm_X) (d : Nat) (f : Nat → Int32) (fl : Nat → Int64) (g : Nat → Nat → Int32) (gl : Nat → Nat → Int64) (hh : Nat → Nat → Option Nat) (v : Nat → Value) (tx : mm_W)   (P : Option Value → mm_W → Prop)
    (h : ((0 ≤ (f 76) ∧ (f 76) < (f 74)) → ((¬ ((f 76) < 0 ∨ 6 ≤ (f 76).toNatClampNeg)) ∧ P (some ((mm_rf ((hh 7) (f 76).toNatClampNeg)))) (Wd f fl g gl hh v tx))) ∧
    ((¬ (0 ≤ (f 76) ∧ (f 76) < (f 74))) → P (some (.null)) (Wd f fl g gl hh v tx))) :
    WP X (d + 1) 46 (0, [some (.ref 1)], [], Wd f fl g gl hh v tx) P := by
  refine WP.run hP_46 4 (c' := (8, [some (.ref 1)], [.int (f 74), .int (f 76)], Wd f fl g gl hh v tx)) rfl ?_
  refine WP.call hP_46 hP_99 (as := [.int (f 76), .int (f 74)]) (pc' := 11) (L' := [some (.ref 1)]) (st' := []) (w1 := Wd f fl g gl hh v tx) rfl ⟨Nat.le_of_ble_eq_true rfl, Nat.le_of_ble_eq_true rfl⟩ rfl (b_within_m X (d) f fl g gl hh v tx (f 76) (f 74) _ ?_)
  refine ⟨fun c1 => ?_, fun c1 => ?_⟩
  · have h2 := h.1 c1
    refine WP.run hP_46 5 (c' := (22, [some (.ref 1)], [.int (f 76), .ref 7], Wd f fl g gl hh v tx)) rfl ?_
    refine WP.of (fun _ _ => Ex.aald4 hP_46 rfl (Wa_7 _ _ _ _ _ _ _) h2.1) ?_
    have h3 := h2.2
    refine WP.run hP_46 1 (c' := (27, [some (.ref 1)], [(mm_rf ((hh 7) (f 76).toNatClampNeg))], Wd f fl g gl hh v tx)) rfl ?_
    exact WP.retV hP_46 rfl rfl h3
  · have h4 := h.2 c1
    refine WP.run hP_46 2 (c' := (27, [none], [.null], Wd f fl g gl hh v tx)) rfl ?_
    exact WP.ret hP_46 (r := some (.null)) (w' := Wd f fl g gl hh v tx) rfl h4

set_option maxRecDepth 20000 in
theorem b_yst_others_1_0 (X : mm_X) (d : Nat) (f : Nat → Int32) (fl : Nat → Int64) (g : Nat → Nat → Int32) (gl : Nat → Nat → Int64) (hh : Nat → Nat → Option Nat) (v : Nat → Value) (tx : mm_W) (p0 : Int32) (p1 : Int32)  (P : Option Value → mm_W → Prop)
    (h : (¬ (p0 < 0 ∨ 8 ≤ p0.toNatClampNeg)) ∧ (((0 ≤ (((f 70) - p1) - ((g 3) p0.toNatClampNeg))) → ((¬ (p0 < 0 ∨ 8 ≤ p0.toNatClampNeg)) ∧ ((¬ (p0 < 0 ∨ 8 ≤ p0.toNatClampNeg)) ∧ WP X (d) 256 (0, [some (.int (((((((f 71) >>> (((2 : Int32) * (((f 70) - p1) - ((g 3) p0.toNatClampNeg))) &&& (31 : Int32))) : Int32) &&& ((((1 : Int32) <<< (((2 : Int32) * ((g 3) p0.toNatClampNeg)) &&& (31 : Int32))) : Int32) - (1 : Int32))) ^^^ ((g 2) p0.toNatClampNeg)) ||| (((((((f 71) >>> (((2 : Int32) * (((f 70) - p1) - ((g 3) p0.toNatClampNeg))) &&& (31 : Int32))) : Int32) &&& ((((1 : Int32) <<< (((2 : Int32) * ((g 3) p0.toNatClampNeg)) &&& (31 : Int32))) : Int32) - (1 : Int32))) ^^^ ((g 2) p0.toNatClampNeg)) >>> ((1 : Int32) &&& (31 : Int32))) : Int32)) &&& (85 : Int32)))], [], Wd f fl g gl hh v tx) (fun rv w2 => WP X (d + 1) 48 (64, [some (.ref 1), some (.int p0), none, some (.int (((f 70) - p1) - ((g 3) p0.toNatClampNeg))), some (.int (((((f 71) >>> (((2 : Int32) * (((f 70) - p1) - ((g 3) p0.toNatClampNeg))) &&& (31 : Int32))) : Int32) &&& ((((1 : Int32) <<< (((2 : Int32) * ((g 3) p0.toNatClampNeg)) &&& (31 : Int32))) : Int32) - (1 : Int32))) ^^^ ((g 2) p0.toNatClampNeg)))], rv.toList ++ [], w2) P)))) ∧
    ((¬ (0 ≤ (((f 70) - p1) - ((g 3) p0.toNatClampNeg)))) → P (some (.int 1000000)) (Wd f fl g gl hh v tx)))) :
    WP X (d + 1) 48 (0, [some (.ref 1), some (.int p0), some (.int p1), none, none], [], Wd f fl g gl hh v tx) P := by
  refine WP.run hP_48 7 (c' := (11, [some (.ref 1), some (.int p0), some (.int p1), none, none], [.int p0, .ref 3, .int ((f 70) - p1)], Wd f fl g gl hh v tx)) rfl ?_
  refine WP.of (fun _ _ => Ex.iald hP_48 rfl (Wa_3 _ _ _ _ _ _ _) h.1) ?_
  have h1 := h.2
  refine WP.run hP_48 3 (c' := (15, [some (.ref 1), some (.int p0), some (.int p1), some (.int (((f 70) - p1) - ((g 3) p0.toNatClampNeg))), none], [.int (((f 70) - p1) - ((g 3) p0.toNatClampNeg))], Wd f fl g gl hh v tx)) rfl ?_
  refine WP.br hP_48 (q := 0 ≤ (((f 70) - p1) - ((g 3) p0.toNatClampNeg))) (t := 21) (f := 18) (L := [some (.ref 1), some (.int p0), some (.int p1), some (.int (((f 70) - p1) - ((g 3) p0.toNatClampNeg))), none]) (st := []) (w := Wd f fl g gl hh v tx) rfl (fun c2 => ?_) (fun c2 => ?_)
  · have h3 := h1.1 c2
    refine WP.run hP_48 11 (c' := (36, [some (.ref 1), some (.int p0), none, some (.int (((f 70) - p1) - ((g 3) p0.toNatClampNeg))), none], [.int p0, .ref 3, .int 2, .int 1, .int (((f 71) >>> (((2 : Int32) * (((f 70) - p1) - ((g 3) p0.toNatClampNeg))) &&& (31 : Int32))) : Int32)], Wd f fl g gl hh v tx)) rfl ?_
    refine WP.of (fun _ _ => Ex.iald hP_48 rfl (Wa_3 _ _ _ _ _ _ _) h3.1) ?_
    have h4 := h3.2
    refine WP.run hP_48 8 (c' := (47, [some (.ref 1), some (.int p0), none, some (.int (((f 70) - p1) - ((g 3) p0.toNatClampNeg))), none], [.int p0, .ref 2, .int ((((f 71) >>> (((2 : Int32) * (((f 70) - p1) - ((g 3) p0.toNatClampNeg))) &&& (31 : Int32))) : Int32) &&& ((((1 : Int32) <<< (((2 : Int32) * ((g 3) p0.toNatClampNeg)) &&& (31 : Int32))) : Int32) - (1 : Int32)))], Wd f fl g gl hh v tx)) rfl ?_
    refine WP.of (fun _ _ => Ex.iald hP_48 rfl (Wa_2 _ _ _ _ _ _ _) h4.1) ?_
    have h5 := h4.2
    refine WP.run hP_48 9 (c' := (61, [some (.ref 1), some (.int p0), none, some (.int (((f 70) - p1) - ((g 3) p0.toNatClampNeg))), some (.int (((((f 71) >>> (((2 : Int32) * (((f 70) - p1) - ((g 3) p0.toNatClampNeg))) &&& (31 : Int32))) : Int32) &&& ((((1 : Int32) <<< (((2 : Int32) * ((g 3) p0.toNatClampNeg)) &&& (31 : Int32))) : Int32) - (1 : Int32))) ^^^ ((g 2) p0.toNatClampNeg)))], [.int (((((((f 71) >>> (((2 : Int32) * (((f 70) - p1) - ((g 3) p0.toNatClampNeg))) &&& (31 : Int32))) : Int32) &&& ((((1 : Int32) <<< (((2 : Int32) * ((g 3) p0.toNatClampNeg)) &&& (31 : Int32))) : Int32) - (1 : Int32))) ^^^ ((g 2) p0.toNatClampNeg)) ||| (((((((f 71) >>> (((2 : Int32) * (((f 70) - p1) - ((g 3) p0.toNatClampNeg))) &&& (31 : Int32))) : Int32) &&& ((((1 : Int32) <<< (((2 : Int32) * ((g 3) p0.toNatClampNeg)) &&& (31 : Int32))) : Int32) - (1 : Int32))) ^^^ ((g 2) p0.toNatClampNeg)) >>> ((1 : Int32) &&& (31 : Int32))) : Int32)) &&& (85 : Int32))], Wd f fl g gl hh v tx)) rfl ?_
    refine WP.call hP_48 hP_256 (as := [.int (((((((f 71) >>> (((2 : Int32) * (((f 70) - p1) - ((g 3) p0.toNatClampNeg))) &&& (31 : Int32))) : Int32) &&& ((((1 : Int32) <<< (((2 : Int32) * ((g 3) p0.toNatClampNeg)) &&& (31 : Int32))) : Int32) - (1 : Int32))) ^^^ ((g 2) p0.toNatClampNeg)) ||| (((((((f 71) >>> (((2 : Int32) * (((f 70) - p1) - ((g 3) p0.toNatClampNeg))) &&& (31 : Int32))) : Int32) &&& ((((1 : Int32) <<< (((2 : Int32) * ((g 3) p0.toNatClampNeg)) &&& (31 : Int32))) : Int32) - (1 : Int32))) ^^^ ((g 2) p0.toNatClampNeg)) >>> ((1 : Int32) &&& (31 : Int32))) : Int32)) &&& (85 : Int32))]) (pc' := 64) (L' := [some (.ref 1), some (.int p0), none, some (.int (((f 70) - p1) - ((g 3) p0.toNatClampNeg))), some (.int (((((f 71) >>> (((2 : Int32) * (((f 70) - p1) - ((g 3) p0.toNatClampNeg))) &&& (31 : Int32))) : Int32) &&& ((((1 : Int32) <<< (((2 : Int32) * ((g 3) p0.toNatClampNeg)) &&& (31 : Int32))) : Int32) - (1 : Int32))) ^^^ ((g 2) p0.toNatClampNeg)))]) (st' := []) (w1 := Wd f fl g gl hh v tx) rfl ⟨Nat.le_of_ble_eq_true rfl, Nat.le_of_ble_eq_true rfl⟩ rfl ?_
    exact h5
  · have h6 := h1.2 c2
    refine WP.run hP_48 1 (c' := (20, [some (.ref 1), some (.int p0), some (.int p1), some (.int (((f 70) - p1) - ((g 3) p0.toNatClampNeg))), none], [.int 1000000], Wd f fl g gl hh v tx)) rfl ?_
    exact WP.retI hP_48 rfl rfl h6

set_option maxRecDepth 20000 in
theorem b_yst_others_1_64 (X : mm_X) (d : Nat) (f : Nat → Int32) (fl : Nat → Int64) (g : Nat → Nat → Int32) (gl : Nat → Nat → Int64) (hh : Nat → Nat → Option Nat) (v : Nat → Value) (tx : mm_W) (l1 : Int32) (l3 : Int32) (l4 : Int32) (s0 : Int32)  (P : Option Value → mm_W → Prop)
    (h : P (some (.int s0)) (Wd f fl g gl hh v tx)) :
    WP X (d) 48 (64, [some (.ref 1), some (.int l1), none, some (.int l3), some (.int l4)], [.int s0], Wd f fl g gl hh v tx) P := by
  exact WP.retI hP_48 rfl rfl h

set_option maxRecDepth 20000 in
theorem b_yst_add_1_0 (X : mm_X) (d : Nat) (f : Nat → Int32) (fl : Nat → Int64) (g : Nat → Nat → Int32) (gl : Nat → Nat → Int64) (hh : Nat → Nat → Option Nat) (v : Nat → Value) (tx : mm_W) (p0 : Int32)  (P : Option Value → mm_W → Prop)
    (h : P none (Wd (va_up (va_up f 71 ((((f 71) <<< ((2 : Int32) &&& (31 : Int32))) : Int32) ||| p0)) 70 ((f 70) + (1 : Int32))) fl g gl hh v tx)) :
    WP X (d) 49 (0, [some (.ref 1), some (.int p0)], [], Wd f fl g gl hh v tx) P := by
  refine WP.run hP_49 14 (c' := (22, [some (.ref 1), some (.int p0)], [], Wd (va_up (va_up f 71 ((((f 71) <<< ((2 : Int32) &&& (31 : Int32))) : Int32) ||| p0)) 70 ((f 70) + (1 : Int32))) fl g gl hh v tx)) rfl ?_
  exact WP.ret hP_49 (r := none) (w' := Wd (va_up (va_up f 71 ((((f 71) <<< ((2 : Int32) &&& (31 : Int32))) : Int32) ||| p0)) 70 ((f 70) + (1 : Int32))) fl g gl hh v tx) rfl h

set_option maxRecDepth 20000 in
theorem b_yst_lawInForce_19_0 (X : mm_X) (d : Nat) (f : Nat → Int32) (fl : Nat → Int64) (g : Nat → Nat → Int32) (gl : Nat → Nat → Int64) (hh : Nat → Nat → Option Nat) (v : Nat → Value) (tx : mm_W)   (P : Option Value → mm_W → Prop)
    (h : ((0 ≤ (f 1228) ∧ (f 1228) < (f 1226)) → ((¬ ((f 1228) < 0 ∨ 6 ≤ (f 1228).toNatClampNeg)) ∧ P (some ((mm_rf ((hh 25) (f 1228).toNatClampNeg)))) (Wd f fl g gl hh v tx))) ∧
    ((¬ (0 ≤ (f 1228) ∧ (f 1228) < (f 1226))) → P (some (.null)) (Wd f fl g gl hh v tx))) :
    WP X (d + 1) 46 (0, [some (.ref 19)], [], Wd f fl g gl hh v tx) P := by
  refine WP.run hP_46 4 (c' := (8, [some (.ref 19)], [.int (f 1226), .int (f 1228)], Wd f fl g gl hh v tx)) rfl ?_
  refine WP.call hP_46 hP_99 (as := [.int (f 1228), .int (f 1226)]) (pc' := 11) (L' := [some (.ref 19)]) (st' := []) (w1 := Wd f fl g gl hh v tx) rfl ⟨Nat.le_of_ble_eq_true rfl, Nat.le_of_ble_eq_true rfl⟩ rfl (b_within_m X (d) f fl g gl hh v tx (f 1228) (f 1226) _ ?_)
  refine ⟨fun c1 => ?_, fun c1 => ?_⟩
  · have h2 := h.1 c1
    refine WP.run hP_46 5 (c' := (22, [some (.ref 19)], [.int (f 1228), .ref 25], Wd f fl g gl hh v tx)) rfl ?_
    refine WP.of (fun _ _ => Ex.aald4 hP_46 rfl (Wa_25 _ _ _ _ _ _ _) h2.1) ?_
    have h3 := h2.2
    refine WP.run hP_46 1 (c' := (27, [some (.ref 19)], [(mm_rf ((hh 25) (f 1228).toNatClampNeg))], Wd f fl g gl hh v tx)) rfl ?_
    exact WP.retV hP_46 rfl rfl h3
  · have h4 := h.2 c1
    refine WP.run hP_46 2 (c' := (27, [none], [.null], Wd f fl g gl hh v tx)) rfl ?_
    exact WP.ret hP_46 (r := some (.null)) (w' := Wd f fl g gl hh v tx) rfl h4

set_option maxRecDepth 20000 in
theorem b_yst_others_19_0 (X : mm_X) (d : Nat) (f : Nat → Int32) (fl : Nat → Int64) (g : Nat → Nat → Int32) (gl : Nat → Nat → Int64) (hh : Nat → Nat → Option Nat) (v : Nat → Value) (tx : mm_W) (p0 : Int32) (p1 : Int32)  (P : Option Value → mm_W → Prop)
    (h : (¬ (p0 < 0 ∨ 8 ≤ p0.toNatClampNeg)) ∧ (((0 ≤ (((f 1222) - p1) - ((g 21) p0.toNatClampNeg))) → ((¬ (p0 < 0 ∨ 8 ≤ p0.toNatClampNeg)) ∧ ((¬ (p0 < 0 ∨ 8 ≤ p0.toNatClampNeg)) ∧ WP X (d) 256 (0, [some (.int (((((((f 1223) >>> (((2 : Int32) * (((f 1222) - p1) - ((g 21) p0.toNatClampNeg))) &&& (31 : Int32))) : Int32) &&& ((((1 : Int32) <<< (((2 : Int32) * ((g 21) p0.toNatClampNeg)) &&& (31 : Int32))) : Int32) - (1 : Int32))) ^^^ ((g 20) p0.toNatClampNeg)) ||| (((((((f 1223) >>> (((2 : Int32) * (((f 1222) - p1) - ((g 21) p0.toNatClampNeg))) &&& (31 : Int32))) : Int32) &&& ((((1 : Int32) <<< (((2 : Int32) * ((g 21) p0.toNatClampNeg)) &&& (31 : Int32))) : Int32) - (1 : Int32))) ^^^ ((g 20) p0.toNatClampNeg)) >>> ((1 : Int32) &&& (31 : Int32))) : Int32)) &&& (85 : Int32)))], [], Wd f fl g gl hh v tx) (fun rv w2 => WP X (d + 1) 48 (64, [some (.ref 19), some (.int p0), none, some (.int (((f 1222) - p1) - ((g 21) p0.toNatClampNeg))), some (.int (((((f 1223) >>> (((2 : Int32) * (((f 1222) - p1) - ((g 21) p0.toNatClampNeg))) &&& (31 : Int32))) : Int32) &&& ((((1 : Int32) <<< (((2 : Int32) * ((g 21) p0.toNatClampNeg)) &&& (31 : Int32))) : Int32) - (1 : Int32))) ^^^ ((g 20) p0.toNatClampNeg)))], rv.toList ++ [], w2) P)))) ∧
    ((¬ (0 ≤ (((f 1222) - p1) - ((g 21) p0.toNatClampNeg)))) → P (some (.int 1000000)) (Wd f fl g gl hh v tx)))) :
    WP X (d + 1) 48 (0, [some (.ref 19), some (.int p0), some (.int p1), none, none], [], Wd f fl g gl hh v tx) P := by
  refine WP.run hP_48 7 (c' := (11, [some (.ref 19), some (.int p0), some (.int p1), none, none], [.int p0, .ref 21, .int ((f 1222) - p1)], Wd f fl g gl hh v tx)) rfl ?_
  refine WP.of (fun _ _ => Ex.iald hP_48 rfl (Wa_21 _ _ _ _ _ _ _) h.1) ?_
  have h1 := h.2
  refine WP.run hP_48 3 (c' := (15, [some (.ref 19), some (.int p0), some (.int p1), some (.int (((f 1222) - p1) - ((g 21) p0.toNatClampNeg))), none], [.int (((f 1222) - p1) - ((g 21) p0.toNatClampNeg))], Wd f fl g gl hh v tx)) rfl ?_
  refine WP.br hP_48 (q := 0 ≤ (((f 1222) - p1) - ((g 21) p0.toNatClampNeg))) (t := 21) (f := 18) (L := [some (.ref 19), some (.int p0), some (.int p1), some (.int (((f 1222) - p1) - ((g 21) p0.toNatClampNeg))), none]) (st := []) (w := Wd f fl g gl hh v tx) rfl (fun c2 => ?_) (fun c2 => ?_)
  · have h3 := h1.1 c2
    refine WP.run hP_48 11 (c' := (36, [some (.ref 19), some (.int p0), none, some (.int (((f 1222) - p1) - ((g 21) p0.toNatClampNeg))), none], [.int p0, .ref 21, .int 2, .int 1, .int (((f 1223) >>> (((2 : Int32) * (((f 1222) - p1) - ((g 21) p0.toNatClampNeg))) &&& (31 : Int32))) : Int32)], Wd f fl g gl hh v tx)) rfl ?_
    refine WP.of (fun _ _ => Ex.iald hP_48 rfl (Wa_21 _ _ _ _ _ _ _) h3.1) ?_
    have h4 := h3.2
    refine WP.run hP_48 8 (c' := (47, [some (.ref 19), some (.int p0), none, some (.int (((f 1222) - p1) - ((g 21) p0.toNatClampNeg))), none], [.int p0, .ref 20, .int ((((f 1223) >>> (((2 : Int32) * (((f 1222) - p1) - ((g 21) p0.toNatClampNeg))) &&& (31 : Int32))) : Int32) &&& ((((1 : Int32) <<< (((2 : Int32) * ((g 21) p0.toNatClampNeg)) &&& (31 : Int32))) : Int32) - (1 : Int32)))], Wd f fl g gl hh v tx)) rfl ?_
    refine WP.of (fun _ _ => Ex.iald hP_48 rfl (Wa_20 _ _ _ _ _ _ _) h4.1) ?_
    have h5 := h4.2
    refine WP.run hP_48 9 (c' := (61, [some (.ref 19), some (.int p0), none, some (.int (((f 1222) - p1) - ((g 21) p0.toNatClampNeg))), some (.int (((((f 1223) >>> (((2 : Int32) * (((f 1222) - p1) - ((g 21) p0.toNatClampNeg))) &&& (31 : Int32))) : Int32) &&& ((((1 : Int32) <<< (((2 : Int32) * ((g 21) p0.toNatClampNeg)) &&& (31 : Int32))) : Int32) - (1 : Int32))) ^^^ ((g 20) p0.toNatClampNeg)))], [.int (((((((f 1223) >>> (((2 : Int32) * (((f 1222) - p1) - ((g 21) p0.toNatClampNeg))) &&& (31 : Int32))) : Int32) &&& ((((1 : Int32) <<< (((2 : Int32) * ((g 21) p0.toNatClampNeg)) &&& (31 : Int32))) : Int32) - (1 : Int32))) ^^^ ((g 20) p0.toNatClampNeg)) ||| (((((((f 1223) >>> (((2 : Int32) * (((f 1222) - p1) - ((g 21) p0.toNatClampNeg))) &&& (31 : Int32))) : Int32) &&& ((((1 : Int32) <<< (((2 : Int32) * ((g 21) p0.toNatClampNeg)) &&& (31 : Int32))) : Int32) - (1 : Int32))) ^^^ ((g 20) p0.toNatClampNeg)) >>> ((1 : Int32) &&& (31 : Int32))) : Int32)) &&& (85 : Int32))], Wd f fl g gl hh v tx)) rfl ?_
    refine WP.call hP_48 hP_256 (as := [.int (((((((f 1223) >>> (((2 : Int32) * (((f 1222) - p1) - ((g 21) p0.toNatClampNeg))) &&& (31 : Int32))) : Int32) &&& ((((1 : Int32) <<< (((2 : Int32) * ((g 21) p0.toNatClampNeg)) &&& (31 : Int32))) : Int32) - (1 : Int32))) ^^^ ((g 20) p0.toNatClampNeg)) ||| (((((((f 1223) >>> (((2 : Int32) * (((f 1222) - p1) - ((g 21) p0.toNatClampNeg))) &&& (31 : Int32))) : Int32) &&& ((((1 : Int32) <<< (((2 : Int32) * ((g 21) p0.toNatClampNeg)) &&& (31 : Int32))) : Int32) - (1 : Int32))) ^^^ ((g 20) p0.toNatClampNeg)) >>> ((1 : Int32) &&& (31 : Int32))) : Int32)) &&& (85 : Int32))]) (pc' := 64) (L' := [some (.ref 19), some (.int p0), none, some (.int (((f 1222) - p1) - ((g 21) p0.toNatClampNeg))), some (.int (((((f 1223) >>> (((2 : Int32) * (((f 1222) - p1) - ((g 21) p0.toNatClampNeg))) &&& (31 : Int32))) : Int32) &&& ((((1 : Int32) <<< (((2 : Int32) * ((g 21) p0.toNatClampNeg)) &&& (31 : Int32))) : Int32) - (1 : Int32))) ^^^ ((g 20) p0.toNatClampNeg)))]) (st' := []) (w1 := Wd f fl g gl hh v tx) rfl ⟨Nat.le_of_ble_eq_true rfl, Nat.le_of_ble_eq_true rfl⟩ rfl ?_
    exact h5
  · have h6 := h1.2 c2
    refine WP.run hP_48 1 (c' := (20, [some (.ref 19), some (.int p0), some (.int p1), some (.int (((f 1222) - p1) - ((g 21) p0.toNatClampNeg))), none], [.int 1000000], Wd f fl g gl hh v tx)) rfl ?_
    exact WP.retI hP_48 rfl rfl h6

set_option maxRecDepth 20000 in
theorem b_yst_others_19_64 (X : mm_X) (d : Nat) (f : Nat → Int32) (fl : Nat → Int64) (g : Nat → Nat → Int32) (gl : Nat → Nat → Int64) (hh : Nat → Nat → Option Nat) (v : Nat → Value) (tx : mm_W) (l1 : Int32) (l3 : Int32) (l4 : Int32) (s0 : Int32)  (P : Option Value → mm_W → Prop)
    (h : P (some (.int s0)) (Wd f fl g gl hh v tx)) :
    WP X (d) 48 (64, [some (.ref 19), some (.int l1), none, some (.int l3), some (.int l4)], [.int s0], Wd f fl g gl hh v tx) P := by
  exact WP.retI hP_48 rfl rfl h

set_option maxRecDepth 20000 in
theorem b_yst_add_19_0 (X : mm_X) (d : Nat) (f : Nat → Int32) (fl : Nat → Int64) (g : Nat → Nat → Int32) (gl : Nat → Nat → Int64) (hh : Nat → Nat → Option Nat) (v : Nat → Value) (tx : mm_W) (p0 : Int32)  (P : Option Value → mm_W → Prop)
    (h : P none (Wd (va_up (va_up f 1223 ((((f 1223) <<< ((2 : Int32) &&& (31 : Int32))) : Int32) ||| p0)) 1222 ((f 1222) + (1 : Int32))) fl g gl hh v tx)) :
    WP X (d) 49 (0, [some (.ref 19), some (.int p0)], [], Wd f fl g gl hh v tx) P := by
  refine WP.run hP_49 14 (c' := (22, [some (.ref 19), some (.int p0)], [], Wd (va_up (va_up f 1223 ((((f 1223) <<< ((2 : Int32) &&& (31 : Int32))) : Int32) ||| p0)) 1222 ((f 1222) + (1 : Int32))) fl g gl hh v tx)) rfl ?_
  exact WP.ret hP_49 (r := none) (w' := Wd (va_up (va_up f 1223 ((((f 1223) <<< ((2 : Int32) &&& (31 : Int32))) : Int32) ||| p0)) 1222 ((f 1222) + (1 : Int32))) fl g gl hh v tx) rfl h

set_option maxRecDepth 20000 in
theorem b_yst_dropLast_1_0 (X : mm_X) (d : Nat) (f : Nat → Int32) (fl : Nat → Int64) (g : Nat → Nat → Int32) (gl : Nat → Nat → Int64) (hh : Nat → Nat → Option Nat) (v : Nat → Value) (tx : mm_W)   (P : Option Value → mm_W → Prop)
    (h : P none (Wd (va_up (va_up f 71 (((f 71) >>> ((2 : Int32) &&& (31 : Int32))) : Int32)) 70 ((f 70) - (1 : Int32))) fl g gl hh v tx)) :
    WP X (d) 50 (0, [some (.ref 1)], [], Wd f fl g gl hh v tx) P := by
  refine WP.run hP_50 12 (c' := (20, [some (.ref 1)], [], Wd (va_up (va_up f 71 (((f 71) >>> ((2 : Int32) &&& (31 : Int32))) : Int32)) 70 ((f 70) - (1 : Int32))) fl g gl hh v tx)) rfl ?_
  exact WP.ret hP_50 (r := none) (w' := Wd (va_up (va_up f 71 (((f 71) >>> ((2 : Int32) &&& (31 : Int32))) : Int32)) 70 ((f 70) - (1 : Int32))) fl g gl hh v tx) rfl h

set_option maxRecDepth 20000 in
theorem b_yst_remember_1_0 (X : mm_X) (d : Nat) (f : Nat → Int32) (fl : Nat → Int64) (g : Nat → Nat → Int32) (gl : Nat → Nat → Int64) (hh : Nat → Nat → Option Nat) (v : Nat → Value) (tx : mm_W) (p0 : Int32)  (P : Option Value → mm_W → Prop)
    (h : (((f 78) < 16) → ((¬ ((f 78) < 0 ∨ 16 ≤ (f 78).toNatClampNeg)) ∧ P none (Wd (va_up f 78 ((f 78) + (1 : Int32))) fl (va_up g 9 (upd (g 9) ((f 78).toNatClampNeg) p0)) gl hh v tx))) ∧
    ((¬ ((f 78) < 16)) → P none (Wd (va_up f 78 16) fl (va_up (va_up g 9 (va_cpy (g 9) (g 9) 1 0 15)) 9 (upd (va_cpy (g 9) (g 9) 1 0 15) 15 p0)) gl hh v tx))) :
    WP X (d) 51 (0, [some (.ref 1), some (.int p0)], [], Wd f fl g gl hh v tx) P := by
  refine WP.run hP_51 3 (c' := (6, [some (.ref 1), some (.int p0)], [.int 16, .int (f 78)], Wd f fl g gl hh v tx)) rfl ?_
  refine WP.br hP_51 (q := (f 78) < 16) (t := 30) (f := 9) (L := [some (.ref 1), some (.int p0)]) (st := []) (w := Wd f fl g gl hh v tx) rfl (fun c1 => ?_) (fun c1 => ?_)
  · have h2 := h.1 c1
    refine WP.run hP_51 5 (c' := (39, [some (.ref 1), some (.int p0)], [.int p0, .int (f 78), .ref 9], Wd f fl g gl hh v tx)) rfl ?_
    refine WP.of (fun _ _ => Ex.iast hP_51 (w2 := Wd f fl (va_up g 9 (upd (g 9) ((f 78).toNatClampNeg) p0)) gl hh v tx) rfl (Wa_9 _ _ _ _ _ _ _) h2.1 (Ws_9 _ _ _ _ _ _ _ _)) ?_
    have h3 := h2.2
    refine WP.run hP_51 6 (c' := (50, [some (.ref 1), some (.int p0)], [], Wd (va_up f 78 ((f 78) + (1 : Int32))) fl (va_up g 9 (upd (g 9) ((f 78).toNatClampNeg) p0)) gl hh v tx)) rfl ?_
    exact WP.ret hP_51 (r := none) (w' := Wd (va_up f 78 ((f 78) + (1 : Int32))) fl (va_up g 9 (upd (g 9) ((f 78).toNatClampNeg) p0)) gl hh v tx) rfl h3
  · have h4 := h.2 c1
    refine WP.run hP_51 7 (c' := (21, [some (.ref 1), some (.int p0)], [.int 15, .int 0, .ref 9, .int 1, .ref 9], Wd f fl g gl hh v tx)) rfl ?_
    refine WP.of (fun _ _ => Ex.acopy hP_51 (w2 := Wd f fl (va_up g 9 (va_cpy (g 9) (g 9) 1 0 15)) gl hh v tx) rfl rfl (Wa_9 _ _ _ _ _ _ _) (Wa_9 _ _ _ _ _ _ _) (by decide) (Ws_9 _ _ _ _ _ _ _ _)) ?_
    refine WP.run hP_51 8 (c' := (39, [some (.ref 1), some (.int p0)], [.int p0, .int 15, .ref 9], Wd (va_up f 78 15) fl (va_up g 9 (va_cpy (g 9) (g 9) 1 0 15)) gl hh v tx)) rfl ?_
    refine WP.of (fun _ _ => Ex.iast hP_51 (w2 := Wd (va_up f 78 15) fl (va_up (va_up g 9 (va_cpy (g 9) (g 9) 1 0 15)) 9 (upd (va_cpy (g 9) (g 9) 1 0 15) 15 p0)) gl hh v tx) rfl (Wa_9 _ _ _ _ _ _ _) (by decide) (Ws_9 _ _ _ _ _ _ _ _)) ?_
    refine WP.run hP_51 6 (c' := (50, [some (.ref 1), some (.int p0)], [], Wd (va_up f 78 16) fl (va_up (va_up g 9 (va_cpy (g 9) (g 9) 1 0 15)) 9 (upd (va_cpy (g 9) (g 9) 1 0 15) 15 p0)) gl hh v tx)) rfl ?_
    exact WP.ret hP_51 (r := none) (w' := Wd (va_up f 78 16) fl (va_up (va_up g 9 (va_cpy (g 9) (g 9) 1 0 15)) 9 (upd (va_cpy (g 9) (g 9) 1 0 15) 15 p0)) gl hh v tx) rfl h4

set_option maxRecDepth 20000 in
theorem b_yst_unwind_1_0 (X : mm_X) (d : Nat) (f : Nat → Int32) (fl : Nat → Int64) (g : Nat → Nat → Int32) (gl : Nat → Nat → Int64) (hh : Nat → Nat → Option Nat) (v : Nat → Value) (tx : mm_W)   (P : Option Value → mm_W → Prop)
    (h : ((0 < (f 78)) → ((¬ (((f 78) - (1 : Int32)) < 0 ∨ 16 ≤ ((f 78) - (1 : Int32)).toNatClampNeg)) ∧ ((¬ (((f 78) - (1 : Int32)) < 0 ∨ 16 ≤ ((f 78) - (1 : Int32)).toNatClampNeg)) ∧ ((((((g 9) ((f 78) - (1 : Int32)).toNatClampNeg) &&& (3 : Int32)) = 0) → P (some (.int (((g 9) ((f 78) - (1 : Int32)).toNatClampNeg) &&& (3 : Int32)))) (Wd (va_up (va_up (va_up f 78 ((f 78) - (1 : Int32))) 71 (((f 71) >>> ((2 : Int32) &&& (31 : Int32))) : Int32)) 70 ((f 70) - (1 : Int32))) fl g gl hh v tx)) ∧
      ((¬ (((g 9) ((f 78) - (1 : Int32)).toNatClampNeg) &&& (3 : Int32)) = 0) → ((((((g 9) ((f 78) - (1 : Int32)).toNatClampNeg) &&& (3 : Int32)) = 1) → P (some (.int (((g 9) ((f 78) - (1 : Int32)).toNatClampNeg) &&& (3 : Int32)))) (Wd (va_up (va_up (va_up f 78 ((f 78) - (1 : Int32))) 71 ((((f 71) <<< ((2 : Int32) &&& (31 : Int32))) : Int32) ||| ((((g 9) ((f 78) - (1 : Int32)).toNatClampNeg) >>> ((2 : Int32) &&& (31 : Int32))) : Int32))) 70 ((f 70) + (1 : Int32))) fl g gl hh v tx)) ∧
        ((¬ (((g 9) ((f 78) - (1 : Int32)).toNatClampNeg) &&& (3 : Int32)) = 1) → ((((((g 9) ((f 78) - (1 : Int32)).toNatClampNeg) &&& (3 : Int32)) = 2) → (((0 ≤ (((((g 9) ((f 78) - (1 : Int32)).toNatClampNeg) >>> ((2 : Int32) &&& (31 : Int32))) : Int32) &&& (3 : Int32)) ∧ (((((g 9) ((f 78) - (1 : Int32)).toNatClampNeg) >>> ((2 : Int32) &&& (31 : Int32))) : Int32) &&& (3 : Int32)) < (f 68)) → ((¬ ((((((g 9) ((f 78) - (1 : Int32)).toNatClampNeg) >>> ((2 : Int32) &&& (31 : Int32))) : Int32) &&& (3 : Int32)) < 0 ∨ 3 ≤ (((((g 9) ((f 78) - (1 : Int32)).toNatClampNeg) >>> ((2 : Int32) &&& (31 : Int32))) : Int32) &&& (3 : Int32)).toNatClampNeg)) ∧ P (some (.int (((g 9) ((f 78) - (1 : Int32)).toNatClampNeg) &&& (3 : Int32)))) (Wd (va_up f 78 ((f 78) - (1 : Int32))) fl (va_up g 5 (upd (g 5) ((((((g 9) ((f 78) - (1 : Int32)).toNatClampNeg) >>> ((2 : Int32) &&& (31 : Int32))) : Int32) &&& (3 : Int32)).toNatClampNeg) ((((((g 9) ((f 78) - (1 : Int32)).toNatClampNeg) >>> ((2 : Int32) &&& (31 : Int32))) : Int32) >>> ((2 : Int32) &&& (31 : Int32))) : Int32))) gl hh v tx))) ∧
            ((¬ (0 ≤ (((((g 9) ((f 78) - (1 : Int32)).toNatClampNeg) >>> ((2 : Int32) &&& (31 : Int32))) : Int32) &&& (3 : Int32)) ∧ (((((g 9) ((f 78) - (1 : Int32)).toNatClampNeg) >>> ((2 : Int32) &&& (31 : Int32))) : Int32) &&& (3 : Int32)) < (f 68))) → P (some (.int (((g 9) ((f 78) - (1 : Int32)).toNatClampNeg) &&& (3 : Int32)))) (Wd (va_up f 78 ((f 78) - (1 : Int32))) fl g gl hh v tx)))) ∧
          ((¬ (((g 9) ((f 78) - (1 : Int32)).toNatClampNeg) &&& (3 : Int32)) = 2) → P (some (.int (((g 9) ((f 78) - (1 : Int32)).toNatClampNeg) &&& (3 : Int32)))) (Wd (va_up f 78 ((f 78) - (1 : Int32))) fl (va_up g 8 (upd (g 8) 0 (((g 8) 0) - (1 : Int32)))) gl hh v tx)))))))))) ∧
    ((¬ (0 < (f 78))) → P (some (.int (-3))) (Wd f fl g gl hh v tx))) :
    WP X (d + 1) 52 (0, [some (.ref 1), none, none], [], Wd f fl g gl hh v tx) P := by
  refine WP.run hP_52 2 (c' := (4, [some (.ref 1), none, none], [.int (f 78)], Wd f fl g gl hh v tx)) rfl ?_
  refine WP.br hP_52 (q := 0 < (f 78)) (t := 10) (f := 7) (L := [some (.ref 1), none, none]) (st := []) (w := Wd f fl g gl hh v tx) rfl (fun c1 => ?_) (fun c1 => ?_)
  · have h2 := h.1 c1
    refine WP.run hP_52 10 (c' := (28, [some (.ref 1), none, none], [.int ((f 78) - (1 : Int32)), .ref 9], Wd (va_up f 78 ((f 78) - (1 : Int32))) fl g gl hh v tx)) rfl ?_
    refine WP.of (fun _ _ => Ex.iald hP_52 rfl (Wa_9 _ _ _ _ _ _ _) h2.1) ?_
    have h3 := h2.2
    refine WP.run hP_52 7 (c' := (40, [some (.ref 1), some (.int (((g 9) ((f 78) - (1 : Int32)).toNatClampNeg) &&& (3 : Int32))), none], [.int ((f 78) - (1 : Int32)), .ref 9], Wd (va_up f 78 ((f 78) - (1 : Int32))) fl g gl hh v tx)) rfl ?_
    refine WP.of (fun _ _ => Ex.iald hP_52 rfl (Wa_9 _ _ _ _ _ _ _) h3.1) ?_
    have h4 := h3.2
    refine WP.run hP_52 4 (c' := (45, [some (.ref 1), some (.int (((g 9) ((f 78) - (1 : Int32)).toNatClampNeg) &&& (3 : Int32))), some (.int ((((g 9) ((f 78) - (1 : Int32)).toNatClampNeg) >>> ((2 : Int32) &&& (31 : Int32))) : Int32))], [.int (((g 9) ((f 78) - (1 : Int32)).toNatClampNeg) &&& (3 : Int32))], Wd (va_up f 78 ((f 78) - (1 : Int32))) fl g gl hh v tx)) rfl ?_
    refine WP.run hP_52 1 (c' := (mm_sw (((g 9) ((f 78) - (1 : Int32)).toNatClampNeg) &&& (3 : Int32)) 0 [72, 79, 87] 114, [some (.ref 1), some (.int (((g 9) ((f 78) - (1 : Int32)).toNatClampNeg) &&& (3 : Int32))), some (.int ((((g 9) ((f 78) - (1 : Int32)).toNatClampNeg) >>> ((2 : Int32) &&& (31 : Int32))) : Int32))], [], Wd (va_up f 78 ((f 78) - (1 : Int32))) fl g gl hh v tx)) rfl ?_
    refine WP.sw (lo' := 1) rfl (fun c5 => ?_) (fun c5 => ?_)
    · have h6 := h4.1 c5
      refine WP.run hP_52 1 (c' := (73, [some (.ref 1), some (.int (((g 9) ((f 78) - (1 : Int32)).toNatClampNeg) &&& (3 : Int32))), none], [.ref 1], Wd (va_up f 78 ((f 78) - (1 : Int32))) fl g gl hh v tx)) rfl ?_
      refine WP.call hP_52 hP_50 (as := [.ref 1]) (pc' := 76) (L' := [some (.ref 1), some (.int (((g 9) ((f 78) - (1 : Int32)).toNatClampNeg) &&& (3 : Int32))), none]) (st' := []) (w1 := Wd (va_up f 78 ((f 78) - (1 : Int32))) fl g gl hh v tx) rfl ⟨Nat.le_of_ble_eq_true rfl, Nat.le_of_ble_eq_true rfl⟩ rfl (b_yst_dropLast_1_0 X (d) (va_up f 78 ((f 78) - (1 : Int32))) fl g gl hh v tx  _ ?_)
      refine WP.run hP_52 2 (c' := (125, [none, some (.int (((g 9) ((f 78) - (1 : Int32)).toNatClampNeg) &&& (3 : Int32))), none], [.int (((g 9) ((f 78) - (1 : Int32)).toNatClampNeg) &&& (3 : Int32))], Wd (va_up (va_up (va_up f 78 ((f 78) - (1 : Int32))) 71 (((f 71) >>> ((2 : Int32) &&& (31 : Int32))) : Int32)) 70 ((f 70) - (1 : Int32))) fl g gl hh v tx)) rfl ?_
      exact WP.retI hP_52 rfl rfl h6
    · have h7 := h4.2 c5
      refine WP.sw (lo' := 2) rfl (fun c8 => ?_) (fun c8 => ?_)
      · have h9 := h7.1 c8
        refine WP.run hP_52 2 (c' := (81, [some (.ref 1), some (.int (((g 9) ((f 78) - (1 : Int32)).toNatClampNeg) &&& (3 : Int32))), some (.int ((((g 9) ((f 78) - (1 : Int32)).toNatClampNeg) >>> ((2 : Int32) &&& (31 : Int32))) : Int32))], [.int ((((g 9) ((f 78) - (1 : Int32)).toNatClampNeg) >>> ((2 : Int32) &&& (31 : Int32))) : Int32), .ref 1], Wd (va_up f 78 ((f 78) - (1 : Int32))) fl g gl hh v tx)) rfl ?_
        refine WP.call hP_52 hP_49 (as := [.ref 1, .int ((((g 9) ((f 78) - (1 : Int32)).toNatClampNeg) >>> ((2 : Int32) &&& (31 : Int32))) : Int32)]) (pc' := 84) (L' := [some (.ref 1), some (.int (((g 9) ((f 78) - (1 : Int32)).toNatClampNeg) &&& (3 : Int32))), some (.int ((((g 9) ((f 78) - (1 : Int32)).toNatClampNeg) >>> ((2 : Int32) &&& (31 : Int32))) : Int32))]) (st' := []) (w1 := Wd (va_up f 78 ((f 78) - (1 : Int32))) fl g gl hh v tx) rfl ⟨Nat.le_of_ble_eq_true rfl, Nat.le_of_ble_eq_true rfl⟩ rfl (b_yst_add_1_0 X (d) (va_up f 78 ((f 78) - (1 : Int32))) fl g gl hh v tx ((((g 9) ((f 78) - (1 : Int32)).toNatClampNeg) >>> ((2 : Int32) &&& (31 : Int32))) : Int32) _ ?_)
        refine WP.run hP_52 2 (c' := (125, [none, some (.int (((g 9) ((f 78) - (1 : Int32)).toNatClampNeg) &&& (3 : Int32))), none], [.int (((g 9) ((f 78) - (1 : Int32)).toNatClampNeg) &&& (3 : Int32))], Wd (va_up (va_up (va_up f 78 ((f 78) - (1 : Int32))) 71 ((((f 71) <<< ((2 : Int32) &&& (31 : Int32))) : Int32) ||| ((((g 9) ((f 78) - (1 : Int32)).toNatClampNeg) >>> ((2 : Int32) &&& (31 : Int32))) : Int32))) 70 ((f 70) + (1 : Int32))) fl g gl hh v tx)) rfl ?_
        exact WP.retI hP_52 rfl rfl h9
      · have h10 := h7.2 c8
        refine WP.sw (lo' := 3) rfl (fun c11 => ?_) (fun c11 => ?_)
        · have h12 := h10.1 c11
          refine WP.run hP_52 5 (c' := (94, [some (.ref 1), some (.int (((g 9) ((f 78) - (1 : Int32)).toNatClampNeg) &&& (3 : Int32))), some (.int ((((g 9) ((f 78) - (1 : Int32)).toNatClampNeg) >>> ((2 : Int32) &&& (31 : Int32))) : Int32))], [.int (f 68), .int (((((g 9) ((f 78) - (1 : Int32)).toNatClampNeg) >>> ((2 : Int32) &&& (31 : Int32))) : Int32) &&& (3 : Int32))], Wd (va_up f 78 ((f 78) - (1 : Int32))) fl g gl hh v tx)) rfl ?_
          refine WP.call hP_52 hP_99 (as := [.int (((((g 9) ((f 78) - (1 : Int32)).toNatClampNeg) >>> ((2 : Int32) &&& (31 : Int32))) : Int32) &&& (3 : Int32)), .int (f 68)]) (pc' := 97) (L' := [some (.ref 1), some (.int (((g 9) ((f 78) - (1 : Int32)).toNatClampNeg) &&& (3 : Int32))), some (.int ((((g 9) ((f 78) - (1 : Int32)).toNatClampNeg) >>> ((2 : Int32) &&& (31 : Int32))) : Int32))]) (st' := []) (w1 := Wd (va_up f 78 ((f 78) - (1 : Int32))) fl g gl hh v tx) rfl ⟨Nat.le_of_ble_eq_true rfl, Nat.le_of_ble_eq_true rfl⟩ rfl (b_within_m X (d) (va_up f 78 ((f 78) - (1 : Int32))) fl g gl hh v tx (((((g 9) ((f 78) - (1 : Int32)).toNatClampNeg) >>> ((2 : Int32) &&& (31 : Int32))) : Int32) &&& (3 : Int32)) (f 68) _ ?_)
          refine ⟨fun c13 => ?_, fun c13 => ?_⟩
          · have h14 := h12.1 c13
            refine WP.run hP_52 9 (c' := (110, [some (.ref 1), some (.int (((g 9) ((f 78) - (1 : Int32)).toNatClampNeg) &&& (3 : Int32))), some (.int ((((g 9) ((f 78) - (1 : Int32)).toNatClampNeg) >>> ((2 : Int32) &&& (31 : Int32))) : Int32))], [.int ((((((g 9) ((f 78) - (1 : Int32)).toNatClampNeg) >>> ((2 : Int32) &&& (31 : Int32))) : Int32) >>> ((2 : Int32) &&& (31 : Int32))) : Int32), .int (((((g 9) ((f 78) - (1 : Int32)).toNatClampNeg) >>> ((2 : Int32) &&& (31 : Int32))) : Int32) &&& (3 : Int32)), .ref 5], Wd (va_up f 78 ((f 78) - (1 : Int32))) fl g gl hh v tx)) rfl ?_
            refine WP.of (fun _ _ => Ex.iast hP_52 (w2 := Wd (va_up f 78 ((f 78) - (1 : Int32))) fl (va_up g 5 (upd (g 5) ((((((g 9) ((f 78) - (1 : Int32)).toNatClampNeg) >>> ((2 : Int32) &&& (31 : Int32))) : Int32) &&& (3 : Int32)).toNatClampNeg) ((((((g 9) ((f 78) - (1 : Int32)).toNatClampNeg) >>> ((2 : Int32) &&& (31 : Int32))) : Int32) >>> ((2 : Int32) &&& (31 : Int32))) : Int32))) gl hh v tx) rfl (Wa_5 _ _ _ _ _ _ _) h14.1 (Ws_5 _ _ _ _ _ _ _ _)) ?_
            have h15 := h14.2
            refine WP.run hP_52 2 (c' := (125, [none, some (.int (((g 9) ((f 78) - (1 : Int32)).toNatClampNeg) &&& (3 : Int32))), none], [.int (((g 9) ((f 78) - (1 : Int32)).toNatClampNeg) &&& (3 : Int32))], Wd (va_up f 78 ((f 78) - (1 : Int32))) fl (va_up g 5 (upd (g 5) ((((((g 9) ((f 78) - (1 : Int32)).toNatClampNeg) >>> ((2 : Int32) &&& (31 : Int32))) : Int32) &&& (3 : Int32)).toNatClampNeg) ((((((g 9) ((f 78) - (1 : Int32)).toNatClampNeg) >>> ((2 : Int32) &&& (31 : Int32))) : Int32) >>> ((2 : Int32) &&& (31 : Int32))) : Int32))) gl hh v tx)) rfl ?_
            exact WP.retI hP_52 rfl rfl h15
          · have h16 := h12.2 c13
            refine WP.run hP_52 2 (c' := (125, [none, some (.int (((g 9) ((f 78) - (1 : Int32)).toNatClampNeg) &&& (3 : Int32))), none], [.int (((g 9) ((f 78) - (1 : Int32)).toNatClampNeg) &&& (3 : Int32))], Wd (va_up f 78 ((f 78) - (1 : Int32))) fl g gl hh v tx)) rfl ?_
            exact WP.retI hP_52 rfl rfl h16
        · have h17 := h10.2 c11
          show WP X _ 52 (114, [some (.ref 1), some (.int (((g 9) ((f 78) - (1 : Int32)).toNatClampNeg) &&& (3 : Int32))), some (.int ((((g 9) ((f 78) - (1 : Int32)).toNatClampNeg) >>> ((2 : Int32) &&& (31 : Int32))) : Int32))], [], Wd (va_up f 78 ((f 78) - (1 : Int32))) fl g gl hh v tx) P
          refine WP.run hP_52 4 (c' := (120, [some (.ref 1), some (.int (((g 9) ((f 78) - (1 : Int32)).toNatClampNeg) &&& (3 : Int32))), none], [.int 0, .ref 8, .int 0, .ref 8], Wd (va_up f 78 ((f 78) - (1 : Int32))) fl g gl hh v tx)) rfl ?_
          refine WP.of (fun _ _ => Ex.iald hP_52 rfl (Wa_8 _ _ _ _ _ _ _) (by decide)) ?_
          show WP X _ 52 (121, [some (.ref 1), some (.int (((g 9) ((f 78) - (1 : Int32)).toNatClampNeg) &&& (3 : Int32))), none], [.int ((g 8) 0), .int 0, .ref 8], Wd (va_up f 78 ((f 78) - (1 : Int32))) fl g gl hh v tx) P
          refine WP.run hP_52 2 (c' := (123, [some (.ref 1), some (.int (((g 9) ((f 78) - (1 : Int32)).toNatClampNeg) &&& (3 : Int32))), none], [.int (((g 8) 0) - (1 : Int32)), .int 0, .ref 8], Wd (va_up f 78 ((f 78) - (1 : Int32))) fl g gl hh v tx)) rfl ?_
          refine WP.of (fun _ _ => Ex.iast hP_52 (w2 := Wd (va_up f 78 ((f 78) - (1 : Int32))) fl (va_up g 8 (upd (g 8) 0 (((g 8) 0) - (1 : Int32)))) gl hh v tx) rfl (Wa_8 _ _ _ _ _ _ _) (by decide) (Ws_8 _ _ _ _ _ _ _ _)) ?_
          refine WP.run hP_52 1 (c' := (125, [none, some (.int (((g 9) ((f 78) - (1 : Int32)).toNatClampNeg) &&& (3 : Int32))), none], [.int (((g 9) ((f 78) - (1 : Int32)).toNatClampNeg) &&& (3 : Int32))], Wd (va_up f 78 ((f 78) - (1 : Int32))) fl (va_up g 8 (upd (g 8) 0 (((g 8) 0) - (1 : Int32)))) gl hh v tx)) rfl ?_
          exact WP.retI hP_52 rfl rfl h17
  · have h18 := h.2 c1
    refine WP.run hP_52 1 (c' := (9, [some (.ref 1), none, none], [.int (-3)], Wd f fl g gl hh v tx)) rfl ?_
    exact WP.retI hP_52 rfl rfl h18

set_option maxRecDepth 20000 in
theorem b_yst_enter_1_0 (X : mm_X) (d : Nat) (f : Nat → Int32) (fl : Nat → Int64) (g : Nat → Nat → Int32) (gl : Nat → Nat → Int64) (hh : Nat → Nat → Option Nat) (v : Nat → Value) (tx : mm_W) (p0 : Int32) (p1 : Int32)  (P : Option Value → mm_W → Prop)
    (h : WP X (d) 47 (8, [some (.ref 1), some (.int p0), some (.int p1), some (.int 0), some (.int 0), some (.int 0), none], [], Wd f fl g gl hh v tx) P) :
    WP X (d) 47 (0, [some (.ref 1), some (.int p0), some (.int p1), none, none, none, none], [], Wd f fl g gl hh v tx) P := by
  refine WP.run hP_47 3 (c' := (3, [some (.ref 1), some (.int p0), some (.int p1), some (.int 0), none, none, none], [.int 0], Wd f fl g gl hh v tx)) rfl ?_
  refine WP.run hP_47 2 (c' := (6, [some (.ref 1), some (.int p0), some (.int p1), some (.int 0), some (.int 0), none, none], [.int 0], Wd f fl g gl hh v tx)) rfl ?_
  refine WP.run hP_47 1 (c' := (8, [some (.ref 1), some (.int p0), some (.int p1), some (.int 0), some (.int 0), some (.int 0), none], [], Wd f fl g gl hh v tx)) rfl ?_
  exact h

set_option maxRecDepth 20000 in
theorem b_yst_enter_1_8 (X : mm_X) (d : Nat) (f : Nat → Int32) (fl : Nat → Int64) (g : Nat → Nat → Int32) (gl : Nat → Nat → Int64) (hh : Nat → Nat → Option Nat) (v : Nat → Value) (tx : mm_W) (l1 : Int32) (l2 : Int32) (l3 : Int32) (l4 : Int32) (l5 : Int32)  (P : Option Value → mm_W → Prop)
    (h : ((4 ≤ l5) → (((l3 = 0) → P (some (.int (-1))) (Wd f fl g gl hh v tx)) ∧
      ((¬ l3 = 0) → (((0 ≤ l1 ∧ l1 < (6 : Int32)) → WP X (d + 1) 47 (92, [some (.ref 1), some (.int l1), none, some (.int l3), some (.int l4), some (.int 0), none], [], Wd f fl g gl hh v tx) P) ∧
        ((¬ (0 ≤ l1 ∧ l1 < (6 : Int32))) → P (some (.int (-1))) (Wd f fl g gl hh v tx)))))) ∧
    ((¬ (4 ≤ l5)) → (((4 < (((l2 >>> (((24 : Int32) - ((8 : Int32) * l5)) &&& (31 : Int32))) : Int32) &&& (255 : Int32))) → P (some (.int (-1))) (Wd f fl g gl hh v tx)) ∧
      ((¬ (4 < (((l2 >>> (((24 : Int32) - ((8 : Int32) * l5)) &&& (31 : Int32))) : Int32) &&& (255 : Int32)))) → ((((((l2 >>> (((24 : Int32) - ((8 : Int32) * l5)) &&& (31 : Int32))) : Int32) &&& (255 : Int32)) ≤ 0) → WP X (d + 1) 47 (49, [some (.ref 1), some (.int l1), some (.int l2), some (.int l3), some (.int l4), some (.int l5), some (.int (((l2 >>> (((24 : Int32) - ((8 : Int32) * l5)) &&& (31 : Int32))) : Int32) &&& (255 : Int32)))], [], Wd f fl g gl hh v tx) P) ∧
        ((¬ ((((l2 >>> (((24 : Int32) - ((8 : Int32) * l5)) &&& (31 : Int32))) : Int32) &&& (255 : Int32)) ≤ 0)) → (((l5 ≤ l3) → WP X (d + 1) 47 (49, [some (.ref 1), some (.int l1), some (.int l2), some (.int l3), some (.int l4), some (.int l5), some (.int (((l2 >>> (((24 : Int32) - ((8 : Int32) * l5)) &&& (31 : Int32))) : Int32) &&& (255 : Int32)))], [], Wd f fl g gl hh v tx) P) ∧
          ((¬ (l5 ≤ l3)) → P (some (.int (-1))) (Wd f fl g gl hh v tx))))))))) :
    WP X (d + 1) 47 (8, [some (.ref 1), some (.int l1), some (.int l2), some (.int l3), some (.int l4), some (.int l5), none], [], Wd f fl g gl hh v tx) P := by
  refine WP.run hP_47 2 (c' := (11, [some (.ref 1), some (.int l1), some (.int l2), some (.int l3), some (.int l4), some (.int l5), none], [.int 4, .int l5], Wd f fl g gl hh v tx)) rfl ?_
  refine WP.br hP_47 (q := 4 ≤ l5) (t := 74) (f := 14) (L := [some (.ref 1), some (.int l1), some (.int l2), some (.int l3), some (.int l4), some (.int l5), none]) (st := []) (w := Wd f fl g gl hh v tx) rfl (fun c1 => ?_) (fun c1 => ?_)
  · have h2 := h.1 c1
    refine WP.run hP_47 1 (c' := (75, [some (.ref 1), some (.int l1), none, some (.int l3), some (.int l4), none, none], [.int l3], Wd f fl g gl hh v tx)) rfl ?_
    refine WP.br hP_47 (q := l3 = 0) (t := 87) (f := 78) (L := [some (.ref 1), some (.int l1), none, some (.int l3), some (.int l4), none, none]) (st := []) (w := Wd f fl g gl hh v tx) rfl (fun c3 => ?_) (fun c3 => ?_)
    · have h4 := h2.1 c3
      refine WP.run hP_47 1 (c' := (88, [none, none, none, none, none, none, none], [.int (-1)], Wd f fl g gl hh v tx)) rfl ?_
      exact WP.retI hP_47 rfl rfl h4
    · have h5 := h2.2 c3
      refine WP.run hP_47 2 (c' := (81, [some (.ref 1), some (.int l1), none, some (.int l3), some (.int l4), none, none], [.int 6, .int l1], Wd f fl g gl hh v tx)) rfl ?_
      refine WP.call hP_47 hP_99 (as := [.int l1, .int 6]) (pc' := 84) (L' := [some (.ref 1), some (.int l1), none, some (.int l3), some (.int l4), none, none]) (st' := []) (w1 := Wd f fl g gl hh v tx) rfl ⟨Nat.le_of_ble_eq_true rfl, Nat.le_of_ble_eq_true rfl⟩ rfl (b_within_m X (d) f fl g gl hh v tx l1 6 _ ?_)
      refine ⟨fun c6 => ?_, fun c6 => ?_⟩
      · have h7 := h5.1 c6
        refine WP.run hP_47 2 (c' := (90, [some (.ref 1), some (.int l1), none, some (.int l3), some (.int l4), none, none], [.int 0], Wd f fl g gl hh v tx)) rfl ?_
        refine WP.run hP_47 1 (c' := (92, [some (.ref 1), some (.int l1), none, some (.int l3), some (.int l4), some (.int 0), none], [], Wd f fl g gl hh v tx)) rfl ?_
        exact h7
      · have h8 := h5.2 c6
        refine WP.run hP_47 2 (c' := (88, [none, none, none, none, none, none, none], [.int (-1)], Wd f fl g gl hh v tx)) rfl ?_
        exact WP.retI hP_47 rfl rfl h8
  · have h9 := h.2 c1
    refine WP.run hP_47 12 (c' := (33, [some (.ref 1), some (.int l1), some (.int l2), some (.int l3), some (.int l4), some (.int l5), some (.int (((l2 >>> (((24 : Int32) - ((8 : Int32) * l5)) &&& (31 : Int32))) : Int32) &&& (255 : Int32)))], [.int 4, .int (((l2 >>> (((24 : Int32) - ((8 : Int32) * l5)) &&& (31 : Int32))) : Int32) &&& (255 : Int32))], Wd f fl g gl hh v tx)) rfl ?_
    refine WP.br hP_47 (q := 4 < (((l2 >>> (((24 : Int32) - ((8 : Int32) * l5)) &&& (31 : Int32))) : Int32) &&& (255 : Int32))) (t := 47) (f := 36) (L := [some (.ref 1), some (.int l1), some (.int l2), some (.int l3), some (.int l4), some (.int l5), some (.int (((l2 >>> (((24 : Int32) - ((8 : Int32) * l5)) &&& (31 : Int32))) : Int32) &&& (255 : Int32)))]) (st := []) (w := Wd f fl g gl hh v tx) rfl (fun c10 => ?_) (fun c10 => ?_)
    · have h11 := h9.1 c10
      refine WP.run hP_47 1 (c' := (48, [none, none, none, none, none, none, none], [.int (-1)], Wd f fl g gl hh v tx)) rfl ?_
      exact WP.retI hP_47 rfl rfl h11
    · have h12 := h9.2 c10
      refine WP.run hP_47 1 (c' := (38, [some (.ref 1), some (.int l1), some (.int l2), some (.int l3), some (.int l4), some (.int l5), some (.int (((l2 >>> (((24 : Int32) - ((8 : Int32) * l5)) &&& (31 : Int32))) : Int32) &&& (255 : Int32)))], [.int (((l2 >>> (((24 : Int32) - ((8 : Int32) * l5)) &&& (31 : Int32))) : Int32) &&& (255 : Int32))], Wd f fl g gl hh v tx)) rfl ?_
      refine WP.br hP_47 (q := (((l2 >>> (((24 : Int32) - ((8 : Int32) * l5)) &&& (31 : Int32))) : Int32) &&& (255 : Int32)) ≤ 0) (t := 49) (f := 41) (L := [some (.ref 1), some (.int l1), some (.int l2), some (.int l3), some (.int l4), some (.int l5), some (.int (((l2 >>> (((24 : Int32) - ((8 : Int32) * l5)) &&& (31 : Int32))) : Int32) &&& (255 : Int32)))]) (st := []) (w := Wd f fl g gl hh v tx) rfl (fun c13 => ?_) (fun c13 => ?_)
      · have h14 := h12.1 c13
        exact h14
      · have h15 := h12.2 c13
        refine WP.run hP_47 2 (c' := (44, [some (.ref 1), some (.int l1), some (.int l2), some (.int l3), some (.int l4), some (.int l5), some (.int (((l2 >>> (((24 : Int32) - ((8 : Int32) * l5)) &&& (31 : Int32))) : Int32) &&& (255 : Int32)))], [.int l5, .int l3], Wd f fl g gl hh v tx)) rfl ?_
        refine WP.br hP_47 (q := l5 ≤ l3) (t := 49) (f := 47) (L := [some (.ref 1), some (.int l1), some (.int l2), some (.int l3), some (.int l4), some (.int l5), some (.int (((l2 >>> (((24 : Int32) - ((8 : Int32) * l5)) &&& (31 : Int32))) : Int32) &&& (255 : Int32)))]) (st := []) (w := Wd f fl g gl hh v tx) rfl (fun c16 => ?_) (fun c16 => ?_)
        · have h17 := h15.1 c16
          exact h17
        · have h18 := h15.2 c16
          refine WP.run hP_47 1 (c' := (48, [none, none, none, none, none, none, none], [.int (-1)], Wd f fl g gl hh v tx)) rfl ?_
          exact WP.retI hP_47 rfl rfl h18

set_option maxRecDepth 20000 in
theorem b_yst_enter_1_92 (X : mm_X) (d : Nat) (f : Nat → Int32) (fl : Nat → Int64) (g : Nat → Nat → Int32) (gl : Nat → Nat → Int64) (hh : Nat → Nat → Option Nat) (v : Nat → Value) (tx : mm_W) (l1 : Int32) (l3 : Int32) (l4 : Int32) (l5 : Int32)  (P : Option Value → mm_W → Prop)
    (h : (((f 64) ≤ l5) → ((((f 64) < 8) → ((¬ ((f 64) < 0 ∨ 8 ≤ (f 64).toNatClampNeg)) ∧ ((¬ ((f 64) < 0 ∨ 8 ≤ (f 64).toNatClampNeg)) ∧ ((¬ ((f 64) < 0 ∨ 8 ≤ (f 64).toNatClampNeg)) ∧ P (some (.int (((f 64) + (1 : Int32)) - (1 : Int32)))) (Wd (va_up f 64 ((f 64) + (1 : Int32))) fl (va_up (va_up (va_up g 2 (upd (g 2) ((f 64).toNatClampNeg) l4)) 3 (upd (g 3) ((f 64).toNatClampNeg) l3)) 4 (upd (g 4) ((f 64).toNatClampNeg) l1)) gl hh v tx))))) ∧
      ((¬ ((f 64) < 8)) → P (some (.int (-5))) (Wd f fl g gl hh v tx)))) ∧
    ((¬ ((f 64) ≤ l5)) → ((¬ (l5 < 0 ∨ 8 ≤ l5.toNatClampNeg)) ∧ (((¬ ((g 3) l5.toNatClampNeg) = l3) → WP X (d) 47 (92, [some (.ref 1), some (.int l1), none, some (.int l3), some (.int l4), some (.int (l5 + (1 : Int32))), none], [], Wd f fl g gl hh v tx) P) ∧
      ((((g 3) l5.toNatClampNeg) = l3) → ((¬ (l5 < 0 ∨ 8 ≤ l5.toNatClampNeg)) ∧ (((¬ ((g 2) l5.toNatClampNeg) = l4) → WP X (d) 47 (92, [some (.ref 1), some (.int l1), none, some (.int l3), some (.int l4), some (.int (l5 + (1 : Int32))), none], [], Wd f fl g gl hh v tx) P) ∧
        ((((g 2) l5.toNatClampNeg) = l4) → P (some (.int (-3))) (Wd f fl g gl hh v tx))))))))) :
    WP X (d) 47 (92, [some (.ref 1), some (.int l1), none, some (.int l3), some (.int l4), some (.int l5), none], [], Wd f fl g gl hh v tx) P := by
  refine WP.run hP_47 3 (c' := (98, [some (.ref 1), some (.int l1), none, some (.int l3), some (.int l4), some (.int l5), none], [.int (f 64), .int l5], Wd f fl g gl hh v tx)) rfl ?_
  refine WP.br hP_47 (q := (f 64) ≤ l5) (t := 133) (f := 101) (L := [some (.ref 1), some (.int l1), none, some (.int l3), some (.int l4), some (.int l5), none]) (st := []) (w := Wd f fl g gl hh v tx) rfl (fun c1 => ?_) (fun c1 => ?_)
  · have h2 := h.1 c1
    refine WP.run hP_47 3 (c' := (139, [some (.ref 1), some (.int l1), none, some (.int l3), some (.int l4), none, none], [.int 8, .int (f 64)], Wd f fl g gl hh v tx)) rfl ?_
    refine WP.br hP_47 (q := (f 64) < 8) (t := 145) (f := 142) (L := [some (.ref 1), some (.int l1), none, some (.int l3), some (.int l4), none, none]) (st := []) (w := Wd f fl g gl hh v tx) rfl (fun c3 => ?_) (fun c3 => ?_)
    · have h4 := h2.1 c3
      refine WP.run hP_47 5 (c' := (155, [some (.ref 1), some (.int l1), none, some (.int l3), some (.int l4), none, none], [.int l4, .int (f 64), .ref 2], Wd f fl g gl hh v tx)) rfl ?_
      refine WP.of (fun _ _ => Ex.iast hP_47 (w2 := Wd f fl (va_up g 2 (upd (g 2) ((f 64).toNatClampNeg) l4)) gl hh v tx) rfl (Wa_2 _ _ _ _ _ _ _) h4.1 (Ws_2 _ _ _ _ _ _ _ _)) ?_
      have h5 := h4.2
      refine WP.run hP_47 5 (c' := (165, [some (.ref 1), some (.int l1), none, some (.int l3), some (.int l4), none, none], [.int l3, .int (f 64), .ref 3], Wd f fl (va_up g 2 (upd (g 2) ((f 64).toNatClampNeg) l4)) gl hh v tx)) rfl ?_
      refine WP.of (fun _ _ => Ex.iast hP_47 (w2 := Wd f fl (va_up (va_up g 2 (upd (g 2) ((f 64).toNatClampNeg) l4)) 3 (upd (g 3) ((f 64).toNatClampNeg) l3)) gl hh v tx) rfl (Wa_3 _ _ _ _ _ _ _) h5.1 (Ws_3 _ _ _ _ _ _ _ _)) ?_
      have h6 := h5.2
      refine WP.run hP_47 5 (c' := (175, [some (.ref 1), some (.int l1), none, some (.int l3), some (.int l4), none, none], [.int l1, .int (f 64), .ref 4], Wd f fl (va_up (va_up g 2 (upd (g 2) ((f 64).toNatClampNeg) l4)) 3 (upd (g 3) ((f 64).toNatClampNeg) l3)) gl hh v tx)) rfl ?_
      refine WP.of (fun _ _ => Ex.iast hP_47 (w2 := Wd f fl (va_up (va_up (va_up g 2 (upd (g 2) ((f 64).toNatClampNeg) l4)) 3 (upd (g 3) ((f 64).toNatClampNeg) l3)) 4 (upd (g 4) ((f 64).toNatClampNeg) l1)) gl hh v tx) rfl (Wa_4 _ _ _ _ _ _ _) h6.1 (Ws_4 _ _ _ _ _ _ _ _)) ?_
      have h7 := h6.2
      refine WP.run hP_47 10 (c' := (192, [some (.ref 1), some (.int l1), none, some (.int l3), some (.int l4), none, none], [.int (((f 64) + (1 : Int32)) - (1 : Int32))], Wd (va_up f 64 ((f 64) + (1 : Int32))) fl (va_up (va_up (va_up g 2 (upd (g 2) ((f 64).toNatClampNeg) l4)) 3 (upd (g 3) ((f 64).toNatClampNeg) l3)) 4 (upd (g 4) ((f 64).toNatClampNeg) l1)) gl hh v tx)) rfl ?_
      exact WP.retI hP_47 rfl rfl h7
    · have h8 := h2.2 c3
      refine WP.run hP_47 1 (c' := (144, [some (.ref 1), some (.int l1), none, some (.int l3), some (.int l4), none, none], [.int (-5)], Wd f fl g gl hh v tx)) rfl ?_
      exact WP.retI hP_47 rfl rfl h8
  · have h9 := h.2 c1
    refine WP.run hP_47 3 (c' := (107, [some (.ref 1), some (.int l1), none, some (.int l3), some (.int l4), some (.int l5), none], [.int l5, .ref 3], Wd f fl g gl hh v tx)) rfl ?_
    refine WP.of (fun _ _ => Ex.iald hP_47 rfl (Wa_3 _ _ _ _ _ _ _) h9.1) ?_
    have h10 := h9.2
    refine WP.run hP_47 1 (c' := (109, [some (.ref 1), some (.int l1), none, some (.int l3), some (.int l4), some (.int l5), none], [.int l3, .int ((g 3) l5.toNatClampNeg)], Wd f fl g gl hh v tx)) rfl ?_
    refine WP.br hP_47 (q := ¬ ((g 3) l5.toNatClampNeg) = l3) (t := 127) (f := 112) (L := [some (.ref 1), some (.int l1), none, some (.int l3), some (.int l4), some (.int l5), none]) (st := []) (w := Wd f fl g gl hh v tx) rfl (fun c11 => ?_) (fun c11 => ?_)
    · have h12 := h10.1 c11
      refine WP.run hP_47 2 (c' := (92, [some (.ref 1), some (.int l1), none, some (.int l3), some (.int l4), some (.int (l5 + (1 : Int32))), none], [], Wd f fl g gl hh v tx)) rfl ?_
      exact h12
    · have h13 := h10.2 (Classical.not_not.mp c11)
      refine WP.run hP_47 3 (c' := (118, [some (.ref 1), some (.int l1), none, some (.int l3), some (.int l4), some (.int l5), none], [.int l5, .ref 2], Wd f fl g gl hh v tx)) rfl ?_
      refine WP.of (fun _ _ => Ex.iald hP_47 rfl (Wa_2 _ _ _ _ _ _ _) h13.1) ?_
      have h14 := h13.2
      refine WP.run hP_47 1 (c' := (121, [some (.ref 1), some (.int l1), none, some (.int l3), some (.int l4), some (.int l5), none], [.int l4, .int ((g 2) l5.toNatClampNeg)], Wd f fl g gl hh v tx)) rfl ?_
      refine WP.br hP_47 (q := ¬ ((g 2) l5.toNatClampNeg) = l4) (t := 127) (f := 124) (L := [some (.ref 1), some (.int l1), none, some (.int l3), some (.int l4), some (.int l5), none]) (st := []) (w := Wd f fl g gl hh v tx) rfl (fun c15 => ?_) (fun c15 => ?_)
      · have h16 := h14.1 c15
        refine WP.run hP_47 2 (c' := (92, [some (.ref 1), some (.int l1), none, some (.int l3), some (.int l4), some (.int (l5 + (1 : Int32))), none], [], Wd f fl g gl hh v tx)) rfl ?_
        exact h16
      · have h17 := h14.2 (Classical.not_not.mp c15)
        refine WP.run hP_47 1 (c' := (126, [some (.ref 1), some (.int l1), none, some (.int l3), some (.int l4), some (.int l5), none], [.int (-3)], Wd f fl g gl hh v tx)) rfl ?_
        exact WP.retI hP_47 rfl rfl h17

set_option maxRecDepth 20000 in
theorem b_yst_enter_1_49 (X : mm_X) (d : Nat) (f : Nat → Int32) (fl : Nat → Int64) (g : Nat → Nat → Int32) (gl : Nat → Nat → Int64) (hh : Nat → Nat → Option Nat) (v : Nat → Value) (tx : mm_W) (l1 : Int32) (l2 : Int32) (l3 : Int32) (l4 : Int32) (l5 : Int32) (l6 : Int32)  (P : Option Value → mm_W → Prop)
    (h : ((l6 ≤ 0) → WP X (d) 47 (8, [some (.ref 1), some (.int l1), some (.int l2), some (.int l3), some (.int l4), some (.int (l5 + (1 : Int32))), none], [], Wd f fl g gl hh v tx) P) ∧
    ((¬ (l6 ≤ 0)) → WP X (d) 47 (8, [some (.ref 1), some (.int l1), some (.int l2), some (.int (l3 + (1 : Int32))), some (.int ((((4 : Int32) * l4) + l6) - (1 : Int32))), some (.int (l5 + (1 : Int32))), none], [], Wd f fl g gl hh v tx) P)) :
    WP X (d) 47 (49, [some (.ref 1), some (.int l1), some (.int l2), some (.int l3), some (.int l4), some (.int l5), some (.int l6)], [], Wd f fl g gl hh v tx) P := by
  refine WP.run hP_47 1 (c' := (51, [some (.ref 1), some (.int l1), some (.int l2), some (.int l3), some (.int l4), some (.int l5), some (.int l6)], [.int l6], Wd f fl g gl hh v tx)) rfl ?_
  refine WP.br hP_47 (q := l6 ≤ 0) (t := 68) (f := 54) (L := [some (.ref 1), some (.int l1), some (.int l2), some (.int l3), some (.int l4), some (.int l5), some (.int l6)]) (st := []) (w := Wd f fl g gl hh v tx) rfl (fun c1 => ?_) (fun c1 => ?_)
  · have h2 := h.1 c1
    refine WP.run hP_47 2 (c' := (8, [some (.ref 1), some (.int l1), some (.int l2), some (.int l3), some (.int l4), some (.int (l5 + (1 : Int32))), none], [], Wd f fl g gl hh v tx)) rfl ?_
    exact h2
  · have h3 := h.2 c1
    refine WP.run hP_47 8 (c' := (65, [some (.ref 1), some (.int l1), some (.int l2), some (.int l3), some (.int ((((4 : Int32) * l4) + l6) - (1 : Int32))), some (.int l5), some (.int l6)], [], Wd f fl g gl hh v tx)) rfl ?_
    refine WP.run hP_47 1 (c' := (68, [some (.ref 1), some (.int l1), some (.int l2), some (.int (l3 + (1 : Int32))), some (.int ((((4 : Int32) * l4) + l6) - (1 : Int32))), some (.int l5), some (.int l6)], [], Wd f fl g gl hh v tx)) rfl ?_
    refine WP.run hP_47 2 (c' := (8, [some (.ref 1), some (.int l1), some (.int l2), some (.int (l3 + (1 : Int32))), some (.int ((((4 : Int32) * l4) + l6) - (1 : Int32))), some (.int (l5 + (1 : Int32))), none], [], Wd f fl g gl hh v tx)) rfl ?_
    exact h3

set_option maxRecDepth 20000 in
theorem b_yst_copy_10_1_0 (X : mm_X) (d : Nat) (f : Nat → Int32) (fl : Nat → Int64) (g : Nat → Nat → Int32) (gl : Nat → Nat → Int64) (hh : Nat → Nat → Option Nat) (v : Nat → Value) (tx : mm_W)   (P : Option Value → mm_W → Prop)
    (h : WP X (d) 45 (169, [some (.ref 10), some (.ref 1), some (.int 0)], [], Wd (va_up (va_up (va_up (va_up (va_up (va_up (va_up (va_up f 640 (f 64)) 644 (f 68)) 646 (f 70)) 647 (f 71)) 648 (f 72)) 650 (f 74)) 652 (f 76)) 654 (f 78)) fl (va_up (va_up (va_up (va_up (va_up (va_up (va_up g 11 (va_cpy (g 2) (g 11) 0 0 8)) 12 (va_cpy (g 3) (g 12) 0 0 8)) 13 (va_cpy (g 4) (g 13) 0 0 8)) 14 (va_cpy (g 5) (g 14) 0 0 3)) 15 (va_cpy (g 6) (g 15) 0 0 6)) 17 (va_cpy (g 8) (g 17) 0 0 3)) 18 (va_cpy (g 9) (g 18) 0 0 16)) gl hh v tx) P) :
    WP X (d) 45 (0, [some (.ref 10), some (.ref 1), none], [], Wd f fl g gl hh v tx) P := by
  refine WP.run hP_45 39 (c' := (76, [some (.ref 10), some (.ref 1), none], [.int 8, .int 0, .ref 11, .int 0, .ref 2], Wd (va_up (va_up (va_up (va_up (va_up (va_up (va_up (va_up f 640 (f 64)) 644 (f 68)) 646 (f 70)) 647 (f 71)) 648 (f 72)) 650 (f 74)) 652 (f 76)) 654 (f 78)) fl g gl hh v tx)) rfl ?_
  refine WP.of (fun _ _ => Ex.acopy hP_45 (w2 := Wd (va_up (va_up (va_up (va_up (va_up (va_up (va_up (va_up f 640 (f 64)) 644 (f 68)) 646 (f 70)) 647 (f 71)) 648 (f 72)) 650 (f 74)) 652 (f 76)) 654 (f 78)) fl (va_up g 11 (va_cpy (g 2) (g 11) 0 0 8)) gl hh v tx) rfl rfl (Wa_2 _ _ _ _ _ _ _) (Wa_11 _ _ _ _ _ _ _) (by decide) (Ws_11 _ _ _ _ _ _ _ _)) ?_
  refine WP.run hP_45 7 (c' := (91, [some (.ref 10), some (.ref 1), none], [.int 8, .int 0, .ref 12, .int 0, .ref 3], Wd (va_up (va_up (va_up (va_up (va_up (va_up (va_up (va_up f 640 (f 64)) 644 (f 68)) 646 (f 70)) 647 (f 71)) 648 (f 72)) 650 (f 74)) 652 (f 76)) 654 (f 78)) fl (va_up g 11 (va_cpy (g 2) (g 11) 0 0 8)) gl hh v tx)) rfl ?_
  refine WP.of (fun _ _ => Ex.acopy hP_45 (w2 := Wd (va_up (va_up (va_up (va_up (va_up (va_up (va_up (va_up f 640 (f 64)) 644 (f 68)) 646 (f 70)) 647 (f 71)) 648 (f 72)) 650 (f 74)) 652 (f 76)) 654 (f 78)) fl (va_up (va_up g 11 (va_cpy (g 2) (g 11) 0 0 8)) 12 (va_cpy (g 3) (g 12) 0 0 8)) gl hh v tx) rfl rfl (Wa_3 _ _ _ _ _ _ _) (Wa_12 _ _ _ _ _ _ _) (by decide) (Ws_12 _ _ _ _ _ _ _ _)) ?_
  refine WP.run hP_45 7 (c' := (106, [some (.ref 10), some (.ref 1), none], [.int 8, .int 0, .ref 13, .int 0, .ref 4], Wd (va_up (va_up (va_up (va_up (va_up (va_up (va_up (va_up f 640 (f 64)) 644 (f 68)) 646 (f 70)) 647 (f 71)) 648 (f 72)) 650 (f 74)) 652 (f 76)) 654 (f 78)) fl (va_up (va_up g 11 (va_cpy (g 2) (g 11) 0 0 8)) 12 (va_cpy (g 3) (g 12) 0 0 8)) gl hh v tx)) rfl ?_
  refine WP.of (fun _ _ => Ex.acopy hP_45 (w2 := Wd (va_up (va_up (va_up (va_up (va_up (va_up (va_up (va_up f 640 (f 64)) 644 (f 68)) 646 (f 70)) 647 (f 71)) 648 (f 72)) 650 (f 74)) 652 (f 76)) 654 (f 78)) fl (va_up (va_up (va_up g 11 (va_cpy (g 2) (g 11) 0 0 8)) 12 (va_cpy (g 3) (g 12) 0 0 8)) 13 (va_cpy (g 4) (g 13) 0 0 8)) gl hh v tx) rfl rfl (Wa_4 _ _ _ _ _ _ _) (Wa_13 _ _ _ _ _ _ _) (by decide) (Ws_13 _ _ _ _ _ _ _ _)) ?_
  refine WP.run hP_45 7 (c' := (120, [some (.ref 10), some (.ref 1), none], [.int 3, .int 0, .ref 14, .int 0, .ref 5], Wd (va_up (va_up (va_up (va_up (va_up (va_up (va_up (va_up f 640 (f 64)) 644 (f 68)) 646 (f 70)) 647 (f 71)) 648 (f 72)) 650 (f 74)) 652 (f 76)) 654 (f 78)) fl (va_up (va_up (va_up g 11 (va_cpy (g 2) (g 11) 0 0 8)) 12 (va_cpy (g 3) (g 12) 0 0 8)) 13 (va_cpy (g 4) (g 13) 0 0 8)) gl hh v tx)) rfl ?_
  refine WP.of (fun _ _ => Ex.acopy hP_45 (w2 := Wd (va_up (va_up (va_up (va_up (va_up (va_up (va_up (va_up f 640 (f 64)) 644 (f 68)) 646 (f 70)) 647 (f 71)) 648 (f 72)) 650 (f 74)) 652 (f 76)) 654 (f 78)) fl (va_up (va_up (va_up (va_up g 11 (va_cpy (g 2) (g 11) 0 0 8)) 12 (va_cpy (g 3) (g 12) 0 0 8)) 13 (va_cpy (g 4) (g 13) 0 0 8)) 14 (va_cpy (g 5) (g 14) 0 0 3)) gl hh v tx) rfl rfl (Wa_5 _ _ _ _ _ _ _) (Wa_14 _ _ _ _ _ _ _) (by decide) (Ws_14 _ _ _ _ _ _ _ _)) ?_
  refine WP.run hP_45 7 (c' := (135, [some (.ref 10), some (.ref 1), none], [.int 6, .int 0, .ref 15, .int 0, .ref 6], Wd (va_up (va_up (va_up (va_up (va_up (va_up (va_up (va_up f 640 (f 64)) 644 (f 68)) 646 (f 70)) 647 (f 71)) 648 (f 72)) 650 (f 74)) 652 (f 76)) 654 (f 78)) fl (va_up (va_up (va_up (va_up g 11 (va_cpy (g 2) (g 11) 0 0 8)) 12 (va_cpy (g 3) (g 12) 0 0 8)) 13 (va_cpy (g 4) (g 13) 0 0 8)) 14 (va_cpy (g 5) (g 14) 0 0 3)) gl hh v tx)) rfl ?_
  refine WP.of (fun _ _ => Ex.acopy hP_45 (w2 := Wd (va_up (va_up (va_up (va_up (va_up (va_up (va_up (va_up f 640 (f 64)) 644 (f 68)) 646 (f 70)) 647 (f 71)) 648 (f 72)) 650 (f 74)) 652 (f 76)) 654 (f 78)) fl (va_up (va_up (va_up (va_up (va_up g 11 (va_cpy (g 2) (g 11) 0 0 8)) 12 (va_cpy (g 3) (g 12) 0 0 8)) 13 (va_cpy (g 4) (g 13) 0 0 8)) 14 (va_cpy (g 5) (g 14) 0 0 3)) 15 (va_cpy (g 6) (g 15) 0 0 6)) gl hh v tx) rfl rfl (Wa_6 _ _ _ _ _ _ _) (Wa_15 _ _ _ _ _ _ _) (by decide) (Ws_15 _ _ _ _ _ _ _ _)) ?_
  refine WP.run hP_45 7 (c' := (149, [some (.ref 10), some (.ref 1), none], [.int 3, .int 0, .ref 17, .int 0, .ref 8], Wd (va_up (va_up (va_up (va_up (va_up (va_up (va_up (va_up f 640 (f 64)) 644 (f 68)) 646 (f 70)) 647 (f 71)) 648 (f 72)) 650 (f 74)) 652 (f 76)) 654 (f 78)) fl (va_up (va_up (va_up (va_up (va_up g 11 (va_cpy (g 2) (g 11) 0 0 8)) 12 (va_cpy (g 3) (g 12) 0 0 8)) 13 (va_cpy (g 4) (g 13) 0 0 8)) 14 (va_cpy (g 5) (g 14) 0 0 3)) 15 (va_cpy (g 6) (g 15) 0 0 6)) gl hh v tx)) rfl ?_
  refine WP.of (fun _ _ => Ex.acopy hP_45 (w2 := Wd (va_up (va_up (va_up (va_up (va_up (va_up (va_up (va_up f 640 (f 64)) 644 (f 68)) 646 (f 70)) 647 (f 71)) 648 (f 72)) 650 (f 74)) 652 (f 76)) 654 (f 78)) fl (va_up (va_up (va_up (va_up (va_up (va_up g 11 (va_cpy (g 2) (g 11) 0 0 8)) 12 (va_cpy (g 3) (g 12) 0 0 8)) 13 (va_cpy (g 4) (g 13) 0 0 8)) 14 (va_cpy (g 5) (g 14) 0 0 3)) 15 (va_cpy (g 6) (g 15) 0 0 6)) 17 (va_cpy (g 8) (g 17) 0 0 3)) gl hh v tx) rfl rfl (Wa_8 _ _ _ _ _ _ _) (Wa_17 _ _ _ _ _ _ _) (by decide) (Ws_17 _ _ _ _ _ _ _ _)) ?_
  refine WP.run hP_45 7 (c' := (164, [some (.ref 10), some (.ref 1), none], [.int 16, .int 0, .ref 18, .int 0, .ref 9], Wd (va_up (va_up (va_up (va_up (va_up (va_up (va_up (va_up f 640 (f 64)) 644 (f 68)) 646 (f 70)) 647 (f 71)) 648 (f 72)) 650 (f 74)) 652 (f 76)) 654 (f 78)) fl (va_up (va_up (va_up (va_up (va_up (va_up g 11 (va_cpy (g 2) (g 11) 0 0 8)) 12 (va_cpy (g 3) (g 12) 0 0 8)) 13 (va_cpy (g 4) (g 13) 0 0 8)) 14 (va_cpy (g 5) (g 14) 0 0 3)) 15 (va_cpy (g 6) (g 15) 0 0 6)) 17 (va_cpy (g 8) (g 17) 0 0 3)) gl hh v tx)) rfl ?_
  refine WP.of (fun _ _ => Ex.acopy hP_45 (w2 := Wd (va_up (va_up (va_up (va_up (va_up (va_up (va_up (va_up f 640 (f 64)) 644 (f 68)) 646 (f 70)) 647 (f 71)) 648 (f 72)) 650 (f 74)) 652 (f 76)) 654 (f 78)) fl (va_up (va_up (va_up (va_up (va_up (va_up (va_up g 11 (va_cpy (g 2) (g 11) 0 0 8)) 12 (va_cpy (g 3) (g 12) 0 0 8)) 13 (va_cpy (g 4) (g 13) 0 0 8)) 14 (va_cpy (g 5) (g 14) 0 0 3)) 15 (va_cpy (g 6) (g 15) 0 0 6)) 17 (va_cpy (g 8) (g 17) 0 0 3)) 18 (va_cpy (g 9) (g 18) 0 0 16)) gl hh v tx) rfl rfl (Wa_9 _ _ _ _ _ _ _) (Wa_18 _ _ _ _ _ _ _) (by decide) (Ws_18 _ _ _ _ _ _ _ _)) ?_
  refine WP.run hP_45 2 (c' := (169, [some (.ref 10), some (.ref 1), some (.int 0)], [], Wd (va_up (va_up (va_up (va_up (va_up (va_up (va_up (va_up f 640 (f 64)) 644 (f 68)) 646 (f 70)) 647 (f 71)) 648 (f 72)) 650 (f 74)) 652 (f 76)) 654 (f 78)) fl (va_up (va_up (va_up (va_up (va_up (va_up (va_up g 11 (va_cpy (g 2) (g 11) 0 0 8)) 12 (va_cpy (g 3) (g 12) 0 0 8)) 13 (va_cpy (g 4) (g 13) 0 0 8)) 14 (va_cpy (g 5) (g 14) 0 0 3)) 15 (va_cpy (g 6) (g 15) 0 0 6)) 17 (va_cpy (g 8) (g 17) 0 0 3)) 18 (va_cpy (g 9) (g 18) 0 0 16)) gl hh v tx)) rfl ?_
  exact h

set_option maxRecDepth 20000 in
theorem b_yst_copy_10_1_169 (X : mm_X) (d : Nat) (f : Nat → Int32) (fl : Nat → Int64) (g : Nat → Nat → Int32) (gl : Nat → Nat → Int64) (hh : Nat → Nat → Option Nat) (v : Nat → Value) (tx : mm_W) (l2 : Int32)  (P : Option Value → mm_W → Prop)
    (h : ((6 ≤ l2) → P none (Wd f fl g gl hh v tx)) ∧
    ((¬ (6 ≤ l2)) → ((¬ (l2 < 0 ∨ 6 ≤ l2.toNatClampNeg)) ∧ ((¬ (l2 < 0 ∨ 6 ≤ l2.toNatClampNeg)) ∧ ((∀ o, ((hh 7) l2.toNatClampNeg) = some o → ∃ fs, (Wd f fl g gl hh v tx)[o]? = some (.inr (6, fs))) ∧ WP X (d) 45 (169, [some (.ref 10), some (.ref 1), some (.int (l2 + (1 : Int32)))], [], Wd f fl g gl (va_up hh 16 (va_up (hh 16) (l2.toNatClampNeg) ((hh 7) l2.toNatClampNeg))) v tx) P))))) :
    WP X (d) 45 (169, [some (.ref 10), some (.ref 1), some (.int l2)], [], Wd f fl g gl hh v tx) P := by
  refine WP.run hP_45 2 (c' := (172, [some (.ref 10), some (.ref 1), some (.int l2)], [.int 6, .int l2], Wd f fl g gl hh v tx)) rfl ?_
  refine WP.br hP_45 (q := 6 ≤ l2) (t := 193) (f := 175) (L := [some (.ref 10), some (.ref 1), some (.int l2)]) (st := []) (w := Wd f fl g gl hh v tx) rfl (fun c1 => ?_) (fun c1 => ?_)
  · have h2 := h.1 c1
    exact WP.ret hP_45 (r := none) (w' := Wd f fl g gl hh v tx) rfl h2
  · have h3 := h.2 c1
    refine WP.run hP_45 6 (c' := (185, [some (.ref 10), some (.ref 1), some (.int l2)], [.int l2, .ref 7, .int l2, .ref 16], Wd f fl g gl hh v tx)) rfl ?_
    refine WP.of (fun _ _ => Ex.aald4 hP_45 rfl (Wa_7 _ _ _ _ _ _ _) h3.1) ?_
    have h4 := h3.2
    refine WP.of (fun _ _ => Ex.aastV hP_45 (w2 := Wd f fl g gl (va_up hh 16 (va_up (hh 16) (l2.toNatClampNeg) ((hh 7) l2.toNatClampNeg))) v tx) rfl (Wa_16 _ _ _ _ _ _ _) h4.1 h4.2.1 (Ws_16 _ _ _ _ _ _ _ _)) ?_
    have h5 := h4.2
    have h6 := h5.2
    refine WP.run hP_45 2 (c' := (169, [some (.ref 10), some (.ref 1), some (.int (l2 + (1 : Int32)))], [], Wd f fl g gl (va_up hh 16 (va_up (hh 16) (l2.toNatClampNeg) ((hh 7) l2.toNatClampNeg))) v tx)) rfl ?_
    exact h6

set_option maxRecDepth 20000 in
theorem b_yst_copy_1_10_0 (X : mm_X) (d : Nat) (f : Nat → Int32) (fl : Nat → Int64) (g : Nat → Nat → Int32) (gl : Nat → Nat → Int64) (hh : Nat → Nat → Option Nat) (v : Nat → Value) (tx : mm_W)   (P : Option Value → mm_W → Prop)
    (h : WP X (d) 45 (169, [some (.ref 1), some (.ref 10), some (.int 0)], [], Wd (va_up (va_up (va_up (va_up (va_up (va_up (va_up (va_up f 64 (f 640)) 68 (f 644)) 70 (f 646)) 71 (f 647)) 72 (f 648)) 74 (f 650)) 76 (f 652)) 78 (f 654)) fl (va_up (va_up (va_up (va_up (va_up (va_up (va_up g 2 (va_cpy (g 11) (g 2) 0 0 8)) 3 (va_cpy (g 12) (g 3) 0 0 8)) 4 (va_cpy (g 13) (g 4) 0 0 8)) 5 (va_cpy (g 14) (g 5) 0 0 3)) 6 (va_cpy (g 15) (g 6) 0 0 6)) 8 (va_cpy (g 17) (g 8) 0 0 3)) 9 (va_cpy (g 18) (g 9) 0 0 16)) gl hh v tx) P) :
    WP X (d) 45 (0, [some (.ref 1), some (.ref 10), none], [], Wd f fl g gl hh v tx) P := by
  refine WP.run hP_45 39 (c' := (76, [some (.ref 1), some (.ref 10), none], [.int 8, .int 0, .ref 2, .int 0, .ref 11], Wd (va_up (va_up (va_up (va_up (va_up (va_up (va_up (va_up f 64 (f 640)) 68 (f 644)) 70 (f 646)) 71 (f 647)) 72 (f 648)) 74 (f 650)) 76 (f 652)) 78 (f 654)) fl g gl hh v tx)) rfl ?_
  refine WP.of (fun _ _ => Ex.acopy hP_45 (w2 := Wd (va_up (va_up (va_up (va_up (va_up (va_up (va_up (va_up f 64 (f 640)) 68 (f 644)) 70 (f 646)) 71 (f 647)) 72 (f 648)) 74 (f 650)) 76 (f 652)) 78 (f 654)) fl (va_up g 2 (va_cpy (g 11) (g 2) 0 0 8)) gl hh v tx) rfl rfl (Wa_11 _ _ _ _ _ _ _) (Wa_2 _ _ _ _ _ _ _) (by decide) (Ws_2 _ _ _ _ _ _ _ _)) ?_
  refine WP.run hP_45 7 (c' := (91, [some (.ref 1), some (.ref 10), none], [.int 8, .int 0, .ref 3, .int 0, .ref 12], Wd (va_up (va_up (va_up (va_up (va_up (va_up (va_up (va_up f 64 (f 640)) 68 (f 644)) 70 (f 646)) 71 (f 647)) 72 (f 648)) 74 (f 650)) 76 (f 652)) 78 (f 654)) fl (va_up g 2 (va_cpy (g 11) (g 2) 0 0 8)) gl hh v tx)) rfl ?_
  refine WP.of (fun _ _ => Ex.acopy hP_45 (w2 := Wd (va_up (va_up (va_up (va_up (va_up (va_up (va_up (va_up f 64 (f 640)) 68 (f 644)) 70 (f 646)) 71 (f 647)) 72 (f 648)) 74 (f 650)) 76 (f 652)) 78 (f 654)) fl (va_up (va_up g 2 (va_cpy (g 11) (g 2) 0 0 8)) 3 (va_cpy (g 12) (g 3) 0 0 8)) gl hh v tx) rfl rfl (Wa_12 _ _ _ _ _ _ _) (Wa_3 _ _ _ _ _ _ _) (by decide) (Ws_3 _ _ _ _ _ _ _ _)) ?_
  refine WP.run hP_45 7 (c' := (106, [some (.ref 1), some (.ref 10), none], [.int 8, .int 0, .ref 4, .int 0, .ref 13], Wd (va_up (va_up (va_up (va_up (va_up (va_up (va_up (va_up f 64 (f 640)) 68 (f 644)) 70 (f 646)) 71 (f 647)) 72 (f 648)) 74 (f 650)) 76 (f 652)) 78 (f 654)) fl (va_up (va_up g 2 (va_cpy (g 11) (g 2) 0 0 8)) 3 (va_cpy (g 12) (g 3) 0 0 8)) gl hh v tx)) rfl ?_
  refine WP.of (fun _ _ => Ex.acopy hP_45 (w2 := Wd (va_up (va_up (va_up (va_up (va_up (va_up (va_up (va_up f 64 (f 640)) 68 (f 644)) 70 (f 646)) 71 (f 647)) 72 (f 648)) 74 (f 650)) 76 (f 652)) 78 (f 654)) fl (va_up (va_up (va_up g 2 (va_cpy (g 11) (g 2) 0 0 8)) 3 (va_cpy (g 12) (g 3) 0 0 8)) 4 (va_cpy (g 13) (g 4) 0 0 8)) gl hh v tx) rfl rfl (Wa_13 _ _ _ _ _ _ _) (Wa_4 _ _ _ _ _ _ _) (by decide) (Ws_4 _ _ _ _ _ _ _ _)) ?_
  refine WP.run hP_45 7 (c' := (120, [some (.ref 1), some (.ref 10), none], [.int 3, .int 0, .ref 5, .int 0, .ref 14], Wd (va_up (va_up (va_up (va_up (va_up (va_up (va_up (va_up f 64 (f 640)) 68 (f 644)) 70 (f 646)) 71 (f 647)) 72 (f 648)) 74 (f 650)) 76 (f 652)) 78 (f 654)) fl (va_up (va_up (va_up g 2 (va_cpy (g 11) (g 2) 0 0 8)) 3 (va_cpy (g 12) (g 3) 0 0 8)) 4 (va_cpy (g 13) (g 4) 0 0 8)) gl hh v tx)) rfl ?_
  refine WP.of (fun _ _ => Ex.acopy hP_45 (w2 := Wd (va_up (va_up (va_up (va_up (va_up (va_up (va_up (va_up f 64 (f 640)) 68 (f 644)) 70 (f 646)) 71 (f 647)) 72 (f 648)) 74 (f 650)) 76 (f 652)) 78 (f 654)) fl (va_up (va_up (va_up (va_up g 2 (va_cpy (g 11) (g 2) 0 0 8)) 3 (va_cpy (g 12) (g 3) 0 0 8)) 4 (va_cpy (g 13) (g 4) 0 0 8)) 5 (va_cpy (g 14) (g 5) 0 0 3)) gl hh v tx) rfl rfl (Wa_14 _ _ _ _ _ _ _) (Wa_5 _ _ _ _ _ _ _) (by decide) (Ws_5 _ _ _ _ _ _ _ _)) ?_
  refine WP.run hP_45 7 (c' := (135, [some (.ref 1), some (.ref 10), none], [.int 6, .int 0, .ref 6, .int 0, .ref 15], Wd (va_up (va_up (va_up (va_up (va_up (va_up (va_up (va_up f 64 (f 640)) 68 (f 644)) 70 (f 646)) 71 (f 647)) 72 (f 648)) 74 (f 650)) 76 (f 652)) 78 (f 654)) fl (va_up (va_up (va_up (va_up g 2 (va_cpy (g 11) (g 2) 0 0 8)) 3 (va_cpy (g 12) (g 3) 0 0 8)) 4 (va_cpy (g 13) (g 4) 0 0 8)) 5 (va_cpy (g 14) (g 5) 0 0 3)) gl hh v tx)) rfl ?_
  refine WP.of (fun _ _ => Ex.acopy hP_45 (w2 := Wd (va_up (va_up (va_up (va_up (va_up (va_up (va_up (va_up f 64 (f 640)) 68 (f 644)) 70 (f 646)) 71 (f 647)) 72 (f 648)) 74 (f 650)) 76 (f 652)) 78 (f 654)) fl (va_up (va_up (va_up (va_up (va_up g 2 (va_cpy (g 11) (g 2) 0 0 8)) 3 (va_cpy (g 12) (g 3) 0 0 8)) 4 (va_cpy (g 13) (g 4) 0 0 8)) 5 (va_cpy (g 14) (g 5) 0 0 3)) 6 (va_cpy (g 15) (g 6) 0 0 6)) gl hh v tx) rfl rfl (Wa_15 _ _ _ _ _ _ _) (Wa_6 _ _ _ _ _ _ _) (by decide) (Ws_6 _ _ _ _ _ _ _ _)) ?_
  refine WP.run hP_45 7 (c' := (149, [some (.ref 1), some (.ref 10), none], [.int 3, .int 0, .ref 8, .int 0, .ref 17], Wd (va_up (va_up (va_up (va_up (va_up (va_up (va_up (va_up f 64 (f 640)) 68 (f 644)) 70 (f 646)) 71 (f 647)) 72 (f 648)) 74 (f 650)) 76 (f 652)) 78 (f 654)) fl (va_up (va_up (va_up (va_up (va_up g 2 (va_cpy (g 11) (g 2) 0 0 8)) 3 (va_cpy (g 12) (g 3) 0 0 8)) 4 (va_cpy (g 13) (g 4) 0 0 8)) 5 (va_cpy (g 14) (g 5) 0 0 3)) 6 (va_cpy (g 15) (g 6) 0 0 6)) gl hh v tx)) rfl ?_
  refine WP.of (fun _ _ => Ex.acopy hP_45 (w2 := Wd (va_up (va_up (va_up (va_up (va_up (va_up (va_up (va_up f 64 (f 640)) 68 (f 644)) 70 (f 646)) 71 (f 647)) 72 (f 648)) 74 (f 650)) 76 (f 652)) 78 (f 654)) fl (va_up (va_up (va_up (va_up (va_up (va_up g 2 (va_cpy (g 11) (g 2) 0 0 8)) 3 (va_cpy (g 12) (g 3) 0 0 8)) 4 (va_cpy (g 13) (g 4) 0 0 8)) 5 (va_cpy (g 14) (g 5) 0 0 3)) 6 (va_cpy (g 15) (g 6) 0 0 6)) 8 (va_cpy (g 17) (g 8) 0 0 3)) gl hh v tx) rfl rfl (Wa_17 _ _ _ _ _ _ _) (Wa_8 _ _ _ _ _ _ _) (by decide) (Ws_8 _ _ _ _ _ _ _ _)) ?_
  refine WP.run hP_45 7 (c' := (164, [some (.ref 1), some (.ref 10), none], [.int 16, .int 0, .ref 9, .int 0, .ref 18], Wd (va_up (va_up (va_up (va_up (va_up (va_up (va_up (va_up f 64 (f 640)) 68 (f 644)) 70 (f 646)) 71 (f 647)) 72 (f 648)) 74 (f 650)) 76 (f 652)) 78 (f 654)) fl (va_up (va_up (va_up (va_up (va_up (va_up g 2 (va_cpy (g 11) (g 2) 0 0 8)) 3 (va_cpy (g 12) (g 3) 0 0 8)) 4 (va_cpy (g 13) (g 4) 0 0 8)) 5 (va_cpy (g 14) (g 5) 0 0 3)) 6 (va_cpy (g 15) (g 6) 0 0 6)) 8 (va_cpy (g 17) (g 8) 0 0 3)) gl hh v tx)) rfl ?_
  refine WP.of (fun _ _ => Ex.acopy hP_45 (w2 := Wd (va_up (va_up (va_up (va_up (va_up (va_up (va_up (va_up f 64 (f 640)) 68 (f 644)) 70 (f 646)) 71 (f 647)) 72 (f 648)) 74 (f 650)) 76 (f 652)) 78 (f 654)) fl (va_up (va_up (va_up (va_up (va_up (va_up (va_up g 2 (va_cpy (g 11) (g 2) 0 0 8)) 3 (va_cpy (g 12) (g 3) 0 0 8)) 4 (va_cpy (g 13) (g 4) 0 0 8)) 5 (va_cpy (g 14) (g 5) 0 0 3)) 6 (va_cpy (g 15) (g 6) 0 0 6)) 8 (va_cpy (g 17) (g 8) 0 0 3)) 9 (va_cpy (g 18) (g 9) 0 0 16)) gl hh v tx) rfl rfl (Wa_18 _ _ _ _ _ _ _) (Wa_9 _ _ _ _ _ _ _) (by decide) (Ws_9 _ _ _ _ _ _ _ _)) ?_
  refine WP.run hP_45 2 (c' := (169, [some (.ref 1), some (.ref 10), some (.int 0)], [], Wd (va_up (va_up (va_up (va_up (va_up (va_up (va_up (va_up f 64 (f 640)) 68 (f 644)) 70 (f 646)) 71 (f 647)) 72 (f 648)) 74 (f 650)) 76 (f 652)) 78 (f 654)) fl (va_up (va_up (va_up (va_up (va_up (va_up (va_up g 2 (va_cpy (g 11) (g 2) 0 0 8)) 3 (va_cpy (g 12) (g 3) 0 0 8)) 4 (va_cpy (g 13) (g 4) 0 0 8)) 5 (va_cpy (g 14) (g 5) 0 0 3)) 6 (va_cpy (g 15) (g 6) 0 0 6)) 8 (va_cpy (g 17) (g 8) 0 0 3)) 9 (va_cpy (g 18) (g 9) 0 0 16)) gl hh v tx)) rfl ?_
  exact h

set_option maxRecDepth 20000 in
theorem b_yst_copy_1_10_169 (X : mm_X) (d : Nat) (f : Nat → Int32) (fl : Nat → Int64) (g : Nat → Nat → Int32) (gl : Nat → Nat → Int64) (hh : Nat → Nat → Option Nat) (v : Nat → Value) (tx : mm_W) (l2 : Int32)  (P : Option Value → mm_W → Prop)
    (h : ((6 ≤ l2) → P none (Wd f fl g gl hh v tx)) ∧
    ((¬ (6 ≤ l2)) → ((¬ (l2 < 0 ∨ 6 ≤ l2.toNatClampNeg)) ∧ ((¬ (l2 < 0 ∨ 6 ≤ l2.toNatClampNeg)) ∧ ((∀ o, ((hh 16) l2.toNatClampNeg) = some o → ∃ fs, (Wd f fl g gl hh v tx)[o]? = some (.inr (6, fs))) ∧ WP X (d) 45 (169, [some (.ref 1), some (.ref 10), some (.int (l2 + (1 : Int32)))], [], Wd f fl g gl (va_up hh 7 (va_up (hh 7) (l2.toNatClampNeg) ((hh 16) l2.toNatClampNeg))) v tx) P))))) :
    WP X (d) 45 (169, [some (.ref 1), some (.ref 10), some (.int l2)], [], Wd f fl g gl hh v tx) P := by
  refine WP.run hP_45 2 (c' := (172, [some (.ref 1), some (.ref 10), some (.int l2)], [.int 6, .int l2], Wd f fl g gl hh v tx)) rfl ?_
  refine WP.br hP_45 (q := 6 ≤ l2) (t := 193) (f := 175) (L := [some (.ref 1), some (.ref 10), some (.int l2)]) (st := []) (w := Wd f fl g gl hh v tx) rfl (fun c1 => ?_) (fun c1 => ?_)
  · have h2 := h.1 c1
    exact WP.ret hP_45 (r := none) (w' := Wd f fl g gl hh v tx) rfl h2
  · have h3 := h.2 c1
    refine WP.run hP_45 6 (c' := (185, [some (.ref 1), some (.ref 10), some (.int l2)], [.int l2, .ref 16, .int l2, .ref 7], Wd f fl g gl hh v tx)) rfl ?_
    refine WP.of (fun _ _ => Ex.aald4 hP_45 rfl (Wa_16 _ _ _ _ _ _ _) h3.1) ?_
    have h4 := h3.2
    refine WP.of (fun _ _ => Ex.aastV hP_45 (w2 := Wd f fl g gl (va_up hh 7 (va_up (hh 7) (l2.toNatClampNeg) ((hh 16) l2.toNatClampNeg))) v tx) rfl (Wa_7 _ _ _ _ _ _ _) h4.1 h4.2.1 (Ws_7 _ _ _ _ _ _ _ _)) ?_
    have h5 := h4.2
    have h6 := h5.2
    refine WP.run hP_45 2 (c' := (169, [some (.ref 1), some (.ref 10), some (.int (l2 + (1 : Int32)))], [], Wd f fl g gl (va_up hh 7 (va_up (hh 7) (l2.toNatClampNeg) ((hh 16) l2.toNatClampNeg))) v tx)) rfl ?_
    exact h6

set_option maxRecDepth 20000 in
theorem b_yst_copy_19_1_0 (X : mm_X) (d : Nat) (f : Nat → Int32) (fl : Nat → Int64) (g : Nat → Nat → Int32) (gl : Nat → Nat → Int64) (hh : Nat → Nat → Option Nat) (v : Nat → Value) (tx : mm_W)   (P : Option Value → mm_W → Prop)
    (h : WP X (d) 45 (169, [some (.ref 19), some (.ref 1), some (.int 0)], [], Wd (va_up (va_up (va_up (va_up (va_up (va_up (va_up (va_up f 1216 (f 64)) 1220 (f 68)) 1222 (f 70)) 1223 (f 71)) 1224 (f 72)) 1226 (f 74)) 1228 (f 76)) 1230 (f 78)) fl (va_up (va_up (va_up (va_up (va_up (va_up (va_up g 20 (va_cpy (g 2) (g 20) 0 0 8)) 21 (va_cpy (g 3) (g 21) 0 0 8)) 22 (va_cpy (g 4) (g 22) 0 0 8)) 23 (va_cpy (g 5) (g 23) 0 0 3)) 24 (va_cpy (g 6) (g 24) 0 0 6)) 26 (va_cpy (g 8) (g 26) 0 0 3)) 27 (va_cpy (g 9) (g 27) 0 0 16)) gl hh v tx) P) :
    WP X (d) 45 (0, [some (.ref 19), some (.ref 1), none], [], Wd f fl g gl hh v tx) P := by
  refine WP.run hP_45 39 (c' := (76, [some (.ref 19), some (.ref 1), none], [.int 8, .int 0, .ref 20, .int 0, .ref 2], Wd (va_up (va_up (va_up (va_up (va_up (va_up (va_up (va_up f 1216 (f 64)) 1220 (f 68)) 1222 (f 70)) 1223 (f 71)) 1224 (f 72)) 1226 (f 74)) 1228 (f 76)) 1230 (f 78)) fl g gl hh v tx)) rfl ?_
  refine WP.of (fun _ _ => Ex.acopy hP_45 (w2 := Wd (va_up (va_up (va_up (va_up (va_up (va_up (va_up (va_up f 1216 (f 64)) 1220 (f 68)) 1222 (f 70)) 1223 (f 71)) 1224 (f 72)) 1226 (f 74)) 1228 (f 76)) 1230 (f 78)) fl (va_up g 20 (va_cpy (g 2) (g 20) 0 0 8)) gl hh v tx) rfl rfl (Wa_2 _ _ _ _ _ _ _) (Wa_20 _ _ _ _ _ _ _) (by decide) (Ws_20 _ _ _ _ _ _ _ _)) ?_
  refine WP.run hP_45 7 (c' := (91, [some (.ref 19), some (.ref 1), none], [.int 8, .int 0, .ref 21, .int 0, .ref 3], Wd (va_up (va_up (va_up (va_up (va_up (va_up (va_up (va_up f 1216 (f 64)) 1220 (f 68)) 1222 (f 70)) 1223 (f 71)) 1224 (f 72)) 1226 (f 74)) 1228 (f 76)) 1230 (f 78)) fl (va_up g 20 (va_cpy (g 2) (g 20) 0 0 8)) gl hh v tx)) rfl ?_
  refine WP.of (fun _ _ => Ex.acopy hP_45 (w2 := Wd (va_up (va_up (va_up (va_up (va_up (va_up (va_up (va_up f 1216 (f 64)) 1220 (f 68)) 1222 (f 70)) 1223 (f 71)) 1224 (f 72)) 1226 (f 74)) 1228 (f 76)) 1230 (f 78)) fl (va_up (va_up g 20 (va_cpy (g 2) (g 20) 0 0 8)) 21 (va_cpy (g 3) (g 21) 0 0 8)) gl hh v tx) rfl rfl (Wa_3 _ _ _ _ _ _ _) (Wa_21 _ _ _ _ _ _ _) (by decide) (Ws_21 _ _ _ _ _ _ _ _)) ?_
  refine WP.run hP_45 7 (c' := (106, [some (.ref 19), some (.ref 1), none], [.int 8, .int 0, .ref 22, .int 0, .ref 4], Wd (va_up (va_up (va_up (va_up (va_up (va_up (va_up (va_up f 1216 (f 64)) 1220 (f 68)) 1222 (f 70)) 1223 (f 71)) 1224 (f 72)) 1226 (f 74)) 1228 (f 76)) 1230 (f 78)) fl (va_up (va_up g 20 (va_cpy (g 2) (g 20) 0 0 8)) 21 (va_cpy (g 3) (g 21) 0 0 8)) gl hh v tx)) rfl ?_
  refine WP.of (fun _ _ => Ex.acopy hP_45 (w2 := Wd (va_up (va_up (va_up (va_up (va_up (va_up (va_up (va_up f 1216 (f 64)) 1220 (f 68)) 1222 (f 70)) 1223 (f 71)) 1224 (f 72)) 1226 (f 74)) 1228 (f 76)) 1230 (f 78)) fl (va_up (va_up (va_up g 20 (va_cpy (g 2) (g 20) 0 0 8)) 21 (va_cpy (g 3) (g 21) 0 0 8)) 22 (va_cpy (g 4) (g 22) 0 0 8)) gl hh v tx) rfl rfl (Wa_4 _ _ _ _ _ _ _) (Wa_22 _ _ _ _ _ _ _) (by decide) (Ws_22 _ _ _ _ _ _ _ _)) ?_
  refine WP.run hP_45 7 (c' := (120, [some (.ref 19), some (.ref 1), none], [.int 3, .int 0, .ref 23, .int 0, .ref 5], Wd (va_up (va_up (va_up (va_up (va_up (va_up (va_up (va_up f 1216 (f 64)) 1220 (f 68)) 1222 (f 70)) 1223 (f 71)) 1224 (f 72)) 1226 (f 74)) 1228 (f 76)) 1230 (f 78)) fl (va_up (va_up (va_up g 20 (va_cpy (g 2) (g 20) 0 0 8)) 21 (va_cpy (g 3) (g 21) 0 0 8)) 22 (va_cpy (g 4) (g 22) 0 0 8)) gl hh v tx)) rfl ?_
  refine WP.of (fun _ _ => Ex.acopy hP_45 (w2 := Wd (va_up (va_up (va_up (va_up (va_up (va_up (va_up (va_up f 1216 (f 64)) 1220 (f 68)) 1222 (f 70)) 1223 (f 71)) 1224 (f 72)) 1226 (f 74)) 1228 (f 76)) 1230 (f 78)) fl (va_up (va_up (va_up (va_up g 20 (va_cpy (g 2) (g 20) 0 0 8)) 21 (va_cpy (g 3) (g 21) 0 0 8)) 22 (va_cpy (g 4) (g 22) 0 0 8)) 23 (va_cpy (g 5) (g 23) 0 0 3)) gl hh v tx) rfl rfl (Wa_5 _ _ _ _ _ _ _) (Wa_23 _ _ _ _ _ _ _) (by decide) (Ws_23 _ _ _ _ _ _ _ _)) ?_
  refine WP.run hP_45 7 (c' := (135, [some (.ref 19), some (.ref 1), none], [.int 6, .int 0, .ref 24, .int 0, .ref 6], Wd (va_up (va_up (va_up (va_up (va_up (va_up (va_up (va_up f 1216 (f 64)) 1220 (f 68)) 1222 (f 70)) 1223 (f 71)) 1224 (f 72)) 1226 (f 74)) 1228 (f 76)) 1230 (f 78)) fl (va_up (va_up (va_up (va_up g 20 (va_cpy (g 2) (g 20) 0 0 8)) 21 (va_cpy (g 3) (g 21) 0 0 8)) 22 (va_cpy (g 4) (g 22) 0 0 8)) 23 (va_cpy (g 5) (g 23) 0 0 3)) gl hh v tx)) rfl ?_
  refine WP.of (fun _ _ => Ex.acopy hP_45 (w2 := Wd (va_up (va_up (va_up (va_up (va_up (va_up (va_up (va_up f 1216 (f 64)) 1220 (f 68)) 1222 (f 70)) 1223 (f 71)) 1224 (f 72)) 1226 (f 74)) 1228 (f 76)) 1230 (f 78)) fl (va_up (va_up (va_up (va_up (va_up g 20 (va_cpy (g 2) (g 20) 0 0 8)) 21 (va_cpy (g 3) (g 21) 0 0 8)) 22 (va_cpy (g 4) (g 22) 0 0 8)) 23 (va_cpy (g 5) (g 23) 0 0 3)) 24 (va_cpy (g 6) (g 24) 0 0 6)) gl hh v tx) rfl rfl (Wa_6 _ _ _ _ _ _ _) (Wa_24 _ _ _ _ _ _ _) (by decide) (Ws_24 _ _ _ _ _ _ _ _)) ?_
  refine WP.run hP_45 7 (c' := (149, [some (.ref 19), some (.ref 1), none], [.int 3, .int 0, .ref 26, .int 0, .ref 8], Wd (va_up (va_up (va_up (va_up (va_up (va_up (va_up (va_up f 1216 (f 64)) 1220 (f 68)) 1222 (f 70)) 1223 (f 71)) 1224 (f 72)) 1226 (f 74)) 1228 (f 76)) 1230 (f 78)) fl (va_up (va_up (va_up (va_up (va_up g 20 (va_cpy (g 2) (g 20) 0 0 8)) 21 (va_cpy (g 3) (g 21) 0 0 8)) 22 (va_cpy (g 4) (g 22) 0 0 8)) 23 (va_cpy (g 5) (g 23) 0 0 3)) 24 (va_cpy (g 6) (g 24) 0 0 6)) gl hh v tx)) rfl ?_
  refine WP.of (fun _ _ => Ex.acopy hP_45 (w2 := Wd (va_up (va_up (va_up (va_up (va_up (va_up (va_up (va_up f 1216 (f 64)) 1220 (f 68)) 1222 (f 70)) 1223 (f 71)) 1224 (f 72)) 1226 (f 74)) 1228 (f 76)) 1230 (f 78)) fl (va_up (va_up (va_up (va_up (va_up (va_up g 20 (va_cpy (g 2) (g 20) 0 0 8)) 21 (va_cpy (g 3) (g 21) 0 0 8)) 22 (va_cpy (g 4) (g 22) 0 0 8)) 23 (va_cpy (g 5) (g 23) 0 0 3)) 24 (va_cpy (g 6) (g 24) 0 0 6)) 26 (va_cpy (g 8) (g 26) 0 0 3)) gl hh v tx) rfl rfl (Wa_8 _ _ _ _ _ _ _) (Wa_26 _ _ _ _ _ _ _) (by decide) (Ws_26 _ _ _ _ _ _ _ _)) ?_
  refine WP.run hP_45 7 (c' := (164, [some (.ref 19), some (.ref 1), none], [.int 16, .int 0, .ref 27, .int 0, .ref 9], Wd (va_up (va_up (va_up (va_up (va_up (va_up (va_up (va_up f 1216 (f 64)) 1220 (f 68)) 1222 (f 70)) 1223 (f 71)) 1224 (f 72)) 1226 (f 74)) 1228 (f 76)) 1230 (f 78)) fl (va_up (va_up (va_up (va_up (va_up (va_up g 20 (va_cpy (g 2) (g 20) 0 0 8)) 21 (va_cpy (g 3) (g 21) 0 0 8)) 22 (va_cpy (g 4) (g 22) 0 0 8)) 23 (va_cpy (g 5) (g 23) 0 0 3)) 24 (va_cpy (g 6) (g 24) 0 0 6)) 26 (va_cpy (g 8) (g 26) 0 0 3)) gl hh v tx)) rfl ?_
  refine WP.of (fun _ _ => Ex.acopy hP_45 (w2 := Wd (va_up (va_up (va_up (va_up (va_up (va_up (va_up (va_up f 1216 (f 64)) 1220 (f 68)) 1222 (f 70)) 1223 (f 71)) 1224 (f 72)) 1226 (f 74)) 1228 (f 76)) 1230 (f 78)) fl (va_up (va_up (va_up (va_up (va_up (va_up (va_up g 20 (va_cpy (g 2) (g 20) 0 0 8)) 21 (va_cpy (g 3) (g 21) 0 0 8)) 22 (va_cpy (g 4) (g 22) 0 0 8)) 23 (va_cpy (g 5) (g 23) 0 0 3)) 24 (va_cpy (g 6) (g 24) 0 0 6)) 26 (va_cpy (g 8) (g 26) 0 0 3)) 27 (va_cpy (g 9) (g 27) 0 0 16)) gl hh v tx) rfl rfl (Wa_9 _ _ _ _ _ _ _) (Wa_27 _ _ _ _ _ _ _) (by decide) (Ws_27 _ _ _ _ _ _ _ _)) ?_
  refine WP.run hP_45 2 (c' := (169, [some (.ref 19), some (.ref 1), some (.int 0)], [], Wd (va_up (va_up (va_up (va_up (va_up (va_up (va_up (va_up f 1216 (f 64)) 1220 (f 68)) 1222 (f 70)) 1223 (f 71)) 1224 (f 72)) 1226 (f 74)) 1228 (f 76)) 1230 (f 78)) fl (va_up (va_up (va_up (va_up (va_up (va_up (va_up g 20 (va_cpy (g 2) (g 20) 0 0 8)) 21 (va_cpy (g 3) (g 21) 0 0 8)) 22 (va_cpy (g 4) (g 22) 0 0 8)) 23 (va_cpy (g 5) (g 23) 0 0 3)) 24 (va_cpy (g 6) (g 24) 0 0 6)) 26 (va_cpy (g 8) (g 26) 0 0 3)) 27 (va_cpy (g 9) (g 27) 0 0 16)) gl hh v tx)) rfl ?_
  exact h

set_option maxRecDepth 20000 in
theorem b_yst_copy_19_1_169 (X : mm_X) (d : Nat) (f : Nat → Int32) (fl : Nat → Int64) (g : Nat → Nat → Int32) (gl : Nat → Nat → Int64) (hh : Nat → Nat → Option Nat) (v : Nat → Value) (tx : mm_W) (l2 : Int32)  (P : Option Value → mm_W → Prop)
    (h : ((6 ≤ l2) → P none (Wd f fl g gl hh v tx)) ∧
    ((¬ (6 ≤ l2)) → ((¬ (l2 < 0 ∨ 6 ≤ l2.toNatClampNeg)) ∧ ((¬ (l2 < 0 ∨ 6 ≤ l2.toNatClampNeg)) ∧ ((∀ o, ((hh 7) l2.toNatClampNeg) = some o → ∃ fs, (Wd f fl g gl hh v tx)[o]? = some (.inr (6, fs))) ∧ WP X (d) 45 (169, [some (.ref 19), some (.ref 1), some (.int (l2 + (1 : Int32)))], [], Wd f fl g gl (va_up hh 25 (va_up (hh 25) (l2.toNatClampNeg) ((hh 7) l2.toNatClampNeg))) v tx) P))))) :
    WP X (d) 45 (169, [some (.ref 19), some (.ref 1), some (.int l2)], [], Wd f fl g gl hh v tx) P := by
  refine WP.run hP_45 2 (c' := (172, [some (.ref 19), some (.ref 1), some (.int l2)], [.int 6, .int l2], Wd f fl g gl hh v tx)) rfl ?_
  refine WP.br hP_45 (q := 6 ≤ l2) (t := 193) (f := 175) (L := [some (.ref 19), some (.ref 1), some (.int l2)]) (st := []) (w := Wd f fl g gl hh v tx) rfl (fun c1 => ?_) (fun c1 => ?_)
  · have h2 := h.1 c1
    exact WP.ret hP_45 (r := none) (w' := Wd f fl g gl hh v tx) rfl h2
  · have h3 := h.2 c1
    refine WP.run hP_45 6 (c' := (185, [some (.ref 19), some (.ref 1), some (.int l2)], [.int l2, .ref 7, .int l2, .ref 25], Wd f fl g gl hh v tx)) rfl ?_
    refine WP.of (fun _ _ => Ex.aald4 hP_45 rfl (Wa_7 _ _ _ _ _ _ _) h3.1) ?_
    have h4 := h3.2
    refine WP.of (fun _ _ => Ex.aastV hP_45 (w2 := Wd f fl g gl (va_up hh 25 (va_up (hh 25) (l2.toNatClampNeg) ((hh 7) l2.toNatClampNeg))) v tx) rfl (Wa_25 _ _ _ _ _ _ _) h4.1 h4.2.1 (Ws_25 _ _ _ _ _ _ _ _)) ?_
    have h5 := h4.2
    have h6 := h5.2
    refine WP.run hP_45 2 (c' := (169, [some (.ref 19), some (.ref 1), some (.int (l2 + (1 : Int32)))], [], Wd f fl g gl (va_up hh 25 (va_up (hh 25) (l2.toNatClampNeg) ((hh 7) l2.toNatClampNeg))) v tx)) rfl ?_
    exact h6

set_option maxRecDepth 20000 in
theorem b_yst_copy_56_1_0 (X : mm_X) (d : Nat) (f : Nat → Int32) (fl : Nat → Int64) (g : Nat → Nat → Int32) (gl : Nat → Nat → Int64) (hh : Nat → Nat → Option Nat) (v : Nat → Value) (tx : mm_W)   (P : Option Value → mm_W → Prop)
    (h : WP X (d) 45 (169, [some (.ref 56), some (.ref 1), some (.int 0)], [], Wd (va_up (va_up (va_up (va_up (va_up (va_up (va_up (va_up f 3584 (f 64)) 3588 (f 68)) 3590 (f 70)) 3591 (f 71)) 3592 (f 72)) 3594 (f 74)) 3596 (f 76)) 3598 (f 78)) fl (va_up (va_up (va_up (va_up (va_up (va_up (va_up g 57 (va_cpy (g 2) (g 57) 0 0 8)) 58 (va_cpy (g 3) (g 58) 0 0 8)) 59 (va_cpy (g 4) (g 59) 0 0 8)) 60 (va_cpy (g 5) (g 60) 0 0 3)) 61 (va_cpy (g 6) (g 61) 0 0 6)) 63 (va_cpy (g 8) (g 63) 0 0 3)) 64 (va_cpy (g 9) (g 64) 0 0 16)) gl hh v tx) P) :
    WP X (d) 45 (0, [some (.ref 56), some (.ref 1), none], [], Wd f fl g gl hh v tx) P := by
  refine WP.run hP_45 39 (c' := (76, [some (.ref 56), some (.ref 1), none], [.int 8, .int 0, .ref 57, .int 0, .ref 2], Wd (va_up (va_up (va_up (va_up (va_up (va_up (va_up (va_up f 3584 (f 64)) 3588 (f 68)) 3590 (f 70)) 3591 (f 71)) 3592 (f 72)) 3594 (f 74)) 3596 (f 76)) 3598 (f 78)) fl g gl hh v tx)) rfl ?_
  refine WP.of (fun _ _ => Ex.acopy hP_45 (w2 := Wd (va_up (va_up (va_up (va_up (va_up (va_up (va_up (va_up f 3584 (f 64)) 3588 (f 68)) 3590 (f 70)) 3591 (f 71)) 3592 (f 72)) 3594 (f 74)) 3596 (f 76)) 3598 (f 78)) fl (va_up g 57 (va_cpy (g 2) (g 57) 0 0 8)) gl hh v tx) rfl rfl (Wa_2 _ _ _ _ _ _ _) (Wa_57 _ _ _ _ _ _ _) (by decide) (Ws_57 _ _ _ _ _ _ _ _)) ?_
  refine WP.run hP_45 7 (c' := (91, [some (.ref 56), some (.ref 1), none], [.int 8, .int 0, .ref 58, .int 0, .ref 3], Wd (va_up (va_up (va_up (va_up (va_up (va_up (va_up (va_up f 3584 (f 64)) 3588 (f 68)) 3590 (f 70)) 3591 (f 71)) 3592 (f 72)) 3594 (f 74)) 3596 (f 76)) 3598 (f 78)) fl (va_up g 57 (va_cpy (g 2) (g 57) 0 0 8)) gl hh v tx)) rfl ?_
  refine WP.of (fun _ _ => Ex.acopy hP_45 (w2 := Wd (va_up (va_up (va_up (va_up (va_up (va_up (va_up (va_up f 3584 (f 64)) 3588 (f 68)) 3590 (f 70)) 3591 (f 71)) 3592 (f 72)) 3594 (f 74)) 3596 (f 76)) 3598 (f 78)) fl (va_up (va_up g 57 (va_cpy (g 2) (g 57) 0 0 8)) 58 (va_cpy (g 3) (g 58) 0 0 8)) gl hh v tx) rfl rfl (Wa_3 _ _ _ _ _ _ _) (Wa_58 _ _ _ _ _ _ _) (by decide) (Ws_58 _ _ _ _ _ _ _ _)) ?_
  refine WP.run hP_45 7 (c' := (106, [some (.ref 56), some (.ref 1), none], [.int 8, .int 0, .ref 59, .int 0, .ref 4], Wd (va_up (va_up (va_up (va_up (va_up (va_up (va_up (va_up f 3584 (f 64)) 3588 (f 68)) 3590 (f 70)) 3591 (f 71)) 3592 (f 72)) 3594 (f 74)) 3596 (f 76)) 3598 (f 78)) fl (va_up (va_up g 57 (va_cpy (g 2) (g 57) 0 0 8)) 58 (va_cpy (g 3) (g 58) 0 0 8)) gl hh v tx)) rfl ?_
  refine WP.of (fun _ _ => Ex.acopy hP_45 (w2 := Wd (va_up (va_up (va_up (va_up (va_up (va_up (va_up (va_up f 3584 (f 64)) 3588 (f 68)) 3590 (f 70)) 3591 (f 71)) 3592 (f 72)) 3594 (f 74)) 3596 (f 76)) 3598 (f 78)) fl (va_up (va_up (va_up g 57 (va_cpy (g 2) (g 57) 0 0 8)) 58 (va_cpy (g 3) (g 58) 0 0 8)) 59 (va_cpy (g 4) (g 59) 0 0 8)) gl hh v tx) rfl rfl (Wa_4 _ _ _ _ _ _ _) (Wa_59 _ _ _ _ _ _ _) (by decide) (Ws_59 _ _ _ _ _ _ _ _)) ?_
  refine WP.run hP_45 7 (c' := (120, [some (.ref 56), some (.ref 1), none], [.int 3, .int 0, .ref 60, .int 0, .ref 5], Wd (va_up (va_up (va_up (va_up (va_up (va_up (va_up (va_up f 3584 (f 64)) 3588 (f 68)) 3590 (f 70)) 3591 (f 71)) 3592 (f 72)) 3594 (f 74)) 3596 (f 76)) 3598 (f 78)) fl (va_up (va_up (va_up g 57 (va_cpy (g 2) (g 57) 0 0 8)) 58 (va_cpy (g 3) (g 58) 0 0 8)) 59 (va_cpy (g 4) (g 59) 0 0 8)) gl hh v tx)) rfl ?_
  refine WP.of (fun _ _ => Ex.acopy hP_45 (w2 := Wd (va_up (va_up (va_up (va_up (va_up (va_up (va_up (va_up f 3584 (f 64)) 3588 (f 68)) 3590 (f 70)) 3591 (f 71)) 3592 (f 72)) 3594 (f 74)) 3596 (f 76)) 3598 (f 78)) fl (va_up (va_up (va_up (va_up g 57 (va_cpy (g 2) (g 57) 0 0 8)) 58 (va_cpy (g 3) (g 58) 0 0 8)) 59 (va_cpy (g 4) (g 59) 0 0 8)) 60 (va_cpy (g 5) (g 60) 0 0 3)) gl hh v tx) rfl rfl (Wa_5 _ _ _ _ _ _ _) (Wa_60 _ _ _ _ _ _ _) (by decide) (Ws_60 _ _ _ _ _ _ _ _)) ?_
  refine WP.run hP_45 7 (c' := (135, [some (.ref 56), some (.ref 1), none], [.int 6, .int 0, .ref 61, .int 0, .ref 6], Wd (va_up (va_up (va_up (va_up (va_up (va_up (va_up (va_up f 3584 (f 64)) 3588 (f 68)) 3590 (f 70)) 3591 (f 71)) 3592 (f 72)) 3594 (f 74)) 3596 (f 76)) 3598 (f 78)) fl (va_up (va_up (va_up (va_up g 57 (va_cpy (g 2) (g 57) 0 0 8)) 58 (va_cpy (g 3) (g 58) 0 0 8)) 59 (va_cpy (g 4) (g 59) 0 0 8)) 60 (va_cpy (g 5) (g 60) 0 0 3)) gl hh v tx)) rfl ?_
  refine WP.of (fun _ _ => Ex.acopy hP_45 (w2 := Wd (va_up (va_up (va_up (va_up (va_up (va_up (va_up (va_up f 3584 (f 64)) 3588 (f 68)) 3590 (f 70)) 3591 (f 71)) 3592 (f 72)) 3594 (f 74)) 3596 (f 76)) 3598 (f 78)) fl (va_up (va_up (va_up (va_up (va_up g 57 (va_cpy (g 2) (g 57) 0 0 8)) 58 (va_cpy (g 3) (g 58) 0 0 8)) 59 (va_cpy (g 4) (g 59) 0 0 8)) 60 (va_cpy (g 5) (g 60) 0 0 3)) 61 (va_cpy (g 6) (g 61) 0 0 6)) gl hh v tx) rfl rfl (Wa_6 _ _ _ _ _ _ _) (Wa_61 _ _ _ _ _ _ _) (by decide) (Ws_61 _ _ _ _ _ _ _ _)) ?_
  refine WP.run hP_45 7 (c' := (149, [some (.ref 56), some (.ref 1), none], [.int 3, .int 0, .ref 63, .int 0, .ref 8], Wd (va_up (va_up (va_up (va_up (va_up (va_up (va_up (va_up f 3584 (f 64)) 3588 (f 68)) 3590 (f 70)) 3591 (f 71)) 3592 (f 72)) 3594 (f 74)) 3596 (f 76)) 3598 (f 78)) fl (va_up (va_up (va_up (va_up (va_up g 57 (va_cpy (g 2) (g 57) 0 0 8)) 58 (va_cpy (g 3) (g 58) 0 0 8)) 59 (va_cpy (g 4) (g 59) 0 0 8)) 60 (va_cpy (g 5) (g 60) 0 0 3)) 61 (va_cpy (g 6) (g 61) 0 0 6)) gl hh v tx)) rfl ?_
  refine WP.of (fun _ _ => Ex.acopy hP_45 (w2 := Wd (va_up (va_up (va_up (va_up (va_up (va_up (va_up (va_up f 3584 (f 64)) 3588 (f 68)) 3590 (f 70)) 3591 (f 71)) 3592 (f 72)) 3594 (f 74)) 3596 (f 76)) 3598 (f 78)) fl (va_up (va_up (va_up (va_up (va_up (va_up g 57 (va_cpy (g 2) (g 57) 0 0 8)) 58 (va_cpy (g 3) (g 58) 0 0 8)) 59 (va_cpy (g 4) (g 59) 0 0 8)) 60 (va_cpy (g 5) (g 60) 0 0 3)) 61 (va_cpy (g 6) (g 61) 0 0 6)) 63 (va_cpy (g 8) (g 63) 0 0 3)) gl hh v tx) rfl rfl (Wa_8 _ _ _ _ _ _ _) (Wa_63 _ _ _ _ _ _ _) (by decide) (Ws_63 _ _ _ _ _ _ _ _)) ?_
  refine WP.run hP_45 7 (c' := (164, [some (.ref 56), some (.ref 1), none], [.int 16, .int 0, .ref 64, .int 0, .ref 9], Wd (va_up (va_up (va_up (va_up (va_up (va_up (va_up (va_up f 3584 (f 64)) 3588 (f 68)) 3590 (f 70)) 3591 (f 71)) 3592 (f 72)) 3594 (f 74)) 3596 (f 76)) 3598 (f 78)) fl (va_up (va_up (va_up (va_up (va_up (va_up g 57 (va_cpy (g 2) (g 57) 0 0 8)) 58 (va_cpy (g 3) (g 58) 0 0 8)) 59 (va_cpy (g 4) (g 59) 0 0 8)) 60 (va_cpy (g 5) (g 60) 0 0 3)) 61 (va_cpy (g 6) (g 61) 0 0 6)) 63 (va_cpy (g 8) (g 63) 0 0 3)) gl hh v tx)) rfl ?_
  refine WP.of (fun _ _ => Ex.acopy hP_45 (w2 := Wd (va_up (va_up (va_up (va_up (va_up (va_up (va_up (va_up f 3584 (f 64)) 3588 (f 68)) 3590 (f 70)) 3591 (f 71)) 3592 (f 72)) 3594 (f 74)) 3596 (f 76)) 3598 (f 78)) fl (va_up (va_up (va_up (va_up (va_up (va_up (va_up g 57 (va_cpy (g 2) (g 57) 0 0 8)) 58 (va_cpy (g 3) (g 58) 0 0 8)) 59 (va_cpy (g 4) (g 59) 0 0 8)) 60 (va_cpy (g 5) (g 60) 0 0 3)) 61 (va_cpy (g 6) (g 61) 0 0 6)) 63 (va_cpy (g 8) (g 63) 0 0 3)) 64 (va_cpy (g 9) (g 64) 0 0 16)) gl hh v tx) rfl rfl (Wa_9 _ _ _ _ _ _ _) (Wa_64 _ _ _ _ _ _ _) (by decide) (Ws_64 _ _ _ _ _ _ _ _)) ?_
  refine WP.run hP_45 2 (c' := (169, [some (.ref 56), some (.ref 1), some (.int 0)], [], Wd (va_up (va_up (va_up (va_up (va_up (va_up (va_up (va_up f 3584 (f 64)) 3588 (f 68)) 3590 (f 70)) 3591 (f 71)) 3592 (f 72)) 3594 (f 74)) 3596 (f 76)) 3598 (f 78)) fl (va_up (va_up (va_up (va_up (va_up (va_up (va_up g 57 (va_cpy (g 2) (g 57) 0 0 8)) 58 (va_cpy (g 3) (g 58) 0 0 8)) 59 (va_cpy (g 4) (g 59) 0 0 8)) 60 (va_cpy (g 5) (g 60) 0 0 3)) 61 (va_cpy (g 6) (g 61) 0 0 6)) 63 (va_cpy (g 8) (g 63) 0 0 3)) 64 (va_cpy (g 9) (g 64) 0 0 16)) gl hh v tx)) rfl ?_
  exact h

set_option maxRecDepth 20000 in
theorem b_yst_copy_56_1_169 (X : mm_X) (d : Nat) (f : Nat → Int32) (fl : Nat → Int64) (g : Nat → Nat → Int32) (gl : Nat → Nat → Int64) (hh : Nat → Nat → Option Nat) (v : Nat → Value) (tx : mm_W) (l2 : Int32)  (P : Option Value → mm_W → Prop)
    (h : ((6 ≤ l2) → P none (Wd f fl g gl hh v tx)) ∧
    ((¬ (6 ≤ l2)) → ((¬ (l2 < 0 ∨ 6 ≤ l2.toNatClampNeg)) ∧ ((¬ (l2 < 0 ∨ 6 ≤ l2.toNatClampNeg)) ∧ ((∀ o, ((hh 7) l2.toNatClampNeg) = some o → ∃ fs, (Wd f fl g gl hh v tx)[o]? = some (.inr (6, fs))) ∧ WP X (d) 45 (169, [some (.ref 56), some (.ref 1), some (.int (l2 + (1 : Int32)))], [], Wd f fl g gl (va_up hh 62 (va_up (hh 62) (l2.toNatClampNeg) ((hh 7) l2.toNatClampNeg))) v tx) P))))) :
    WP X (d) 45 (169, [some (.ref 56), some (.ref 1), some (.int l2)], [], Wd f fl g gl hh v tx) P := by
  refine WP.run hP_45 2 (c' := (172, [some (.ref 56), some (.ref 1), some (.int l2)], [.int 6, .int l2], Wd f fl g gl hh v tx)) rfl ?_
  refine WP.br hP_45 (q := 6 ≤ l2) (t := 193) (f := 175) (L := [some (.ref 56), some (.ref 1), some (.int l2)]) (st := []) (w := Wd f fl g gl hh v tx) rfl (fun c1 => ?_) (fun c1 => ?_)
  · have h2 := h.1 c1
    exact WP.ret hP_45 (r := none) (w' := Wd f fl g gl hh v tx) rfl h2
  · have h3 := h.2 c1
    refine WP.run hP_45 6 (c' := (185, [some (.ref 56), some (.ref 1), some (.int l2)], [.int l2, .ref 7, .int l2, .ref 62], Wd f fl g gl hh v tx)) rfl ?_
    refine WP.of (fun _ _ => Ex.aald4 hP_45 rfl (Wa_7 _ _ _ _ _ _ _) h3.1) ?_
    have h4 := h3.2
    refine WP.of (fun _ _ => Ex.aastV hP_45 (w2 := Wd f fl g gl (va_up hh 62 (va_up (hh 62) (l2.toNatClampNeg) ((hh 7) l2.toNatClampNeg))) v tx) rfl (Wa_62 _ _ _ _ _ _ _) h4.1 h4.2.1 (Ws_62 _ _ _ _ _ _ _ _)) ?_
    have h5 := h4.2
    have h6 := h5.2
    refine WP.run hP_45 2 (c' := (169, [some (.ref 56), some (.ref 1), some (.int (l2 + (1 : Int32)))], [], Wd f fl g gl (va_up hh 62 (va_up (hh 62) (l2.toNatClampNeg) ((hh 7) l2.toNatClampNeg))) v tx)) rfl ?_
    exact h6

set_option maxRecDepth 20000 in
theorem b_yst_copy_65_1_0 (X : mm_X) (d : Nat) (f : Nat → Int32) (fl : Nat → Int64) (g : Nat → Nat → Int32) (gl : Nat → Nat → Int64) (hh : Nat → Nat → Option Nat) (v : Nat → Value) (tx : mm_W)   (P : Option Value → mm_W → Prop)
    (h : WP X (d) 45 (169, [some (.ref 65), some (.ref 1), some (.int 0)], [], Wd (va_up (va_up (va_up (va_up (va_up (va_up (va_up (va_up f 4160 (f 64)) 4164 (f 68)) 4166 (f 70)) 4167 (f 71)) 4168 (f 72)) 4170 (f 74)) 4172 (f 76)) 4174 (f 78)) fl (va_up (va_up (va_up (va_up (va_up (va_up (va_up g 66 (va_cpy (g 2) (g 66) 0 0 8)) 67 (va_cpy (g 3) (g 67) 0 0 8)) 68 (va_cpy (g 4) (g 68) 0 0 8)) 69 (va_cpy (g 5) (g 69) 0 0 3)) 70 (va_cpy (g 6) (g 70) 0 0 6)) 72 (va_cpy (g 8) (g 72) 0 0 3)) 73 (va_cpy (g 9) (g 73) 0 0 16)) gl hh v tx) P) :
    WP X (d) 45 (0, [some (.ref 65), some (.ref 1), none], [], Wd f fl g gl hh v tx) P := by
  refine WP.run hP_45 39 (c' := (76, [some (.ref 65), some (.ref 1), none], [.int 8, .int 0, .ref 66, .int 0, .ref 2], Wd (va_up (va_up (va_up (va_up (va_up (va_up (va_up (va_up f 4160 (f 64)) 4164 (f 68)) 4166 (f 70)) 4167 (f 71)) 4168 (f 72)) 4170 (f 74)) 4172 (f 76)) 4174 (f 78)) fl g gl hh v tx)) rfl ?_
  refine WP.of (fun _ _ => Ex.acopy hP_45 (w2 := Wd (va_up (va_up (va_up (va_up (va_up (va_up (va_up (va_up f 4160 (f 64)) 4164 (f 68)) 4166 (f 70)) 4167 (f 71)) 4168 (f 72)) 4170 (f 74)) 4172 (f 76)) 4174 (f 78)) fl (va_up g 66 (va_cpy (g 2) (g 66) 0 0 8)) gl hh v tx) rfl rfl (Wa_2 _ _ _ _ _ _ _) (Wa_66 _ _ _ _ _ _ _) (by decide) (Ws_66 _ _ _ _ _ _ _ _)) ?_
  refine WP.run hP_45 7 (c' := (91, [some (.ref 65), some (.ref 1), none], [.int 8, .int 0, .ref 67, .int 0, .ref 3], Wd (va_up (va_up (va_up (va_up (va_up (va_up (va_up (va_up f 4160 (f 64)) 4164 (f 68)) 4166 (f 70)) 4167 (f 71)) 4168 (f 72)) 4170 (f 74)) 4172 (f 76)) 4174 (f 78)) fl (va_up g 66 (va_cpy (g 2) (g 66) 0 0 8)) gl hh v tx)) rfl ?_
  refine WP.of (fun _ _ => Ex.acopy hP_45 (w2 := Wd (va_up (va_up (va_up (va_up (va_up (va_up (va_up (va_up f 4160 (f 64)) 4164 (f 68)) 4166 (f 70)) 4167 (f 71)) 4168 (f 72)) 4170 (f 74)) 4172 (f 76)) 4174 (f 78)) fl (va_up (va_up g 66 (va_cpy (g 2) (g 66) 0 0 8)) 67 (va_cpy (g 3) (g 67) 0 0 8)) gl hh v tx) rfl rfl (Wa_3 _ _ _ _ _ _ _) (Wa_67 _ _ _ _ _ _ _) (by decide) (Ws_67 _ _ _ _ _ _ _ _)) ?_
  refine WP.run hP_45 7 (c' := (106, [some (.ref 65), some (.ref 1), none], [.int 8, .int 0, .ref 68, .int 0, .ref 4], Wd (va_up (va_up (va_up (va_up (va_up (va_up (va_up (va_up f 4160 (f 64)) 4164 (f 68)) 4166 (f 70)) 4167 (f 71)) 4168 (f 72)) 4170 (f 74)) 4172 (f 76)) 4174 (f 78)) fl (va_up (va_up g 66 (va_cpy (g 2) (g 66) 0 0 8)) 67 (va_cpy (g 3) (g 67) 0 0 8)) gl hh v tx)) rfl ?_
  refine WP.of (fun _ _ => Ex.acopy hP_45 (w2 := Wd (va_up (va_up (va_up (va_up (va_up (va_up (va_up (va_up f 4160 (f 64)) 4164 (f 68)) 4166 (f 70)) 4167 (f 71)) 4168 (f 72)) 4170 (f 74)) 4172 (f 76)) 4174 (f 78)) fl (va_up (va_up (va_up g 66 (va_cpy (g 2) (g 66) 0 0 8)) 67 (va_cpy (g 3) (g 67) 0 0 8)) 68 (va_cpy (g 4) (g 68) 0 0 8)) gl hh v tx) rfl rfl (Wa_4 _ _ _ _ _ _ _) (Wa_68 _ _ _ _ _ _ _) (by decide) (Ws_68 _ _ _ _ _ _ _ _)) ?_
  refine WP.run hP_45 7 (c' := (120, [some (.ref 65), some (.ref 1), none], [.int 3, .int 0, .ref 69, .int 0, .ref 5], Wd (va_up (va_up (va_up (va_up (va_up (va_up (va_up (va_up f 4160 (f 64)) 4164 (f 68)) 4166 (f 70)) 4167 (f 71)) 4168 (f 72)) 4170 (f 74)) 4172 (f 76)) 4174 (f 78)) fl (va_up (va_up (va_up g 66 (va_cpy (g 2) (g 66) 0 0 8)) 67 (va_cpy (g 3) (g 67) 0 0 8)) 68 (va_cpy (g 4) (g 68) 0 0 8)) gl hh v tx)) rfl ?_
  refine WP.of (fun _ _ => Ex.acopy hP_45 (w2 := Wd (va_up (va_up (va_up (va_up (va_up (va_up (va_up (va_up f 4160 (f 64)) 4164 (f 68)) 4166 (f 70)) 4167 (f 71)) 4168 (f 72)) 4170 (f 74)) 4172 (f 76)) 4174 (f 78)) fl (va_up (va_up (va_up (va_up g 66 (va_cpy (g 2) (g 66) 0 0 8)) 67 (va_cpy (g 3) (g 67) 0 0 8)) 68 (va_cpy (g 4) (g 68) 0 0 8)) 69 (va_cpy (g 5) (g 69) 0 0 3)) gl hh v tx) rfl rfl (Wa_5 _ _ _ _ _ _ _) (Wa_69 _ _ _ _ _ _ _) (by decide) (Ws_69 _ _ _ _ _ _ _ _)) ?_
  refine WP.run hP_45 7 (c' := (135, [some (.ref 65), some (.ref 1), none], [.int 6, .int 0, .ref 70, .int 0, .ref 6], Wd (va_up (va_up (va_up (va_up (va_up (va_up (va_up (va_up f 4160 (f 64)) 4164 (f 68)) 4166 (f 70)) 4167 (f 71)) 4168 (f 72)) 4170 (f 74)) 4172 (f 76)) 4174 (f 78)) fl (va_up (va_up (va_up (va_up g 66 (va_cpy (g 2) (g 66) 0 0 8)) 67 (va_cpy (g 3) (g 67) 0 0 8)) 68 (va_cpy (g 4) (g 68) 0 0 8)) 69 (va_cpy (g 5) (g 69) 0 0 3)) gl hh v tx)) rfl ?_
  refine WP.of (fun _ _ => Ex.acopy hP_45 (w2 := Wd (va_up (va_up (va_up (va_up (va_up (va_up (va_up (va_up f 4160 (f 64)) 4164 (f 68)) 4166 (f 70)) 4167 (f 71)) 4168 (f 72)) 4170 (f 74)) 4172 (f 76)) 4174 (f 78)) fl (va_up (va_up (va_up (va_up (va_up g 66 (va_cpy (g 2) (g 66) 0 0 8)) 67 (va_cpy (g 3) (g 67) 0 0 8)) 68 (va_cpy (g 4) (g 68) 0 0 8)) 69 (va_cpy (g 5) (g 69) 0 0 3)) 70 (va_cpy (g 6) (g 70) 0 0 6)) gl hh v tx) rfl rfl (Wa_6 _ _ _ _ _ _ _) (Wa_70 _ _ _ _ _ _ _) (by decide) (Ws_70 _ _ _ _ _ _ _ _)) ?_
  refine WP.run hP_45 7 (c' := (149, [some (.ref 65), some (.ref 1), none], [.int 3, .int 0, .ref 72, .int 0, .ref 8], Wd (va_up (va_up (va_up (va_up (va_up (va_up (va_up (va_up f 4160 (f 64)) 4164 (f 68)) 4166 (f 70)) 4167 (f 71)) 4168 (f 72)) 4170 (f 74)) 4172 (f 76)) 4174 (f 78)) fl (va_up (va_up (va_up (va_up (va_up g 66 (va_cpy (g 2) (g 66) 0 0 8)) 67 (va_cpy (g 3) (g 67) 0 0 8)) 68 (va_cpy (g 4) (g 68) 0 0 8)) 69 (va_cpy (g 5) (g 69) 0 0 3)) 70 (va_cpy (g 6) (g 70) 0 0 6)) gl hh v tx)) rfl ?_
  refine WP.of (fun _ _ => Ex.acopy hP_45 (w2 := Wd (va_up (va_up (va_up (va_up (va_up (va_up (va_up (va_up f 4160 (f 64)) 4164 (f 68)) 4166 (f 70)) 4167 (f 71)) 4168 (f 72)) 4170 (f 74)) 4172 (f 76)) 4174 (f 78)) fl (va_up (va_up (va_up (va_up (va_up (va_up g 66 (va_cpy (g 2) (g 66) 0 0 8)) 67 (va_cpy (g 3) (g 67) 0 0 8)) 68 (va_cpy (g 4) (g 68) 0 0 8)) 69 (va_cpy (g 5) (g 69) 0 0 3)) 70 (va_cpy (g 6) (g 70) 0 0 6)) 72 (va_cpy (g 8) (g 72) 0 0 3)) gl hh v tx) rfl rfl (Wa_8 _ _ _ _ _ _ _) (Wa_72 _ _ _ _ _ _ _) (by decide) (Ws_72 _ _ _ _ _ _ _ _)) ?_
  refine WP.run hP_45 7 (c' := (164, [some (.ref 65), some (.ref 1), none], [.int 16, .int 0, .ref 73, .int 0, .ref 9], Wd (va_up (va_up (va_up (va_up (va_up (va_up (va_up (va_up f 4160 (f 64)) 4164 (f 68)) 4166 (f 70)) 4167 (f 71)) 4168 (f 72)) 4170 (f 74)) 4172 (f 76)) 4174 (f 78)) fl (va_up (va_up (va_up (va_up (va_up (va_up g 66 (va_cpy (g 2) (g 66) 0 0 8)) 67 (va_cpy (g 3) (g 67) 0 0 8)) 68 (va_cpy (g 4) (g 68) 0 0 8)) 69 (va_cpy (g 5) (g 69) 0 0 3)) 70 (va_cpy (g 6) (g 70) 0 0 6)) 72 (va_cpy (g 8) (g 72) 0 0 3)) gl hh v tx)) rfl ?_
  refine WP.of (fun _ _ => Ex.acopy hP_45 (w2 := Wd (va_up (va_up (va_up (va_up (va_up (va_up (va_up (va_up f 4160 (f 64)) 4164 (f 68)) 4166 (f 70)) 4167 (f 71)) 4168 (f 72)) 4170 (f 74)) 4172 (f 76)) 4174 (f 78)) fl (va_up (va_up (va_up (va_up (va_up (va_up (va_up g 66 (va_cpy (g 2) (g 66) 0 0 8)) 67 (va_cpy (g 3) (g 67) 0 0 8)) 68 (va_cpy (g 4) (g 68) 0 0 8)) 69 (va_cpy (g 5) (g 69) 0 0 3)) 70 (va_cpy (g 6) (g 70) 0 0 6)) 72 (va_cpy (g 8) (g 72) 0 0 3)) 73 (va_cpy (g 9) (g 73) 0 0 16)) gl hh v tx) rfl rfl (Wa_9 _ _ _ _ _ _ _) (Wa_73 _ _ _ _ _ _ _) (by decide) (Ws_73 _ _ _ _ _ _ _ _)) ?_
  refine WP.run hP_45 2 (c' := (169, [some (.ref 65), some (.ref 1), some (.int 0)], [], Wd (va_up (va_up (va_up (va_up (va_up (va_up (va_up (va_up f 4160 (f 64)) 4164 (f 68)) 4166 (f 70)) 4167 (f 71)) 4168 (f 72)) 4170 (f 74)) 4172 (f 76)) 4174 (f 78)) fl (va_up (va_up (va_up (va_up (va_up (va_up (va_up g 66 (va_cpy (g 2) (g 66) 0 0 8)) 67 (va_cpy (g 3) (g 67) 0 0 8)) 68 (va_cpy (g 4) (g 68) 0 0 8)) 69 (va_cpy (g 5) (g 69) 0 0 3)) 70 (va_cpy (g 6) (g 70) 0 0 6)) 72 (va_cpy (g 8) (g 72) 0 0 3)) 73 (va_cpy (g 9) (g 73) 0 0 16)) gl hh v tx)) rfl ?_
  exact h

set_option maxRecDepth 20000 in
theorem b_yst_copy_65_1_169 (X : mm_X) (d : Nat) (f : Nat → Int32) (fl : Nat → Int64) (g : Nat → Nat → Int32) (gl : Nat → Nat → Int64) (hh : Nat → Nat → Option Nat) (v : Nat → Value) (tx : mm_W) (l2 : Int32)  (P : Option Value → mm_W → Prop)
    (h : ((6 ≤ l2) → P none (Wd f fl g gl hh v tx)) ∧
    ((¬ (6 ≤ l2)) → ((¬ (l2 < 0 ∨ 6 ≤ l2.toNatClampNeg)) ∧ ((¬ (l2 < 0 ∨ 6 ≤ l2.toNatClampNeg)) ∧ ((∀ o, ((hh 7) l2.toNatClampNeg) = some o → ∃ fs, (Wd f fl g gl hh v tx)[o]? = some (.inr (6, fs))) ∧ WP X (d) 45 (169, [some (.ref 65), some (.ref 1), some (.int (l2 + (1 : Int32)))], [], Wd f fl g gl (va_up hh 71 (va_up (hh 71) (l2.toNatClampNeg) ((hh 7) l2.toNatClampNeg))) v tx) P))))) :
    WP X (d) 45 (169, [some (.ref 65), some (.ref 1), some (.int l2)], [], Wd f fl g gl hh v tx) P := by
  refine WP.run hP_45 2 (c' := (172, [some (.ref 65), some (.ref 1), some (.int l2)], [.int 6, .int l2], Wd f fl g gl hh v tx)) rfl ?_
  refine WP.br hP_45 (q := 6 ≤ l2) (t := 193) (f := 175) (L := [some (.ref 65), some (.ref 1), some (.int l2)]) (st := []) (w := Wd f fl g gl hh v tx) rfl (fun c1 => ?_) (fun c1 => ?_)
  · have h2 := h.1 c1
    exact WP.ret hP_45 (r := none) (w' := Wd f fl g gl hh v tx) rfl h2
  · have h3 := h.2 c1
    refine WP.run hP_45 6 (c' := (185, [some (.ref 65), some (.ref 1), some (.int l2)], [.int l2, .ref 7, .int l2, .ref 71], Wd f fl g gl hh v tx)) rfl ?_
    refine WP.of (fun _ _ => Ex.aald4 hP_45 rfl (Wa_7 _ _ _ _ _ _ _) h3.1) ?_
    have h4 := h3.2
    refine WP.of (fun _ _ => Ex.aastV hP_45 (w2 := Wd f fl g gl (va_up hh 71 (va_up (hh 71) (l2.toNatClampNeg) ((hh 7) l2.toNatClampNeg))) v tx) rfl (Wa_71 _ _ _ _ _ _ _) h4.1 h4.2.1 (Ws_71 _ _ _ _ _ _ _ _)) ?_
    have h5 := h4.2
    have h6 := h5.2
    refine WP.run hP_45 2 (c' := (169, [some (.ref 65), some (.ref 1), some (.int (l2 + (1 : Int32)))], [], Wd f fl g gl (va_up hh 71 (va_up (hh 71) (l2.toNatClampNeg) ((hh 7) l2.toNatClampNeg))) v tx)) rfl ?_
    exact h6

set_option maxRecDepth 20000 in
theorem b_yst_copy_1_56_0 (X : mm_X) (d : Nat) (f : Nat → Int32) (fl : Nat → Int64) (g : Nat → Nat → Int32) (gl : Nat → Nat → Int64) (hh : Nat → Nat → Option Nat) (v : Nat → Value) (tx : mm_W)   (P : Option Value → mm_W → Prop)
    (h : WP X (d) 45 (169, [some (.ref 1), some (.ref 56), some (.int 0)], [], Wd (va_up (va_up (va_up (va_up (va_up (va_up (va_up (va_up f 64 (f 3584)) 68 (f 3588)) 70 (f 3590)) 71 (f 3591)) 72 (f 3592)) 74 (f 3594)) 76 (f 3596)) 78 (f 3598)) fl (va_up (va_up (va_up (va_up (va_up (va_up (va_up g 2 (va_cpy (g 57) (g 2) 0 0 8)) 3 (va_cpy (g 58) (g 3) 0 0 8)) 4 (va_cpy (g 59) (g 4) 0 0 8)) 5 (va_cpy (g 60) (g 5) 0 0 3)) 6 (va_cpy (g 61) (g 6) 0 0 6)) 8 (va_cpy (g 63) (g 8) 0 0 3)) 9 (va_cpy (g 64) (g 9) 0 0 16)) gl hh v tx) P) :
    WP X (d) 45 (0, [some (.ref 1), some (.ref 56), none], [], Wd f fl g gl hh v tx) P := by
  refine WP.run hP_45 39 (c' := (76, [some (.ref 1), some (.ref 56), none], [.int 8, .int 0, .ref 2, .int 0, .ref 57], Wd (va_up (va_up (va_up (va_up (va_up (va_up (va_up (va_up f 64 (f 3584)) 68 (f 3588)) 70 (f 3590)) 71 (f 3591)) 72 (f 3592)) 74 (f 3594)) 76 (f 3596)) 78 (f 3598)) fl g gl hh v tx)) rfl ?_
  refine WP.of (fun _ _ => Ex.acopy hP_45 (w2 := Wd (va_up (va_up (va_up (va_up (va_up (va_up (va_up (va_up f 64 (f 3584)) 68 (f 3588)) 70 (f 3590)) 71 (f 3591)) 72 (f 3592)) 74 (f 3594)) 76 (f 3596)) 78 (f 3598)) fl (va_up g 2 (va_cpy (g 57) (g 2) 0 0 8)) gl hh v tx) rfl rfl (Wa_57 _ _ _ _ _ _ _) (Wa_2 _ _ _ _ _ _ _) (by decide) (Ws_2 _ _ _ _ _ _ _ _)) ?_
  refine WP.run hP_45 7 (c' := (91, [some (.ref 1), some (.ref 56), none], [.int 8, .int 0, .ref 3, .int 0, .ref 58], Wd (va_up (va_up (va_up (va_up (va_up (va_up (va_up (va_up f 64 (f 3584)) 68 (f 3588)) 70 (f 3590)) 71 (f 3591)) 72 (f 3592)) 74 (f 3594)) 76 (f 3596)) 78 (f 3598)) fl (va_up g 2 (va_cpy (g 57) (g 2) 0 0 8)) gl hh v tx)) rfl ?_
  refine WP.of (fun _ _ => Ex.acopy hP_45 (w2 := Wd (va_up (va_up (va_up (va_up (va_up (va_up (va_up (va_up f 64 (f 3584)) 68 (f 3588)) 70 (f 3590)) 71 (f 3591)) 72 (f 3592)) 74 (f 3594)) 76 (f 3596)) 78 (f 3598)) fl (va_up (va_up g 2 (va_cpy (g 57) (g 2) 0 0 8)) 3 (va_cpy (g 58) (g 3) 0 0 8)) gl hh v tx) rfl rfl (Wa_58 _ _ _ _ _ _ _) (Wa_3 _ _ _ _ _ _ _) (by decide) (Ws_3 _ _ _ _ _ _ _ _)) ?_
  refine WP.run hP_45 7 (c' := (106, [some (.ref 1), some (.ref 56), none], [.int 8, .int 0, .ref 4, .int 0, .ref 59], Wd (va_up (va_up (va_up (va_up (va_up (va_up (va_up (va_up f 64 (f 3584)) 68 (f 3588)) 70 (f 3590)) 71 (f 3591)) 72 (f 3592)) 74 (f 3594)) 76 (f 3596)) 78 (f 3598)) fl (va_up (va_up g 2 (va_cpy (g 57) (g 2) 0 0 8)) 3 (va_cpy (g 58) (g 3) 0 0 8)) gl hh v tx)) rfl ?_
  refine WP.of (fun _ _ => Ex.acopy hP_45 (w2 := Wd (va_up (va_up (va_up (va_up (va_up (va_up (va_up (va_up f 64 (f 3584)) 68 (f 3588)) 70 (f 3590)) 71 (f 3591)) 72 (f 3592)) 74 (f 3594)) 76 (f 3596)) 78 (f 3598)) fl (va_up (va_up (va_up g 2 (va_cpy (g 57) (g 2) 0 0 8)) 3 (va_cpy (g 58) (g 3) 0 0 8)) 4 (va_cpy (g 59) (g 4) 0 0 8)) gl hh v tx) rfl rfl (Wa_59 _ _ _ _ _ _ _) (Wa_4 _ _ _ _ _ _ _) (by decide) (Ws_4 _ _ _ _ _ _ _ _)) ?_
  refine WP.run hP_45 7 (c' := (120, [some (.ref 1), some (.ref 56), none], [.int 3, .int 0, .ref 5, .int 0, .ref 60], Wd (va_up (va_up (va_up (va_up (va_up (va_up (va_up (va_up f 64 (f 3584)) 68 (f 3588)) 70 (f 3590)) 71 (f 3591)) 72 (f 3592)) 74 (f 3594)) 76 (f 3596)) 78 (f 3598)) fl (va_up (va_up (va_up g 2 (va_cpy (g 57) (g 2) 0 0 8)) 3 (va_cpy (g 58) (g 3) 0 0 8)) 4 (va_cpy (g 59) (g 4) 0 0 8)) gl hh v tx)) rfl ?_
  refine WP.of (fun _ _ => Ex.acopy hP_45 (w2 := Wd (va_up (va_up (va_up (va_up (va_up (va_up (va_up (va_up f 64 (f 3584)) 68 (f 3588)) 70 (f 3590)) 71 (f 3591)) 72 (f 3592)) 74 (f 3594)) 76 (f 3596)) 78 (f 3598)) fl (va_up (va_up (va_up (va_up g 2 (va_cpy (g 57) (g 2) 0 0 8)) 3 (va_cpy (g 58) (g 3) 0 0 8)) 4 (va_cpy (g 59) (g 4) 0 0 8)) 5 (va_cpy (g 60) (g 5) 0 0 3)) gl hh v tx) rfl rfl (Wa_60 _ _ _ _ _ _ _) (Wa_5 _ _ _ _ _ _ _) (by decide) (Ws_5 _ _ _ _ _ _ _ _)) ?_
  refine WP.run hP_45 7 (c' := (135, [some (.ref 1), some (.ref 56), none], [.int 6, .int 0, .ref 6, .int 0, .ref 61], Wd (va_up (va_up (va_up (va_up (va_up (va_up (va_up (va_up f 64 (f 3584)) 68 (f 3588)) 70 (f 3590)) 71 (f 3591)) 72 (f 3592)) 74 (f 3594)) 76 (f 3596)) 78 (f 3598)) fl (va_up (va_up (va_up (va_up g 2 (va_cpy (g 57) (g 2) 0 0 8)) 3 (va_cpy (g 58) (g 3) 0 0 8)) 4 (va_cpy (g 59) (g 4) 0 0 8)) 5 (va_cpy (g 60) (g 5) 0 0 3)) gl hh v tx)) rfl ?_
  refine WP.of (fun _ _ => Ex.acopy hP_45 (w2 := Wd (va_up (va_up (va_up (va_up (va_up (va_up (va_up (va_up f 64 (f 3584)) 68 (f 3588)) 70 (f 3590)) 71 (f 3591)) 72 (f 3592)) 74 (f 3594)) 76 (f 3596)) 78 (f 3598)) fl (va_up (va_up (va_up (va_up (va_up g 2 (va_cpy (g 57) (g 2) 0 0 8)) 3 (va_cpy (g 58) (g 3) 0 0 8)) 4 (va_cpy (g 59) (g 4) 0 0 8)) 5 (va_cpy (g 60) (g 5) 0 0 3)) 6 (va_cpy (g 61) (g 6) 0 0 6)) gl hh v tx) rfl rfl (Wa_61 _ _ _ _ _ _ _) (Wa_6 _ _ _ _ _ _ _) (by decide) (Ws_6 _ _ _ _ _ _ _ _)) ?_
  refine WP.run hP_45 7 (c' := (149, [some (.ref 1), some (.ref 56), none], [.int 3, .int 0, .ref 8, .int 0, .ref 63], Wd (va_up (va_up (va_up (va_up (va_up (va_up (va_up (va_up f 64 (f 3584)) 68 (f 3588)) 70 (f 3590)) 71 (f 3591)) 72 (f 3592)) 74 (f 3594)) 76 (f 3596)) 78 (f 3598)) fl (va_up (va_up (va_up (va_up (va_up g 2 (va_cpy (g 57) (g 2) 0 0 8)) 3 (va_cpy (g 58) (g 3) 0 0 8)) 4 (va_cpy (g 59) (g 4) 0 0 8)) 5 (va_cpy (g 60) (g 5) 0 0 3)) 6 (va_cpy (g 61) (g 6) 0 0 6)) gl hh v tx)) rfl ?_
  refine WP.of (fun _ _ => Ex.acopy hP_45 (w2 := Wd (va_up (va_up (va_up (va_up (va_up (va_up (va_up (va_up f 64 (f 3584)) 68 (f 3588)) 70 (f 3590)) 71 (f 3591)) 72 (f 3592)) 74 (f 3594)) 76 (f 3596)) 78 (f 3598)) fl (va_up (va_up (va_up (va_up (va_up (va_up g 2 (va_cpy (g 57) (g 2) 0 0 8)) 3 (va_cpy (g 58) (g 3) 0 0 8)) 4 (va_cpy (g 59) (g 4) 0 0 8)) 5 (va_cpy (g 60) (g 5) 0 0 3)) 6 (va_cpy (g 61) (g 6) 0 0 6)) 8 (va_cpy (g 63) (g 8) 0 0 3)) gl hh v tx) rfl rfl (Wa_63 _ _ _ _ _ _ _) (Wa_8 _ _ _ _ _ _ _) (by decide) (Ws_8 _ _ _ _ _ _ _ _)) ?_
  refine WP.run hP_45 7 (c' := (164, [some (.ref 1), some (.ref 56), none], [.int 16, .int 0, .ref 9, .int 0, .ref 64], Wd (va_up (va_up (va_up (va_up (va_up (va_up (va_up (va_up f 64 (f 3584)) 68 (f 3588)) 70 (f 3590)) 71 (f 3591)) 72 (f 3592)) 74 (f 3594)) 76 (f 3596)) 78 (f 3598)) fl (va_up (va_up (va_up (va_up (va_up (va_up g 2 (va_cpy (g 57) (g 2) 0 0 8)) 3 (va_cpy (g 58) (g 3) 0 0 8)) 4 (va_cpy (g 59) (g 4) 0 0 8)) 5 (va_cpy (g 60) (g 5) 0 0 3)) 6 (va_cpy (g 61) (g 6) 0 0 6)) 8 (va_cpy (g 63) (g 8) 0 0 3)) gl hh v tx)) rfl ?_
  refine WP.of (fun _ _ => Ex.acopy hP_45 (w2 := Wd (va_up (va_up (va_up (va_up (va_up (va_up (va_up (va_up f 64 (f 3584)) 68 (f 3588)) 70 (f 3590)) 71 (f 3591)) 72 (f 3592)) 74 (f 3594)) 76 (f 3596)) 78 (f 3598)) fl (va_up (va_up (va_up (va_up (va_up (va_up (va_up g 2 (va_cpy (g 57) (g 2) 0 0 8)) 3 (va_cpy (g 58) (g 3) 0 0 8)) 4 (va_cpy (g 59) (g 4) 0 0 8)) 5 (va_cpy (g 60) (g 5) 0 0 3)) 6 (va_cpy (g 61) (g 6) 0 0 6)) 8 (va_cpy (g 63) (g 8) 0 0 3)) 9 (va_cpy (g 64) (g 9) 0 0 16)) gl hh v tx) rfl rfl (Wa_64 _ _ _ _ _ _ _) (Wa_9 _ _ _ _ _ _ _) (by decide) (Ws_9 _ _ _ _ _ _ _ _)) ?_
  refine WP.run hP_45 2 (c' := (169, [some (.ref 1), some (.ref 56), some (.int 0)], [], Wd (va_up (va_up (va_up (va_up (va_up (va_up (va_up (va_up f 64 (f 3584)) 68 (f 3588)) 70 (f 3590)) 71 (f 3591)) 72 (f 3592)) 74 (f 3594)) 76 (f 3596)) 78 (f 3598)) fl (va_up (va_up (va_up (va_up (va_up (va_up (va_up g 2 (va_cpy (g 57) (g 2) 0 0 8)) 3 (va_cpy (g 58) (g 3) 0 0 8)) 4 (va_cpy (g 59) (g 4) 0 0 8)) 5 (va_cpy (g 60) (g 5) 0 0 3)) 6 (va_cpy (g 61) (g 6) 0 0 6)) 8 (va_cpy (g 63) (g 8) 0 0 3)) 9 (va_cpy (g 64) (g 9) 0 0 16)) gl hh v tx)) rfl ?_
  exact h

set_option maxRecDepth 20000 in
theorem b_yst_copy_1_56_169 (X : mm_X) (d : Nat) (f : Nat → Int32) (fl : Nat → Int64) (g : Nat → Nat → Int32) (gl : Nat → Nat → Int64) (hh : Nat → Nat → Option Nat) (v : Nat → Value) (tx : mm_W) (l2 : Int32)  (P : Option Value → mm_W → Prop)
    (h : ((6 ≤ l2) → P none (Wd f fl g gl hh v tx)) ∧
    ((¬ (6 ≤ l2)) → ((¬ (l2 < 0 ∨ 6 ≤ l2.toNatClampNeg)) ∧ ((¬ (l2 < 0 ∨ 6 ≤ l2.toNatClampNeg)) ∧ ((∀ o, ((hh 62) l2.toNatClampNeg) = some o → ∃ fs, (Wd f fl g gl hh v tx)[o]? = some (.inr (6, fs))) ∧ WP X (d) 45 (169, [some (.ref 1), some (.ref 56), some (.int (l2 + (1 : Int32)))], [], Wd f fl g gl (va_up hh 7 (va_up (hh 7) (l2.toNatClampNeg) ((hh 62) l2.toNatClampNeg))) v tx) P))))) :
    WP X (d) 45 (169, [some (.ref 1), some (.ref 56), some (.int l2)], [], Wd f fl g gl hh v tx) P := by
  refine WP.run hP_45 2 (c' := (172, [some (.ref 1), some (.ref 56), some (.int l2)], [.int 6, .int l2], Wd f fl g gl hh v tx)) rfl ?_
  refine WP.br hP_45 (q := 6 ≤ l2) (t := 193) (f := 175) (L := [some (.ref 1), some (.ref 56), some (.int l2)]) (st := []) (w := Wd f fl g gl hh v tx) rfl (fun c1 => ?_) (fun c1 => ?_)
  · have h2 := h.1 c1
    exact WP.ret hP_45 (r := none) (w' := Wd f fl g gl hh v tx) rfl h2
  · have h3 := h.2 c1
    refine WP.run hP_45 6 (c' := (185, [some (.ref 1), some (.ref 56), some (.int l2)], [.int l2, .ref 62, .int l2, .ref 7], Wd f fl g gl hh v tx)) rfl ?_
    refine WP.of (fun _ _ => Ex.aald4 hP_45 rfl (Wa_62 _ _ _ _ _ _ _) h3.1) ?_
    have h4 := h3.2
    refine WP.of (fun _ _ => Ex.aastV hP_45 (w2 := Wd f fl g gl (va_up hh 7 (va_up (hh 7) (l2.toNatClampNeg) ((hh 62) l2.toNatClampNeg))) v tx) rfl (Wa_7 _ _ _ _ _ _ _) h4.1 h4.2.1 (Ws_7 _ _ _ _ _ _ _ _)) ?_
    have h5 := h4.2
    have h6 := h5.2
    refine WP.run hP_45 2 (c' := (169, [some (.ref 1), some (.ref 56), some (.int (l2 + (1 : Int32)))], [], Wd f fl g gl (va_up hh 7 (va_up (hh 7) (l2.toNatClampNeg) ((hh 62) l2.toNatClampNeg))) v tx)) rfl ?_
    exact h6

set_option maxRecDepth 20000 in
theorem b_yst_copy_1_65_0 (X : mm_X) (d : Nat) (f : Nat → Int32) (fl : Nat → Int64) (g : Nat → Nat → Int32) (gl : Nat → Nat → Int64) (hh : Nat → Nat → Option Nat) (v : Nat → Value) (tx : mm_W)   (P : Option Value → mm_W → Prop)
    (h : WP X (d) 45 (169, [some (.ref 1), some (.ref 65), some (.int 0)], [], Wd (va_up (va_up (va_up (va_up (va_up (va_up (va_up (va_up f 64 (f 4160)) 68 (f 4164)) 70 (f 4166)) 71 (f 4167)) 72 (f 4168)) 74 (f 4170)) 76 (f 4172)) 78 (f 4174)) fl (va_up (va_up (va_up (va_up (va_up (va_up (va_up g 2 (va_cpy (g 66) (g 2) 0 0 8)) 3 (va_cpy (g 67) (g 3) 0 0 8)) 4 (va_cpy (g 68) (g 4) 0 0 8)) 5 (va_cpy (g 69) (g 5) 0 0 3)) 6 (va_cpy (g 70) (g 6) 0 0 6)) 8 (va_cpy (g 72) (g 8) 0 0 3)) 9 (va_cpy (g 73) (g 9) 0 0 16)) gl hh v tx) P) :
    WP X (d) 45 (0, [some (.ref 1), some (.ref 65), none], [], Wd f fl g gl hh v tx) P := by
  refine WP.run hP_45 39 (c' := (76, [some (.ref 1), some (.ref 65), none], [.int 8, .int 0, .ref 2, .int 0, .ref 66], Wd (va_up (va_up (va_up (va_up (va_up (va_up (va_up (va_up f 64 (f 4160)) 68 (f 4164)) 70 (f 4166)) 71 (f 4167)) 72 (f 4168)) 74 (f 4170)) 76 (f 4172)) 78 (f 4174)) fl g gl hh v tx)) rfl ?_
  refine WP.of (fun _ _ => Ex.acopy hP_45 (w2 := Wd (va_up (va_up (va_up (va_up (va_up (va_up (va_up (va_up f 64 (f 4160)) 68 (f 4164)) 70 (f 4166)) 71 (f 4167)) 72 (f 4168)) 74 (f 4170)) 76 (f 4172)) 78 (f 4174)) fl (va_up g 2 (va_cpy (g 66) (g 2) 0 0 8)) gl hh v tx) rfl rfl (Wa_66 _ _ _ _ _ _ _) (Wa_2 _ _ _ _ _ _ _) (by decide) (Ws_2 _ _ _ _ _ _ _ _)) ?_
  refine WP.run hP_45 7 (c' := (91, [some (.ref 1), some (.ref 65), none], [.int 8, .int 0, .ref 3, .int 0, .ref 67], Wd (va_up (va_up (va_up (va_up (va_up (va_up (va_up (va_up f 64 (f 4160)) 68 (f 4164)) 70 (f 4166)) 71 (f 4167)) 72 (f 4168)) 74 (f 4170)) 76 (f 4172)) 78 (f 4174)) fl (va_up g 2 (va_cpy (g 66) (g 2) 0 0 8)) gl hh v tx)) rfl ?_
  refine WP.of (fun _ _ => Ex.acopy hP_45 (w2 := Wd (va_up (va_up (va_up (va_up (va_up (va_up (va_up (va_up f 64 (f 4160)) 68 (f 4164)) 70 (f 4166)) 71 (f 4167)) 72 (f 4168)) 74 (f 4170)) 76 (f 4172)) 78 (f 4174)) fl (va_up (va_up g 2 (va_cpy (g 66) (g 2) 0 0 8)) 3 (va_cpy (g 67) (g 3) 0 0 8)) gl hh v tx) rfl rfl (Wa_67 _ _ _ _ _ _ _) (Wa_3 _ _ _ _ _ _ _) (by decide) (Ws_3 _ _ _ _ _ _ _ _)) ?_
  refine WP.run hP_45 7 (c' := (106, [some (.ref 1), some (.ref 65), none], [.int 8, .int 0, .ref 4, .int 0, .ref 68], Wd (va_up (va_up (va_up (va_up (va_up (va_up (va_up (va_up f 64 (f 4160)) 68 (f 4164)) 70 (f 4166)) 71 (f 4167)) 72 (f 4168)) 74 (f 4170)) 76 (f 4172)) 78 (f 4174)) fl (va_up (va_up g 2 (va_cpy (g 66) (g 2) 0 0 8)) 3 (va_cpy (g 67) (g 3) 0 0 8)) gl hh v tx)) rfl ?_
  refine WP.of (fun _ _ => Ex.acopy hP_45 (w2 := Wd (va_up (va_up (va_up (va_up (va_up (va_up (va_up (va_up f 64 (f 4160)) 68 (f 4164)) 70 (f 4166)) 71 (f 4167)) 72 (f 4168)) 74 (f 4170)) 76 (f 4172)) 78 (f 4174)) fl (va_up (va_up (va_up g 2 (va_cpy (g 66) (g 2) 0 0 8)) 3 (va_cpy (g 67) (g 3) 0 0 8)) 4 (va_cpy (g 68) (g 4) 0 0 8)) gl hh v tx) rfl rfl (Wa_68 _ _ _ _ _ _ _) (Wa_4 _ _ _ _ _ _ _) (by decide) (Ws_4 _ _ _ _ _ _ _ _)) ?_
  refine WP.run hP_45 7 (c' := (120, [some (.ref 1), some (.ref 65), none], [.int 3, .int 0, .ref 5, .int 0, .ref 69], Wd (va_up (va_up (va_up (va_up (va_up (va_up (va_up (va_up f 64 (f 4160)) 68 (f 4164)) 70 (f 4166)) 71 (f 4167)) 72 (f 4168)) 74 (f 4170)) 76 (f 4172)) 78 (f 4174)) fl (va_up (va_up (va_up g 2 (va_cpy (g 66) (g 2) 0 0 8)) 3 (va_cpy (g 67) (g 3) 0 0 8)) 4 (va_cpy (g 68) (g 4) 0 0 8)) gl hh v tx)) rfl ?_
  refine WP.of (fun _ _ => Ex.acopy hP_45 (w2 := Wd (va_up (va_up (va_up (va_up (va_up (va_up (va_up (va_up f 64 (f 4160)) 68 (f 4164)) 70 (f 4166)) 71 (f 4167)) 72 (f 4168)) 74 (f 4170)) 76 (f 4172)) 78 (f 4174)) fl (va_up (va_up (va_up (va_up g 2 (va_cpy (g 66) (g 2) 0 0 8)) 3 (va_cpy (g 67) (g 3) 0 0 8)) 4 (va_cpy (g 68) (g 4) 0 0 8)) 5 (va_cpy (g 69) (g 5) 0 0 3)) gl hh v tx) rfl rfl (Wa_69 _ _ _ _ _ _ _) (Wa_5 _ _ _ _ _ _ _) (by decide) (Ws_5 _ _ _ _ _ _ _ _)) ?_
  refine WP.run hP_45 7 (c' := (135, [some (.ref 1), some (.ref 65), none], [.int 6, .int 0, .ref 6, .int 0, .ref 70], Wd (va_up (va_up (va_up (va_up (va_up (va_up (va_up (va_up f 64 (f 4160)) 68 (f 4164)) 70 (f 4166)) 71 (f 4167)) 72 (f 4168)) 74 (f 4170)) 76 (f 4172)) 78 (f 4174)) fl (va_up (va_up (va_up (va_up g 2 (va_cpy (g 66) (g 2) 0 0 8)) 3 (va_cpy (g 67) (g 3) 0 0 8)) 4 (va_cpy (g 68) (g 4) 0 0 8)) 5 (va_cpy (g 69) (g 5) 0 0 3)) gl hh v tx)) rfl ?_
  refine WP.of (fun _ _ => Ex.acopy hP_45 (w2 := Wd (va_up (va_up (va_up (va_up (va_up (va_up (va_up (va_up f 64 (f 4160)) 68 (f 4164)) 70 (f 4166)) 71 (f 4167)) 72 (f 4168)) 74 (f 4170)) 76 (f 4172)) 78 (f 4174)) fl (va_up (va_up (va_up (va_up (va_up g 2 (va_cpy (g 66) (g 2) 0 0 8)) 3 (va_cpy (g 67) (g 3) 0 0 8)) 4 (va_cpy (g 68) (g 4) 0 0 8)) 5 (va_cpy (g 69) (g 5) 0 0 3)) 6 (va_cpy (g 70) (g 6) 0 0 6)) gl hh v tx) rfl rfl (Wa_70 _ _ _ _ _ _ _) (Wa_6 _ _ _ _ _ _ _) (by decide) (Ws_6 _ _ _ _ _ _ _ _)) ?_
  refine WP.run hP_45 7 (c' := (149, [some (.ref 1), some (.ref 65), none], [.int 3, .int 0, .ref 8, .int 0, .ref 72], Wd (va_up (va_up (va_up (va_up (va_up (va_up (va_up (va_up f 64 (f 4160)) 68 (f 4164)) 70 (f 4166)) 71 (f 4167)) 72 (f 4168)) 74 (f 4170)) 76 (f 4172)) 78 (f 4174)) fl (va_up (va_up (va_up (va_up (va_up g 2 (va_cpy (g 66) (g 2) 0 0 8)) 3 (va_cpy (g 67) (g 3) 0 0 8)) 4 (va_cpy (g 68) (g 4) 0 0 8)) 5 (va_cpy (g 69) (g 5) 0 0 3)) 6 (va_cpy (g 70) (g 6) 0 0 6)) gl hh v tx)) rfl ?_
  refine WP.of (fun _ _ => Ex.acopy hP_45 (w2 := Wd (va_up (va_up (va_up (va_up (va_up (va_up (va_up (va_up f 64 (f 4160)) 68 (f 4164)) 70 (f 4166)) 71 (f 4167)) 72 (f 4168)) 74 (f 4170)) 76 (f 4172)) 78 (f 4174)) fl (va_up (va_up (va_up (va_up (va_up (va_up g 2 (va_cpy (g 66) (g 2) 0 0 8)) 3 (va_cpy (g 67) (g 3) 0 0 8)) 4 (va_cpy (g 68) (g 4) 0 0 8)) 5 (va_cpy (g 69) (g 5) 0 0 3)) 6 (va_cpy (g 70) (g 6) 0 0 6)) 8 (va_cpy (g 72) (g 8) 0 0 3)) gl hh v tx) rfl rfl (Wa_72 _ _ _ _ _ _ _) (Wa_8 _ _ _ _ _ _ _) (by decide) (Ws_8 _ _ _ _ _ _ _ _)) ?_
  refine WP.run hP_45 7 (c' := (164, [some (.ref 1), some (.ref 65), none], [.int 16, .int 0, .ref 9, .int 0, .ref 73], Wd (va_up (va_up (va_up (va_up (va_up (va_up (va_up (va_up f 64 (f 4160)) 68 (f 4164)) 70 (f 4166)) 71 (f 4167)) 72 (f 4168)) 74 (f 4170)) 76 (f 4172)) 78 (f 4174)) fl (va_up (va_up (va_up (va_up (va_up (va_up g 2 (va_cpy (g 66) (g 2) 0 0 8)) 3 (va_cpy (g 67) (g 3) 0 0 8)) 4 (va_cpy (g 68) (g 4) 0 0 8)) 5 (va_cpy (g 69) (g 5) 0 0 3)) 6 (va_cpy (g 70) (g 6) 0 0 6)) 8 (va_cpy (g 72) (g 8) 0 0 3)) gl hh v tx)) rfl ?_
  refine WP.of (fun _ _ => Ex.acopy hP_45 (w2 := Wd (va_up (va_up (va_up (va_up (va_up (va_up (va_up (va_up f 64 (f 4160)) 68 (f 4164)) 70 (f 4166)) 71 (f 4167)) 72 (f 4168)) 74 (f 4170)) 76 (f 4172)) 78 (f 4174)) fl (va_up (va_up (va_up (va_up (va_up (va_up (va_up g 2 (va_cpy (g 66) (g 2) 0 0 8)) 3 (va_cpy (g 67) (g 3) 0 0 8)) 4 (va_cpy (g 68) (g 4) 0 0 8)) 5 (va_cpy (g 69) (g 5) 0 0 3)) 6 (va_cpy (g 70) (g 6) 0 0 6)) 8 (va_cpy (g 72) (g 8) 0 0 3)) 9 (va_cpy (g 73) (g 9) 0 0 16)) gl hh v tx) rfl rfl (Wa_73 _ _ _ _ _ _ _) (Wa_9 _ _ _ _ _ _ _) (by decide) (Ws_9 _ _ _ _ _ _ _ _)) ?_
  refine WP.run hP_45 2 (c' := (169, [some (.ref 1), some (.ref 65), some (.int 0)], [], Wd (va_up (va_up (va_up (va_up (va_up (va_up (va_up (va_up f 64 (f 4160)) 68 (f 4164)) 70 (f 4166)) 71 (f 4167)) 72 (f 4168)) 74 (f 4170)) 76 (f 4172)) 78 (f 4174)) fl (va_up (va_up (va_up (va_up (va_up (va_up (va_up g 2 (va_cpy (g 66) (g 2) 0 0 8)) 3 (va_cpy (g 67) (g 3) 0 0 8)) 4 (va_cpy (g 68) (g 4) 0 0 8)) 5 (va_cpy (g 69) (g 5) 0 0 3)) 6 (va_cpy (g 70) (g 6) 0 0 6)) 8 (va_cpy (g 72) (g 8) 0 0 3)) 9 (va_cpy (g 73) (g 9) 0 0 16)) gl hh v tx)) rfl ?_
  exact h

set_option maxRecDepth 20000 in
theorem b_yst_copy_1_65_169 (X : mm_X) (d : Nat) (f : Nat → Int32) (fl : Nat → Int64) (g : Nat → Nat → Int32) (gl : Nat → Nat → Int64) (hh : Nat → Nat → Option Nat) (v : Nat → Value) (tx : mm_W) (l2 : Int32)  (P : Option Value → mm_W → Prop)
    (h : ((6 ≤ l2) → P none (Wd f fl g gl hh v tx)) ∧
    ((¬ (6 ≤ l2)) → ((¬ (l2 < 0 ∨ 6 ≤ l2.toNatClampNeg)) ∧ ((¬ (l2 < 0 ∨ 6 ≤ l2.toNatClampNeg)) ∧ ((∀ o, ((hh 71) l2.toNatClampNeg) = some o → ∃ fs, (Wd f fl g gl hh v tx)[o]? = some (.inr (6, fs))) ∧ WP X (d) 45 (169, [some (.ref 1), some (.ref 65), some (.int (l2 + (1 : Int32)))], [], Wd f fl g gl (va_up hh 7 (va_up (hh 7) (l2.toNatClampNeg) ((hh 71) l2.toNatClampNeg))) v tx) P))))) :
    WP X (d) 45 (169, [some (.ref 1), some (.ref 65), some (.int l2)], [], Wd f fl g gl hh v tx) P := by
  refine WP.run hP_45 2 (c' := (172, [some (.ref 1), some (.ref 65), some (.int l2)], [.int 6, .int l2], Wd f fl g gl hh v tx)) rfl ?_
  refine WP.br hP_45 (q := 6 ≤ l2) (t := 193) (f := 175) (L := [some (.ref 1), some (.ref 65), some (.int l2)]) (st := []) (w := Wd f fl g gl hh v tx) rfl (fun c1 => ?_) (fun c1 => ?_)
  · have h2 := h.1 c1
    exact WP.ret hP_45 (r := none) (w' := Wd f fl g gl hh v tx) rfl h2
  · have h3 := h.2 c1
    refine WP.run hP_45 6 (c' := (185, [some (.ref 1), some (.ref 65), some (.int l2)], [.int l2, .ref 71, .int l2, .ref 7], Wd f fl g gl hh v tx)) rfl ?_
    refine WP.of (fun _ _ => Ex.aald4 hP_45 rfl (Wa_71 _ _ _ _ _ _ _) h3.1) ?_
    have h4 := h3.2
    refine WP.of (fun _ _ => Ex.aastV hP_45 (w2 := Wd f fl g gl (va_up hh 7 (va_up (hh 7) (l2.toNatClampNeg) ((hh 71) l2.toNatClampNeg))) v tx) rfl (Wa_7 _ _ _ _ _ _ _) h4.1 h4.2.1 (Ws_7 _ _ _ _ _ _ _ _)) ?_
    have h5 := h4.2
    have h6 := h5.2
    refine WP.run hP_45 2 (c' := (169, [some (.ref 1), some (.ref 65), some (.int (l2 + (1 : Int32)))], [], Wd f fl g gl (va_up hh 7 (va_up (hh 7) (l2.toNatClampNeg) ((hh 71) l2.toNatClampNeg))) v tx)) rfl ?_
    exact h6
