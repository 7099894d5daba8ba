set_option maxRecDepth 20000 in
theorem b_yst_others_1_0 (X : mm_X) (d : Nat) (f : Nat → Int32) (fl : Nat → Int64) (g : Nat → Nat → Int32) (gl : Nat → Nat → Int64) (hh : Nat → Nat → Option Nat) (v : Nat → Value) (tx : mm_W) (p0 : Int32) (p1 : Int32)  (P : Option Value → mm_W → Prop)
    (h : (¬ (p0 < 0 ∨ 8 ≤ p0.toNatClampNeg)) ∧ (((0 ≤ (((f 70) - p1) - ((g 3) p0.toNatClampNeg))) → ((¬ (p0 < 0 ∨ 8 ≤ p0.toNatClampNeg)) ∧ ((¬ (p0 < 0 ∨ 8 ≤ p0.toNatClampNeg)) ∧ WP X (d) 256 (0, [some (.int (((((((f 71) >>> (((2 : Int32) * (((f 70) - p1) - ((g 3) p0.toNatClampNeg))) &&& (31 : Int32))) : Int32) &&& ((((1 : Int32) <<< (((2 : Int32) * ((g 3) p0.toNatClampNeg)) &&& (31 : Int32))) : Int32) - (1 : Int32))) ^^^ ((g 2) p0.toNatClampNeg)) ||| (((((((f 71) >>> (((2 : Int32) * (((f 70) - p1) - ((g 3) p0.toNatClampNeg))) &&& (31 : Int32))) : Int32) &&& ((((1 : Int32) <<< (((2 : Int32) * ((g 3) p0.toNatClampNeg)) &&& (31 : Int32))) : Int32) - (1 : Int32))) ^^^ ((g 2) p0.toNatClampNeg)) >>> ((1 : Int32) &&& (31 : Int32))) : Int32)) &&& (85 : Int32)))], [], Wd f fl g gl hh v tx) (fun rv w2 => WP X (d + 1) 48 (64, [some (.ref 1), some (.int p0), none, some (.int (((f 70) - p1) - ((g 3) p0.toNatClampNeg))), some (.int (((((f 71) >>> (((2 : Int32) * (((f 70) - p1) - ((g 3) p0.toNatClampNeg))) &&& (31 : Int32))) : Int32) &&& ((((1 : Int32) <<< (((2 : Int32) * ((g 3) p0.toNatClampNeg)) &&& (31 : Int32))) : Int32) - (1 : Int32))) ^^^ ((g 2) p0.toNatClampNeg)))], rv.toList ++ [], w2) P)))) ∧
    ((¬ (0 ≤ (((f 70) - p1) - ((g 3) p0.toNatClampNeg)))) → P (some (.int 1000000)) (Wd f fl g gl hh v tx)))) :
    WP X (d + 1) 48 (0, [some (.ref 1), some (.int p0), some (.int p1), none, none], [], Wd f fl g gl hh v tx) P := by
  refine WP.run hP_48 7 (c' := (11, [some (.ref 1), some (.int p0), some (.int p1), none, none], [.int p0, .ref 3, .int ((f 70) - p1)], Wd f fl g gl hh v tx)) rfl ?_
  refine WP.of (fun _ _ => Ex.iald hP_48 rfl (Wa_3 _ _ _ _ _ _ _) h.1) ?_
  have h1 := h.2
  refine WP.run hP_48 3 (c' := (15, [some (.ref 1), some (.int p0), some (.int p1), some (.int (((f 70) - p1) - ((g 3) p0.toNatClampNeg))), none], [.int (((f 70) - p1) - ((g 3) p0.toNatClampNeg))], Wd f fl g gl hh v tx)) rfl ?_
  refine WP.br hP_48 (q := 0 ≤ (((f 70) - p1) - ((g 3) p0.toNatClampNeg))) (t := 21) (f := 18) (L := [some (.ref 1), some (.int p0), some (.int p1), some (.int (((f 70) - p1) - ((g 3) p0.toNatClampNeg))), none]) (st := []) (w := Wd f fl g gl hh v tx) rfl (fun c2 => ?_) (fun c2 => ?_)
  · have h3 := h1.1 c2
    refine WP.run hP_48 11 (c' := (36, [some (.ref 1), some (.int p0), none, some (.int (((f 70) - p1) - ((g 3) p0.toNatClampNeg))), none], [.int p0, .ref 3, .int 2, .int 1, .int (((f 71) >>> (((2 : Int32) * (((f 70) - p1) - ((g 3) p0.toNatClampNeg))) &&& (31 : Int32))) : Int32)], Wd f fl g gl hh v tx)) rfl ?_
    refine WP.of (fun _ _ => Ex.iald hP_48 rfl (Wa_3 _ _ _ _ _ _ _) h3.1) ?_
    have h4 := h3.2
    refine WP.run hP_48 8 (c' := (47, [some (.ref 1), some (.int p0), none, some (.int (((f 70) - p1) - ((g 3) p0.toNatClampNeg))), none], [.int p0, .ref 2, .int ((((f 71) >>> (((2 : Int32) * (((f 70) - p1) - ((g 3) p0.toNatClampNeg))) &&& (31 : Int32))) : Int32) &&& ((((1 : Int32) <<< (((2 : Int32) * ((g 3) p0.toNatClampNeg)) &&& (31 : Int32))) : Int32) - (1 : Int32)))], Wd f fl g gl hh v tx)) rfl ?_
    refine WP.of (fun _ _ => Ex.iald hP_48 rfl (Wa_2 _ _ _ _ _ _ _) h4.1) ?_
    have h5 := h4.2
    refine WP.run hP_48 9 (c' := (61, [some (.ref 1), some (.int p0), none, some (.int (((f 70) - p1) - ((g 3) p0.toNatClampNeg))), some (.int (((((f 71) >>> (((2 : Int32) * (((f 70) - p1) - ((g 3) p0.toNatClampNeg))) &&& (31 : Int32))) : Int32) &&& ((((1 : Int32) <<< (((2 : Int32) * ((g 3) p0.toNatClampNeg)) &&& (31 : Int32))) : Int32) - (1 : Int32))) ^^^ ((g 2) p0.toNatClampNeg)))], [.int (((((((f 71) >>> (((2 : Int32) * (((f 70) - p1) - ((g 3) p0.toNatClampNeg))) &&& (31 : Int32))) : Int32) &&& ((((1 : Int32) <<< (((2 : Int32) * ((g 3) p0.toNatClampNeg)) &&& (31 : Int32))) : Int32) - (1 : Int32))) ^^^ ((g 2) p0.toNatClampNeg)) ||| (((((((f 71) >>> (((2 : Int32) * (((f 70) - p1) - ((g 3) p0.toNatClampNeg))) &&& (31 : Int32))) : Int32) &&& ((((1 : Int32) <<< (((2 : Int32) * ((g 3) p0.toNatClampNeg)) &&& (31 : Int32))) : Int32) - (1 : Int32))) ^^^ ((g 2) p0.toNatClampNeg)) >>> ((1 : Int32) &&& (31 : Int32))) : Int32)) &&& (85 : Int32))], Wd f fl g gl hh v tx)) rfl ?_
    refine WP.call hP_48 hP_256 (as := [.int (((((((f 71) >>> (((2 : Int32) * (((f 70) - p1) - ((g 3) p0.toNatClampNeg))) &&& (31 : Int32))) : Int32) &&& ((((1 : Int32) <<< (((2 : Int32) * ((g 3) p0.toNatClampNeg)) &&& (31 : Int32))) : Int32) - (1 : Int32))) ^^^ ((g 2) p0.toNatClampNeg)) ||| (((((((f 71) >>> (((2 : Int32) * (((f 70) - p1) - ((g 3) p0.toNatClampNeg))) &&& (31 : Int32))) : Int32) &&& ((((1 : Int32) <<< (((2 : Int32) * ((g 3) p0.toNatClampNeg)) &&& (31 : Int32))) : Int32) - (1 : Int32))) ^^^ ((g 2) p0.toNatClampNeg)) >>> ((1 : Int32) &&& (31 : Int32))) : Int32)) &&& (85 : Int32))]) (pc' := 64) (L' := [some (.ref 1), some (.int p0), none, some (.int (((f 70) - p1) - ((g 3) p0.toNatClampNeg))), some (.int (((((f 71) >>> (((2 : Int32) * (((f 70) - p1) - ((g 3) p0.toNatClampNeg))) &&& (31 : Int32))) : Int32) &&& ((((1 : Int32) <<< (((2 : Int32) * ((g 3) p0.toNatClampNeg)) &&& (31 : Int32))) : Int32) - (1 : Int32))) ^^^ ((g 2) p0.toNatClampNeg)))]) (st' := []) (w1 := Wd f fl g gl hh v tx) rfl ⟨Nat.le_of_ble_eq_true rfl, Nat.le_of_ble_eq_true rfl⟩ rfl ?_
    exact h5
  · have h6 := h1.2 c2
    refine WP.run hP_48 1 (c' := (20, [some (.ref 1), some (.int p0), some (.int p1), some (.int (((f 70) - p1) - ((g 3) p0.toNatClampNeg))), none], [.int 1000000], Wd f fl g gl hh v tx)) rfl ?_
    exact WP.retI hP_48 rfl rfl h6

set_option maxRecDepth 20000 in
theorem b_yst_others_1_64 (X : mm_X) (d : Nat) (f : Nat → Int32) (fl : Nat → Int64) (g : Nat → Nat → Int32) (gl : Nat → Nat → Int64) (hh : Nat → Nat → Option Nat) (v : Nat → Value) (tx : mm_W) (l1 : Int32) (l3 : Int32) (l4 : Int32) (s0 : Int32)  (P : Option Value → mm_W → Prop)
    (h : P (some (.int s0)) (Wd f fl g gl hh v tx)) :
    WP X (d) 48 (64, [some (.ref 1), some (.int l1), none, some (.int l3), some (.int l4)], [.int s0], Wd f fl g gl hh v tx) P := by
  exact WP.retI hP_48 rfl rfl h

set_option maxRecDepth 20000 in
theorem b_yst_others_19_0 (X : mm_X) (d : Nat) (f : Nat → Int32) (fl : Nat → Int64) (g : Nat → Nat → Int32) (gl : Nat → Nat → Int64) (hh : Nat → Nat → Option Nat) (v : Nat → Value) (tx : mm_W) (p0 : Int32) (p1 : Int32)  (P : Option Value → mm_W → Prop)
    (h : (¬ (p0 < 0 ∨ 8 ≤ p0.toNatClampNeg)) ∧ (((0 ≤ (((f 1222) - p1) - ((g 21) p0.toNatClampNeg))) → ((¬ (p0 < 0 ∨ 8 ≤ p0.toNatClampNeg)) ∧ ((¬ (p0 < 0 ∨ 8 ≤ p0.toNatClampNeg)) ∧ WP X (d) 256 (0, [some (.int (((((((f 1223) >>> (((2 : Int32) * (((f 1222) - p1) - ((g 21) p0.toNatClampNeg))) &&& (31 : Int32))) : Int32) &&& ((((1 : Int32) <<< (((2 : Int32) * ((g 21) p0.toNatClampNeg)) &&& (31 : Int32))) : Int32) - (1 : Int32))) ^^^ ((g 20) p0.toNatClampNeg)) ||| (((((((f 1223) >>> (((2 : Int32) * (((f 1222) - p1) - ((g 21) p0.toNatClampNeg))) &&& (31 : Int32))) : Int32) &&& ((((1 : Int32) <<< (((2 : Int32) * ((g 21) p0.toNatClampNeg)) &&& (31 : Int32))) : Int32) - (1 : Int32))) ^^^ ((g 20) p0.toNatClampNeg)) >>> ((1 : Int32) &&& (31 : Int32))) : Int32)) &&& (85 : Int32)))], [], Wd f fl g gl hh v tx) (fun rv w2 => WP X (d + 1) 48 (64, [some (.ref 19), some (.int p0), none, some (.int (((f 1222) - p1) - ((g 21) p0.toNatClampNeg))), some (.int (((((f 1223) >>> (((2 : Int32) * (((f 1222) - p1) - ((g 21) p0.toNatClampNeg))) &&& (31 : Int32))) : Int32) &&& ((((1 : Int32) <<< (((2 : Int32) * ((g 21) p0.toNatClampNeg)) &&& (31 : Int32))) : Int32) - (1 : Int32))) ^^^ ((g 20) p0.toNatClampNeg)))], rv.toList ++ [], w2) P)))) ∧
    ((¬ (0 ≤ (((f 1222) - p1) - ((g 21) p0.toNatClampNeg)))) → P (some (.int 1000000)) (Wd f fl g gl hh v tx)))) :
    WP X (d + 1) 48 (0, [some (.ref 19), some (.int p0), some (.int p1), none, none], [], Wd f fl g gl hh v tx) P := by
  refine WP.run hP_48 7 (c' := (11, [some (.ref 19), some (.int p0), some (.int p1), none, none], [.int p0, .ref 21, .int ((f 1222) - p1)], Wd f fl g gl hh v tx)) rfl ?_
  refine WP.of (fun _ _ => Ex.iald hP_48 rfl (Wa_21 _ _ _ _ _ _ _) h.1) ?_
  have h1 := h.2
  refine WP.run hP_48 3 (c' := (15, [some (.ref 19), some (.int p0), some (.int p1), some (.int (((f 1222) - p1) - ((g 21) p0.toNatClampNeg))), none], [.int (((f 1222) - p1) - ((g 21) p0.toNatClampNeg))], Wd f fl g gl hh v tx)) rfl ?_
  refine WP.br hP_48 (q := 0 ≤ (((f 1222) - p1) - ((g 21) p0.toNatClampNeg))) (t := 21) (f := 18) (L := [some (.ref 19), some (.int p0), some (.int p1), some (.int (((f 1222) - p1) - ((g 21) p0.toNatClampNeg))), none]) (st := []) (w := Wd f fl g gl hh v tx) rfl (fun c2 => ?_) (fun c2 => ?_)
  · have h3 := h1.1 c2
    refine WP.run hP_48 11 (c' := (36, [some (.ref 19), some (.int p0), none, some (.int (((f 1222) - p1) - ((g 21) p0.toNatClampNeg))), none], [.int p0, .ref 21, .int 2, .int 1, .int (((f 1223) >>> (((2 : Int32) * (((f 1222) - p1) - ((g 21) p0.toNatClampNeg))) &&& (31 : Int32))) : Int32)], Wd f fl g gl hh v tx)) rfl ?_
    refine WP.of (fun _ _ => Ex.iald hP_48 rfl (Wa_21 _ _ _ _ _ _ _) h3.1) ?_
    have h4 := h3.2
    refine WP.run hP_48 8 (c' := (47, [some (.ref 19), some (.int p0), none, some (.int (((f 1222) - p1) - ((g 21) p0.toNatClampNeg))), none], [.int p0, .ref 20, .int ((((f 1223) >>> (((2 : Int32) * (((f 1222) - p1) - ((g 21) p0.toNatClampNeg))) &&& (31 : Int32))) : Int32) &&& ((((1 : Int32) <<< (((2 : Int32) * ((g 21) p0.toNatClampNeg)) &&& (31 : Int32))) : Int32) - (1 : Int32)))], Wd f fl g gl hh v tx)) rfl ?_
    refine WP.of (fun _ _ => Ex.iald hP_48 rfl (Wa_20 _ _ _ _ _ _ _) h4.1) ?_
    have h5 := h4.2
    refine WP.run hP_48 9 (c' := (61, [some (.ref 19), some (.int p0), none, some (.int (((f 1222) - p1) - ((g 21) p0.toNatClampNeg))), some (.int (((((f 1223) >>> (((2 : Int32) * (((f 1222) - p1) - ((g 21) p0.toNatClampNeg))) &&& (31 : Int32))) : Int32) &&& ((((1 : Int32) <<< (((2 : Int32) * ((g 21) p0.toNatClampNeg)) &&& (31 : Int32))) : Int32) - (1 : Int32))) ^^^ ((g 20) p0.toNatClampNeg)))], [.int (((((((f 1223) >>> (((2 : Int32) * (((f 1222) - p1) - ((g 21) p0.toNatClampNeg))) &&& (31 : Int32))) : Int32) &&& ((((1 : Int32) <<< (((2 : Int32) * ((g 21) p0.toNatClampNeg)) &&& (31 : Int32))) : Int32) - (1 : Int32))) ^^^ ((g 20) p0.toNatClampNeg)) ||| (((((((f 1223) >>> (((2 : Int32) * (((f 1222) - p1) - ((g 21) p0.toNatClampNeg))) &&& (31 : Int32))) : Int32) &&& ((((1 : Int32) <<< (((2 : Int32) * ((g 21) p0.toNatClampNeg)) &&& (31 : Int32))) : Int32) - (1 : Int32))) ^^^ ((g 20) p0.toNatClampNeg)) >>> ((1 : Int32) &&& (31 : Int32))) : Int32)) &&& (85 : Int32))], Wd f fl g gl hh v tx)) rfl ?_
    refine WP.call hP_48 hP_256 (as := [.int (((((((f 1223) >>> (((2 : Int32) * (((f 1222) - p1) - ((g 21) p0.toNatClampNeg))) &&& (31 : Int32))) : Int32) &&& ((((1 : Int32) <<< (((2 : Int32) * ((g 21) p0.toNatClampNeg)) &&& (31 : Int32))) : Int32) - (1 : Int32))) ^^^ ((g 20) p0.toNatClampNeg)) ||| (((((((f 1223) >>> (((2 : Int32) * (((f 1222) - p1) - ((g 21) p0.toNatClampNeg))) &&& (31 : Int32))) : Int32) &&& ((((1 : Int32) <<< (((2 : Int32) * ((g 21) p0.toNatClampNeg)) &&& (31 : Int32))) : Int32) - (1 : Int32))) ^^^ ((g 20) p0.toNatClampNeg)) >>> ((1 : Int32) &&& (31 : Int32))) : Int32)) &&& (85 : Int32))]) (pc' := 64) (L' := [some (.ref 19), some (.int p0), none, some (.int (((f 1222) - p1) - ((g 21) p0.toNatClampNeg))), some (.int (((((f 1223) >>> (((2 : Int32) * (((f 1222) - p1) - ((g 21) p0.toNatClampNeg))) &&& (31 : Int32))) : Int32) &&& ((((1 : Int32) <<< (((2 : Int32) * ((g 21) p0.toNatClampNeg)) &&& (31 : Int32))) : Int32) - (1 : Int32))) ^^^ ((g 20) p0.toNatClampNeg)))]) (st' := []) (w1 := Wd f fl g gl hh v tx) rfl ⟨Nat.le_of_ble_eq_true rfl, Nat.le_of_ble_eq_true rfl⟩ rfl ?_
    exact h5
  · have h6 := h1.2 c2
    refine WP.run hP_48 1 (c' := (20, [some (.ref 19), some (.int p0), some (.int p1), some (.int (((f 1222) - p1) - ((g 21) p0.toNatClampNeg))), none], [.int 1000000], Wd f fl g gl hh v tx)) rfl ?_
    exact WP.retI hP_48 rfl rfl h6

set_option maxRecDepth 20000 in
theorem b_yst_others_19_64 (X : mm_X) (d : Nat) (f : Nat → Int32) (fl : Nat → Int64) (g : Nat → Nat → Int32) (gl : Nat → Nat → Int64) (hh : Nat → Nat → Option Nat) (v : Nat → Value) (tx : mm_W) (l1 : Int32) (l3 : Int32) (l4 : Int32) (s0 : Int32)  (P : Option Value → mm_W → Prop)
    (h : P (some (.int s0)) (Wd f fl g gl hh v tx)) :
    WP X (d) 48 (64, [some (.ref 19), some (.int l1), none, some (.int l3), some (.int l4)], [.int s0], Wd f fl g gl hh v tx) P := by
  exact WP.retI hP_48 rfl rfl h

set_option maxRecDepth 20000 in
theorem b_yca_waysFrom_38_1_0 (X : mm_X) (d : Nat) (f : Nat → Int32) (fl : Nat → Int64) (g : Nat → Nat → Int32) (gl : Nat → Nat → Int64) (hh : Nat → Nat → Option Nat) (v : Nat → Value) (tx : mm_W) (p0 : Int32) (p1 : Int32)  (P : Option Value → mm_W → Prop)
    (h : WP X (d) 13 (6, [some (.ref 38), some (.ref 1), some (.int p0), some (.int p1), some (.int 0), some (.int 0), none], [], Wd f fl g gl hh v tx) P) :
    WP X (d) 13 (0, [some (.ref 38), some (.ref 1), some (.int p0), some (.int p1), none, none, none], [], Wd f fl g gl hh v tx) P := by
  refine WP.run hP_13 3 (c' := (4, [some (.ref 38), some (.ref 1), some (.int p0), some (.int p1), some (.int 0), none, none], [.int 0], Wd f fl g gl hh v tx)) rfl ?_
  refine WP.run hP_13 1 (c' := (6, [some (.ref 38), some (.ref 1), some (.int p0), some (.int p1), some (.int 0), some (.int 0), none], [], Wd f fl g gl hh v tx)) rfl ?_
  exact h

set_option maxRecDepth 20000 in
theorem b_yca_waysFrom_38_1_6 (X : mm_X) (d : Nat) (f : Nat → Int32) (fl : Nat → Int64) (g : Nat → Nat → Int32) (gl : Nat → Nat → Int64) (hh : Nat → Nat → Option Nat) (v : Nat → Value) (tx : mm_W) (l2 : Int32) (l3 : Int32) (l4 : Int32) (l5 : Int32)  (P : Option Value → mm_W → Prop)
    (h : (((f 64) ≤ l5) → P (some (.int l4)) (Wd f fl g gl hh v tx)) ∧
    ((¬ ((f 64) ≤ l5)) → (((l3 = (-1)) → WP X (d) 48 (0, [some (.ref 1), some (.int l5), some (.int l2), none, none], [], Wd f fl g gl hh v tx) (fun rv w2 => WP X (d + 1) 13 (50, [some (.ref 38), some (.ref 1), some (.int l2), some (.int l3), some (.int l4), some (.int l5), some (.int 1)], rv.toList ++ [], w2) P)) ∧
      ((¬ l3 = (-1)) → ((¬ (l5 < 0 ∨ 8 ≤ l5.toNatClampNeg)) ∧ (((¬ ((g 4) l5.toNatClampNeg) = l3) → WP X (d + 1) 13 (6, [some (.ref 38), some (.ref 1), some (.int l2), some (.int l3), some (.int l4), some (.int (l5 + (1 : Int32))), none], [], Wd f fl g gl hh v tx) P) ∧
        ((((g 4) l5.toNatClampNeg) = l3) → WP X (d) 48 (0, [some (.ref 1), some (.int l5), some (.int l2), none, none], [], Wd f fl g gl hh v tx) (fun rv w2 => WP X (d + 1) 13 (50, [some (.ref 38), some (.ref 1), some (.int l2), some (.int l3), some (.int l4), some (.int l5), some (.int 1)], rv.toList ++ [], w2) P)))))))) :
    WP X (d + 1) 13 (6, [some (.ref 38), some (.ref 1), some (.int l2), some (.int l3), some (.int l4), some (.int l5), none], [], Wd f fl g gl hh v tx) P := by
  refine WP.run hP_13 3 (c' := (12, [some (.ref 38), some (.ref 1), some (.int l2), some (.int l3), some (.int l4), some (.int l5), none], [.int (f 64), .int l5], Wd f fl g gl hh v tx)) rfl ?_
  refine WP.br hP_13 (q := (f 64) ≤ l5) (t := 78) (f := 15) (L := [some (.ref 38), some (.ref 1), some (.int l2), some (.int l3), some (.int l4), some (.int l5), none]) (st := []) (w := Wd f fl g gl hh v tx) rfl (fun c1 => ?_) (fun c1 => ?_)
  · have h2 := h.1 c1
    refine WP.run hP_13 1 (c' := (80, [none, none, none, none, some (.int l4), none, none], [.int l4], Wd f fl g gl hh v tx)) rfl ?_
    exact WP.retI hP_13 rfl rfl h2
  · have h3 := h.2 c1
    refine WP.run hP_13 2 (c' := (17, [some (.ref 38), some (.ref 1), some (.int l2), some (.int l3), some (.int l4), some (.int l5), none], [.int (-1), .int l3], Wd f fl g gl hh v tx)) rfl ?_
    refine WP.br hP_13 (q := l3 = (-1)) (t := 31) (f := 20) (L := [some (.ref 38), some (.ref 1), some (.int l2), some (.int l3), some (.int l4), some (.int l5), none]) (st := []) (w := Wd f fl g gl hh v tx) rfl (fun c4 => ?_) (fun c4 => ?_)
    · have h5 := h3.1 c4
      refine WP.run hP_13 2 (c' := (36, [some (.ref 38), some (.ref 1), some (.int l2), some (.int l3), some (.int l4), some (.int l5), none], [.int 1], Wd f fl g gl hh v tx)) rfl ?_
      refine WP.run hP_13 6 (c' := (47, [some (.ref 38), some (.ref 1), some (.int l2), some (.int l3), some (.int l4), some (.int l5), some (.int 1)], [.int l2, .int l5, .ref 1], Wd f fl g gl hh v tx)) rfl ?_
      refine WP.call hP_13 hP_48 (as := [.ref 1, .int l5, .int l2]) (pc' := 50) (L' := [some (.ref 38), some (.ref 1), some (.int l2), some (.int l3), some (.int l4), some (.int l5), some (.int 1)]) (st' := []) (w1 := Wd f fl g gl hh v tx) rfl ⟨Nat.le_of_ble_eq_true rfl, Nat.le_of_ble_eq_true rfl⟩ rfl ?_
      exact h5
    · have h6 := h3.2 c4
      refine WP.run hP_13 3 (c' := (26, [some (.ref 38), some (.ref 1), some (.int l2), some (.int l3), some (.int l4), some (.int l5), none], [.int l5, .ref 4], Wd f fl g gl hh v tx)) rfl ?_
      refine WP.of (fun _ _ => Ex.iald hP_13 rfl (Wa_4 _ _ _ _ _ _ _) h6.1) ?_
      have h7 := h6.2
      refine WP.run hP_13 1 (c' := (28, [some (.ref 38), some (.ref 1), some (.int l2), some (.int l3), some (.int l4), some (.int l5), none], [.int l3, .int ((g 4) l5.toNatClampNeg)], Wd f fl g gl hh v tx)) rfl ?_
      refine WP.br hP_13 (q := ¬ ((g 4) l5.toNatClampNeg) = l3) (t := 35) (f := 31) (L := [some (.ref 38), some (.ref 1), some (.int l2), some (.int l3), some (.int l4), some (.int l5), none]) (st := []) (w := Wd f fl g gl hh v tx) rfl (fun c8 => ?_) (fun c8 => ?_)
      · have h9 := h7.1 c8
        refine WP.run hP_13 1 (c' := (36, [some (.ref 38), some (.ref 1), some (.int l2), some (.int l3), some (.int l4), some (.int l5), none], [.int 0], Wd f fl g gl hh v tx)) rfl ?_
        refine WP.run hP_13 3 (c' := (72, [some (.ref 38), some (.ref 1), some (.int l2), some (.int l3), some (.int l4), some (.int l5), some (.int 0)], [], Wd f fl g gl hh v tx)) rfl ?_
        refine WP.run hP_13 2 (c' := (6, [some (.ref 38), some (.ref 1), some (.int l2), some (.int l3), some (.int l4), some (.int (l5 + (1 : Int32))), none], [], Wd f fl g gl hh v tx)) rfl ?_
        exact h9
      · have h10 := h7.2 (Classical.not_not.mp c8)
        refine WP.run hP_13 2 (c' := (36, [some (.ref 38), some (.ref 1), some (.int l2), some (.int l3), some (.int l4), some (.int l5), none], [.int 1], Wd f fl g gl hh v tx)) rfl ?_
        refine WP.run hP_13 6 (c' := (47, [some (.ref 38), some (.ref 1), some (.int l2), some (.int l3), some (.int l4), some (.int l5), some (.int 1)], [.int l2, .int l5, .ref 1], Wd f fl g gl hh v tx)) rfl ?_
        refine WP.call hP_13 hP_48 (as := [.ref 1, .int l5, .int l2]) (pc' := 50) (L' := [some (.ref 38), some (.ref 1), some (.int l2), some (.int l3), some (.int l4), some (.int l5), some (.int 1)]) (st' := []) (w1 := Wd f fl g gl hh v tx) rfl ⟨Nat.le_of_ble_eq_true rfl, Nat.le_of_ble_eq_true rfl⟩ rfl ?_
        exact h10

set_option maxRecDepth 20000 in
theorem b_yca_waysFrom_38_1_50 (X : mm_X) (d : Nat) (f : Nat → Int32) (fl : Nat → Int64) (g : Nat → Nat → Int32) (gl : Nat → Nat → Int64) (hh : Nat → Nat → Option Nat) (v : Nat → Value) (tx : mm_W) (l2 : Int32) (l3 : Int32) (l4 : Int32) (l5 : Int32) (l6 : Int32) (s0 : Int32)  (P : Option Value → mm_W → Prop)
    (h : ((¬ s0 = 0) → WP X (d) 13 (6, [some (.ref 38), some (.ref 1), some (.int l2), some (.int l3), some (.int l4), some (.int (l5 + (1 : Int32))), none], [], Wd f fl g gl hh v tx) P) ∧
    ((s0 = 0) → ((¬ (l5 < 0 ∨ 8 ≤ l5.toNatClampNeg)) ∧ ((¬ ((l2 + ((g 3) l5.toNatClampNeg)) < 0 ∨ 13 ≤ (l2 + ((g 3) l5.toNatClampNeg)).toNatClampNeg)) ∧ WP X (d) 13 (6, [some (.ref 38), some (.ref 1), some (.int l2), some (.int l3), some (.int (l4 + ((g 43) (l2 + ((g 3) l5.toNatClampNeg)).toNatClampNeg))), some (.int (l5 + (1 : Int32))), none], [], Wd f fl g gl hh v tx) P)))) :
    WP X (d) 13 (50, [some (.ref 38), some (.ref 1), some (.int l2), some (.int l3), some (.int l4), some (.int l5), some (.int l6)], [.int s0], Wd f fl g gl hh v tx) P := by
  refine WP.br hP_13 (q := ¬ s0 = 0) (t := 72) (f := 53) (L := [some (.ref 38), some (.ref 1), some (.int l2), some (.int l3), some (.int l4), some (.int l5), some (.int l6)]) (st := []) (w := Wd f fl g gl hh v tx) rfl (fun c1 => ?_) (fun c1 => ?_)
  · have h2 := h.1 c1
    refine WP.run hP_13 2 (c' := (6, [some (.ref 38), some (.ref 1), some (.int l2), some (.int l3), some (.int l4), some (.int (l5 + (1 : Int32))), none], [], Wd f fl g gl hh v tx)) rfl ?_
    exact h2
  · have h3 := h.2 (Classical.not_not.mp c1)
    refine WP.run hP_13 7 (c' := (66, [some (.ref 38), some (.ref 1), some (.int l2), some (.int l3), some (.int l4), some (.int l5), some (.int l6)], [.int l5, .ref 3, .int l2, .ref 43, .int l4], Wd f fl g gl hh v tx)) rfl ?_
    refine WP.of (fun _ _ => Ex.iald hP_13 rfl (Wa_3 _ _ _ _ _ _ _) h3.1) ?_
    have h4 := h3.2
    refine WP.run hP_13 1 (c' := (68, [some (.ref 38), some (.ref 1), some (.int l2), some (.int l3), some (.int l4), some (.int l5), some (.int l6)], [.int (l2 + ((g 3) l5.toNatClampNeg)), .ref 43, .int l4], Wd f fl g gl hh v tx)) rfl ?_
    refine WP.of (fun _ _ => Ex.iald hP_13 rfl (Wa_43 _ _ _ _ _ _ _) h4.1) ?_
    have h5 := h4.2
    refine WP.run hP_13 2 (c' := (72, [some (.ref 38), some (.ref 1), some (.int l2), some (.int l3), some (.int (l4 + ((g 43) (l2 + ((g 3) l5.toNatClampNeg)).toNatClampNeg))), some (.int l5), some (.int l6)], [], Wd f fl g gl hh v tx)) rfl ?_
    refine WP.run hP_13 2 (c' := (6, [some (.ref 38), some (.ref 1), some (.int l2), some (.int l3), some (.int (l4 + ((g 43) (l2 + ((g 3) l5.toNatClampNeg)).toNatClampNeg))), some (.int (l5 + (1 : Int32))), none], [], Wd f fl g gl hh v tx)) rfl ?_
    exact h5

set_option maxRecDepth 20000 in
theorem b_yca_fitting_38_1_0 (X : mm_X) (d : Nat) (f : Nat → Int32) (fl : Nat → Int64) (g : Nat → Nat → Int32) (gl : Nat → Nat → Int64) (hh : Nat → Nat → Option Nat) (v : Nat → Value) (tx : mm_W) (p0 : Int32)  (P : Option Value → mm_W → Prop)
    (h : (¬ ((f 70) < 0 ∨ 13 ≤ (f 70).toNatClampNeg)) ∧ WP X (d) 12 (17, [some (.ref 38), some (.ref 1), some (.int p0), some (.int ((f 70) - (1 : Int32))), none], [], Wd f fl (va_up g 43 (upd (g 43) ((f 70).toNatClampNeg) 1)) gl hh v tx) P) :
    WP X (d) 12 (0, [some (.ref 38), some (.ref 1), some (.int p0), none, none], [], Wd f fl g gl hh v tx) P := by
  refine WP.run hP_12 5 (c' := (9, [some (.ref 38), some (.ref 1), some (.int p0), none, none], [.int 1, .int (f 70), .ref 43], Wd f fl g gl hh v tx)) rfl ?_
  refine WP.of (fun _ _ => Ex.iast hP_12 (w2 := Wd f fl (va_up g 43 (upd (g 43) ((f 70).toNatClampNeg) 1)) gl hh v tx) rfl (Wa_43 _ _ _ _ _ _ _) h.1 (Ws_43 _ _ _ _ _ _ _ _)) ?_
  have h1 := h.2
  refine WP.run hP_12 5 (c' := (17, [some (.ref 38), some (.ref 1), some (.int p0), some (.int ((f 70) - (1 : Int32))), none], [], Wd f fl (va_up g 43 (upd (g 43) ((f 70).toNatClampNeg) 1)) gl hh v tx)) rfl ?_
  exact h1

set_option maxRecDepth 20000 in
theorem b_yca_fitting_38_1_17 (X : mm_X) (d : Nat) (f : Nat → Int32) (fl : Nat → Int64) (g : Nat → Nat → Int32) (gl : Nat → Nat → Int64) (hh : Nat → Nat → Option Nat) (v : Nat → Value) (tx : mm_W) (l2 : Int32) (l3 : Int32)  (P : Option Value → mm_W → Prop)
    (h : ((l3 < 0) → WP X (d + 1) 12 (44, [some (.ref 38), some (.ref 1), none, some (.int (l2 - (1 : Int32))), none], [], Wd f fl g gl hh v tx) P) ∧
    ((¬ (l3 < 0)) → WP X (d) 13 (0, [some (.ref 38), some (.ref 1), some (.int l3), some (.int (-1)), none, none, none], [], Wd f fl g gl hh v tx) (fun rv w2 => WP X (d + 1) 12 (33, [some (.ref 38), some (.ref 1), some (.int l2), some (.int l3), none], rv.toList ++ [.int l3, .ref 43], w2) P))) :
    WP X (d + 1) 12 (17, [some (.ref 38), some (.ref 1), some (.int l2), some (.int l3), none], [], Wd f fl g gl hh v tx) P := by
  refine WP.run hP_12 1 (c' := (18, [some (.ref 38), some (.ref 1), some (.int l2), some (.int l3), none], [.int l3], Wd f fl g gl hh v tx)) rfl ?_
  refine WP.br hP_12 (q := l3 < 0) (t := 40) (f := 21) (L := [some (.ref 38), some (.ref 1), some (.int l2), some (.int l3), none]) (st := []) (w := Wd f fl g gl hh v tx) rfl (fun c1 => ?_) (fun c1 => ?_)
  · have h2 := h.1 c1
    refine WP.run hP_12 3 (c' := (43, [some (.ref 38), some (.ref 1), some (.int l2), none, none], [.int (l2 - (1 : Int32))], Wd f fl g gl hh v tx)) rfl ?_
    refine WP.run hP_12 1 (c' := (44, [some (.ref 38), some (.ref 1), some (.int l2), some (.int (l2 - (1 : Int32))), none], [], Wd f fl g gl hh v tx)) rfl ?_
    refine WP.clr hP_12 (pc := 44) rfl ?_
    exact h2
  · have h3 := h.2 c1
    refine WP.run hP_12 7 (c' := (30, [some (.ref 38), some (.ref 1), some (.int l2), some (.int l3), none], [.int (-1), .int l3, .ref 1, .ref 38, .int l3, .ref 43], Wd f fl g gl hh v tx)) rfl ?_
    refine WP.call hP_12 hP_13 (as := [.ref 38, .ref 1, .int l3, .int (-1)]) (pc' := 33) (L' := [some (.ref 38), some (.ref 1), some (.int l2), some (.int l3), none]) (st' := [.int l3, .ref 43]) (w1 := Wd f fl g gl hh v tx) rfl ⟨Nat.le_of_ble_eq_true rfl, Nat.le_of_ble_eq_true rfl⟩ rfl ?_
    exact h3

set_option maxRecDepth 20000 in
theorem b_yca_fitting_38_1_44 (X : mm_X) (d : Nat) (f : Nat → Int32) (fl : Nat → Int64) (g : Nat → Nat → Int32) (gl : Nat → Nat → Int64) (hh : Nat → Nat → Option Nat) (v : Nat → Value) (tx : mm_W) (l3 : Int32)  (P : Option Value → mm_W → Prop)
    (h : ((l3 < 0) → P (some (.int ((g 43) 0))) (Wd f fl g gl hh v tx)) ∧
    ((¬ (l3 < 0)) → WP X (d) 12 (51, [some (.ref 38), some (.ref 1), none, some (.int l3), some (.int 0)], [], Wd f fl g gl hh v tx) P)) :
    WP X (d) 12 (44, [some (.ref 38), some (.ref 1), none, some (.int l3), none], [], Wd f fl g gl hh v tx) P := by
  refine WP.run hP_12 1 (c' := (45, [some (.ref 38), some (.ref 1), none, some (.int l3), none], [.int l3], Wd f fl g gl hh v tx)) rfl ?_
  refine WP.br hP_12 (q := l3 < 0) (t := 102) (f := 48) (L := [some (.ref 38), some (.ref 1), none, some (.int l3), none]) (st := []) (w := Wd f fl g gl hh v tx) rfl (fun c1 => ?_) (fun c1 => ?_)
  · have h2 := h.1 c1
    refine WP.run hP_12 3 (c' := (107, [some (.ref 38), none, none, none, none], [.int 0, .ref 43], Wd f fl g gl hh v tx)) rfl ?_
    refine WP.of (fun _ _ => Ex.iald hP_12 rfl (Wa_43 _ _ _ _ _ _ _) (by decide)) ?_
    show WP X _ 12 (108, [some (.ref 38), none, none, none, none], [.int ((g 43) 0)], Wd f fl g gl hh v tx) P
    exact WP.retI hP_12 rfl rfl h2
  · have h3 := h.2 c1
    refine WP.run hP_12 2 (c' := (51, [some (.ref 38), some (.ref 1), none, some (.int l3), some (.int 0)], [], Wd f fl g gl hh v tx)) rfl ?_
    exact h3

set_option maxRecDepth 20000 in
theorem b_yca_fitting_38_1_33 (X : mm_X) (d : Nat) (f : Nat → Int32) (fl : Nat → Int64) (g : Nat → Nat → Int32) (gl : Nat → Nat → Int64) (hh : Nat → Nat → Option Nat) (v : Nat → Value) (tx : mm_W) (l2 : Int32) (l3 : Int32) (s0 : Int32) (s1 : Int32)  (P : Option Value → mm_W → Prop)
    (h : (¬ (s1 < 0 ∨ 13 ≤ s1.toNatClampNeg)) ∧ WP X (d) 12 (17, [some (.ref 38), some (.ref 1), some (.int l2), some (.int (l3 + (-1 : Int32))), none], [], Wd f fl (va_up g 43 (upd (g 43) (s1.toNatClampNeg) s0)) gl hh v tx) P) :
    WP X (d) 12 (33, [some (.ref 38), some (.ref 1), some (.int l2), some (.int l3), none], [.int s0, .int s1, .ref 43], Wd f fl g gl hh v tx) P := by
  refine WP.of (fun _ _ => Ex.iast hP_12 (w2 := Wd f fl (va_up g 43 (upd (g 43) (s1.toNatClampNeg) s0)) gl hh v tx) rfl (Wa_43 _ _ _ _ _ _ _) h.1 (Ws_43 _ _ _ _ _ _ _ _)) ?_
  have h1 := h.2
  refine WP.run hP_12 2 (c' := (17, [some (.ref 38), some (.ref 1), some (.int l2), some (.int (l3 + (-1 : Int32))), none], [], Wd f fl (va_up g 43 (upd (g 43) (s1.toNatClampNeg) s0)) gl hh v tx)) rfl ?_
  exact h1

set_option maxRecDepth 20000 in
theorem b_yca_fitting_38_1_51 (X : mm_X) (d : Nat) (f : Nat → Int32) (fl : Nat → Int64) (g : Nat → Nat → Int32) (gl : Nat → Nat → Int64) (hh : Nat → Nat → Option Nat) (v : Nat → Value) (tx : mm_W) (l3 : Int32) (l4 : Int32)  (P : Option Value → mm_W → Prop)
    (h : (((f 70) ≤ l4) → ((¬ ((f 70) < 0 ∨ 13 ≤ (f 70).toNatClampNeg)) ∧ WP X (d + 1) 12 (44, [some (.ref 38), some (.ref 1), none, some (.int (l3 + (-1 : Int32))), none], [], Wd f fl (va_up g 43 (upd (g 43) ((f 70).toNatClampNeg) 0)) gl hh v tx) P)) ∧
    ((¬ ((f 70) ≤ l4)) → ((¬ (l3 < 0 ∨ 6 ≤ l3.toNatClampNeg)) ∧ WP X (d) 13 (0, [some (.ref 38), some (.ref 1), some (.int l4), some (.int ((g 6) l3.toNatClampNeg)), none, none, none], [], Wd f fl g gl hh v tx) (fun rv w2 => WP X (d + 1) 12 (79, [some (.ref 38), some (.ref 1), none, some (.int l3), some (.int l4)], rv.toList ++ [.int l4, .ref 43], w2) P)))) :
    WP X (d + 1) 12 (51, [some (.ref 38), some (.ref 1), none, some (.int l3), some (.int l4)], [], Wd f fl g gl hh v tx) P := by
  refine WP.run hP_12 3 (c' := (57, [some (.ref 38), some (.ref 1), none, some (.int l3), some (.int l4)], [.int (f 70), .int l4], Wd f fl g gl hh v tx)) rfl ?_
  refine WP.br hP_12 (q := (f 70) ≤ l4) (t := 86) (f := 60) (L := [some (.ref 38), some (.ref 1), none, some (.int l3), some (.int l4)]) (st := []) (w := Wd f fl g gl hh v tx) rfl (fun c1 => ?_) (fun c1 => ?_)
  · have h2 := h.1 c1
    refine WP.run hP_12 5 (c' := (95, [some (.ref 38), some (.ref 1), none, some (.int l3), none], [.int 0, .int (f 70), .ref 43], Wd f fl g gl hh v tx)) rfl ?_
    refine WP.of (fun _ _ => Ex.iast hP_12 (w2 := Wd f fl (va_up g 43 (upd (g 43) ((f 70).toNatClampNeg) 0)) gl hh v tx) rfl (Wa_43 _ _ _ _ _ _ _) h2.1 (Ws_43 _ _ _ _ _ _ _ _)) ?_
    have h3 := h2.2
    refine WP.run hP_12 2 (c' := (44, [some (.ref 38), some (.ref 1), none, some (.int (l3 + (-1 : Int32))), none], [], Wd f fl (va_up g 43 (upd (g 43) ((f 70).toNatClampNeg) 0)) gl hh v tx)) rfl ?_
    exact h3
  · have h4 := h.2 c1
    refine WP.run hP_12 9 (c' := (75, [some (.ref 38), some (.ref 1), none, some (.int l3), some (.int l4)], [.int l3, .ref 6, .int l4, .ref 1, .ref 38, .int l4, .ref 43], Wd f fl g gl hh v tx)) rfl ?_
    refine WP.of (fun _ _ => Ex.iald hP_12 rfl (Wa_6 _ _ _ _ _ _ _) h4.1) ?_
    have h5 := h4.2
    refine WP.call hP_12 hP_13 (as := [.ref 38, .ref 1, .int l4, .int ((g 6) l3.toNatClampNeg)]) (pc' := 79) (L' := [some (.ref 38), some (.ref 1), none, some (.int l3), some (.int l4)]) (st' := [.int l4, .ref 43]) (w1 := Wd f fl g gl hh v tx) rfl ⟨Nat.le_of_ble_eq_true rfl, Nat.le_of_ble_eq_true rfl⟩ rfl ?_
    exact h5

set_option maxRecDepth 20000 in
theorem b_yca_fitting_38_1_79 (X : mm_X) (d : Nat) (f : Nat → Int32) (fl : Nat → Int64) (g : Nat → Nat → Int32) (gl : Nat → Nat → Int64) (hh : Nat → Nat → Option Nat) (v : Nat → Value) (tx : mm_W) (l3 : Int32) (l4 : Int32) (s0 : Int32) (s1 : Int32)  (P : Option Value → mm_W → Prop)
    (h : (¬ (s1 < 0 ∨ 13 ≤ s1.toNatClampNeg)) ∧ WP X (d) 12 (51, [some (.ref 38), some (.ref 1), none, some (.int l3), some (.int (l4 + (1 : Int32)))], [], Wd f fl (va_up g 43 (upd (g 43) (s1.toNatClampNeg) s0)) gl hh v tx) P) :
    WP X (d) 12 (79, [some (.ref 38), some (.ref 1), none, some (.int l3), some (.int l4)], [.int s0, .int s1, .ref 43], Wd f fl g gl hh v tx) P := by
  refine WP.of (fun _ _ => Ex.iast hP_12 (w2 := Wd f fl (va_up g 43 (upd (g 43) (s1.toNatClampNeg) s0)) gl hh v tx) rfl (Wa_43 _ _ _ _ _ _ _) h.1 (Ws_43 _ _ _ _ _ _ _ _)) ?_
  have h1 := h.2
  refine WP.run hP_12 2 (c' := (51, [some (.ref 38), some (.ref 1), none, some (.int l3), some (.int (l4 + (1 : Int32)))], [], Wd f fl (va_up g 43 (upd (g 43) (s1.toNatClampNeg) s0)) gl hh v tx)) rfl ?_
  exact h1

set_option maxRecDepth 20000 in
theorem b_x_readings_0 (X : mm_X) (d : Nat) (f : Nat → Int32) (fl : Nat → Int64) (g : Nat → Nat → Int32) (gl : Nat → Nat → Int64) (hh : Nat → Nat → Option Nat) (v : Nat → Value) (tx : mm_W)   (P : Option Value → mm_W → Prop)
    (h : WP X (d) 12 (0, [some (.ref 38), some (.ref 1), some (.int 0), none, none], [], Wd f fl g gl hh v tx) (fun rv w2 => WP X (d + 1) 79 (12, [some (.ref 0)], rv.toList ++ [], w2) P)) :
    WP X (d + 1) 79 (0, [some (.ref 0)], [], Wd f fl g gl hh v tx) P := by
  refine WP.run hP_79 5 (c' := (9, [some (.ref 0)], [.int 0, .ref 1, .ref 38], Wd f fl g gl hh v tx)) rfl ?_
  refine WP.call hP_79 hP_12 (as := [.ref 38, .ref 1, .int 0]) (pc' := 12) (L' := [some (.ref 0)]) (st' := []) (w1 := Wd f fl g gl hh v tx) rfl ⟨Nat.le_of_ble_eq_true rfl, Nat.le_of_ble_eq_true rfl⟩ rfl ?_
  exact h

set_option maxRecDepth 20000 in
theorem b_x_readings_12 (X : mm_X) (d : Nat) (f : Nat → Int32) (fl : Nat → Int64) (g : Nat → Nat → Int32) (gl : Nat → Nat → Int64) (hh : Nat → Nat → Option Nat) (v : Nat → Value) (tx : mm_W) (s0 : Int32)  (P : Option Value → mm_W → Prop)
    (h : P (some (.int s0)) (Wd f fl g gl hh v tx)) :
    WP X (d) 79 (12, [some (.ref 0)], [.int s0], Wd f fl g gl hh v tx) P := by
  exact WP.retI hP_79 rfl rfl h

set_option maxRecDepth 20000 in
theorem b_x_fits_0 (X : mm_X) (d : Nat) (f : Nat → Int32) (fl : Nat → Int64) (g : Nat → Nat → Int32) (gl : Nat → Nat → Int64) (hh : Nat → Nat → Option Nat) (v : Nat → Value) (tx : mm_W)   (P : Option Value → mm_W → Prop)
    (h : WP X (d) 12 (0, [some (.ref 38), some (.ref 1), some (.int (f 72)), none, none], [], Wd f fl g gl hh v tx) (fun rv w2 => WP X (d + 1) 90 (18, [some (.ref 0)], rv.toList ++ [], w2) P)) :
    WP X (d + 1) 90 (0, [some (.ref 0)], [], Wd f fl g gl hh v tx) P := by
  refine WP.run hP_90 7 (c' := (15, [some (.ref 0)], [.int (f 72), .ref 1, .ref 38], Wd f fl g gl hh v tx)) rfl ?_
  refine WP.call hP_90 hP_12 (as := [.ref 38, .ref 1, .int (f 72)]) (pc' := 18) (L' := [some (.ref 0)]) (st' := []) (w1 := Wd f fl g gl hh v tx) rfl ⟨Nat.le_of_ble_eq_true rfl, Nat.le_of_ble_eq_true rfl⟩ rfl ?_
  exact h

set_option maxRecDepth 20000 in
theorem b_x_fits_18 (X : mm_X) (d : Nat) (f : Nat → Int32) (fl : Nat → Int64) (g : Nat → Nat → Int32) (gl : Nat → Nat → Int64) (hh : Nat → Nat → Option Nat) (v : Nat → Value) (tx : mm_W) (s0 : Int32)  (P : Option Value → mm_W → Prop)
    (h : P (some (.int s0)) (Wd f fl g gl hh v tx)) :
    WP X (d) 90 (18, [some (.ref 0)], [.int s0], Wd f fl g gl hh v tx) P := by
  exact WP.retI hP_90 rfl rfl h

set_option maxRecDepth 20000 in
theorem b_m_clothOf_0 (X : mm_X) (d : Nat) (f : Nat → Int32) (fl : Nat → Int64) (g : Nat → Nat → Int32) (gl : Nat → Nat → Int64) (hh : Nat → Nat → Option Nat) (v : Nat → Value) (tx : mm_W) (p0 : Int32) (p1 : Int32)  (P : Option Value → mm_W → Prop)
    (h : (¬ (((23 : Int32) + p0) < 0 ∨ 5667 ≤ ((23 : Int32) + p0).toNatClampNeg)) ∧ ((¬ (((31 : Int32) + p0) < 0 ∨ 5667 ≤ ((31 : Int32) + p0).toNatClampNeg)) ∧ WP X (d) 137 (23, [none, none, some (.int p1), some (.int ((g 76) ((23 : Int32) + p0).toNatClampNeg)), some (.int (((g 76) ((31 : Int32) + p0).toNatClampNeg) - (1 : Int32)))], [], Wd f fl g gl hh v tx) P)) :
    WP X (d) 137 (0, [some (.ref 74), some (.int p0), some (.int p1), none, none], [], Wd f fl g gl hh v tx) P := by
  refine WP.run hP_137 5 (c' := (8, [some (.ref 74), some (.int p0), some (.int p1), none, none], [.int ((23 : Int32) + p0), .ref 76], Wd f fl g gl hh v tx)) rfl ?_
  refine WP.of (fun _ _ => Ex.iald hP_137 rfl (Wa_76 _ _ _ _ _ _ _) h.1) ?_
  have h1 := h.2
  refine WP.run hP_137 6 (c' := (18, [some (.ref 74), some (.int p0), some (.int p1), some (.int ((g 76) ((23 : Int32) + p0).toNatClampNeg)), none], [.int ((31 : Int32) + p0), .ref 76], Wd f fl g gl hh v tx)) rfl ?_
  refine WP.of (fun _ _ => Ex.iald hP_137 rfl (Wa_76 _ _ _ _ _ _ _) h1.1) ?_
  have h2 := h1.2
  refine WP.run hP_137 3 (c' := (23, [some (.ref 74), some (.int p0), some (.int p1), some (.int ((g 76) ((23 : Int32) + p0).toNatClampNeg)), some (.int (((g 76) ((31 : Int32) + p0).toNatClampNeg) - (1 : Int32)))], [], Wd f fl g gl hh v tx)) rfl ?_
  refine WP.clr hP_137 (pc := 23) rfl ?_
  exact h2

set_option maxRecDepth 20000 in
theorem b_m_clothOf_23 (X : mm_X) (d : Nat) (f : Nat → Int32) (fl : Nat → Int64) (g : Nat → Nat → Int32) (gl : Nat → Nat → Int64) (hh : Nat → Nat → Option Nat) (v : Nat → Value) (tx : mm_W) (l2 : Int32) (l3 : Int32) (l4 : Int32)  (P : Option Value → mm_W → Prop)
    (h : ((l4 ≤ l2) → P (some (.int ((l3 - (l3 / (10 : Int32)) * (10 : Int32)) - (1 : Int32)))) (Wd f fl g gl hh v tx)) ∧
    ((¬ (l4 ≤ l2)) → WP X (d) 137 (23, [none, none, some (.int l2), some (.int (l3 / (10 : Int32))), some (.int (l4 + (-1 : Int32)))], [], Wd f fl g gl hh v tx) P)) :
    WP X (d) 137 (23, [none, none, some (.int l2), some (.int l3), some (.int l4)], [], Wd f fl g gl hh v tx) P := by
  refine WP.run hP_137 2 (c' := (26, [none, none, some (.int l2), some (.int l3), some (.int l4)], [.int l2, .int l4], Wd f fl g gl hh v tx)) rfl ?_
  refine WP.br hP_137 (q := l4 ≤ l2) (t := 40) (f := 29) (L := [none, none, some (.int l2), some (.int l3), some (.int l4)]) (st := []) (w := Wd f fl g gl hh v tx) rfl (fun c1 => ?_) (fun c1 => ?_)
  · have h2 := h.1 c1
    refine WP.run hP_137 5 (c' := (46, [none, none, none, some (.int l3), none], [.int ((l3 - (l3 / (10 : Int32)) * (10 : Int32)) - (1 : Int32))], Wd f fl g gl hh v tx)) rfl ?_
    exact WP.retI hP_137 rfl rfl h2
  · have h3 := h.2 c1
    refine WP.run hP_137 4 (c' := (34, [none, none, some (.int l2), some (.int (l3 / (10 : Int32))), some (.int l4)], [], Wd f fl g gl hh v tx)) rfl ?_
    refine WP.run hP_137 2 (c' := (23, [none, none, some (.int l2), some (.int (l3 / (10 : Int32))), some (.int (l4 + (-1 : Int32)))], [], Wd f fl g gl hh v tx)) rfl ?_
    exact h3

set_option maxRecDepth 20000 in
theorem b_m_differsAt_0 (X : mm_X) (d : Nat) (f : Nat → Int32) (fl : Nat → Int64) (g : Nat → Nat → Int32) (gl : Nat → Nat → Int64) (hh : Nat → Nat → Option Nat) (v : Nat → Value) (tx : mm_W) (p0 : Int32) (p1 : Int32)  (P : Option Value → mm_W → Prop)
    (h : (¬ (((31 : Int32) + p0) < 0 ∨ 5667 ≤ ((31 : Int32) + p0).toNatClampNeg)) ∧ ((((p1 + ((g 76) ((31 : Int32) + p0).toNatClampNeg)) ≤ ((g 76) 12)) → WP X (d + 1) 194 (26, [some (.ref 74), some (.int p0), some (.int p1), some (.int 0), some (.int 0)], [], Wd f fl g gl hh v tx) P) ∧
    ((¬ ((p1 + ((g 76) ((31 : Int32) + p0).toNatClampNeg)) ≤ ((g 76) 12))) → P (some (.int 1000000)) (Wd f fl g gl hh v tx)))) :
    WP X (d + 1) 194 (0, [some (.ref 74), some (.int p0), some (.int p1), none, none], [], Wd f fl g gl hh v tx) P := by
  refine WP.run hP_194 6 (c' := (9, [some (.ref 74), some (.int p0), some (.int p1), none, none], [.int ((31 : Int32) + p0), .ref 76, .int p1], Wd f fl g gl hh v tx)) rfl ?_
  refine WP.of (fun _ _ => Ex.iald hP_194 rfl (Wa_76 _ _ _ _ _ _ _) h.1) ?_
  have h1 := h.2
  refine WP.run hP_194 2 (c' := (12, [some (.ref 74), some (.int p0), some (.int p1), none, none], [.ref 74, .int (p1 + ((g 76) ((31 : Int32) + p0).toNatClampNeg))], Wd f fl g gl hh v tx)) rfl ?_
  refine WP.call hP_194 hP_130 (as := [.ref 74]) (pc' := 15) (L' := [some (.ref 74), some (.int p0), some (.int p1), none, none]) (st' := [.int (p1 + ((g 76) ((31 : Int32) + p0).toNatClampNeg))]) (w1 := Wd f fl g gl hh v tx) rfl ⟨Nat.le_of_ble_eq_true rfl, Nat.le_of_ble_eq_true rfl⟩ rfl (b_m_size_0 X (d) f fl g gl hh v tx  _ ?_)
  refine WP.br hP_194 (q := (p1 + ((g 76) ((31 : Int32) + p0).toNatClampNeg)) ≤ ((g 76) 12)) (t := 21) (f := 18) (L := [some (.ref 74), some (.int p0), some (.int p1), none, none]) (st := []) (w := Wd f fl g gl hh v tx) rfl (fun c2 => ?_) (fun c2 => ?_)
  · have h3 := h1.1 c2
    refine WP.run hP_194 1 (c' := (22, [some (.ref 74), some (.int p0), some (.int p1), none, none], [.int 0], Wd f fl g gl hh v tx)) rfl ?_
    refine WP.run hP_194 2 (c' := (24, [some (.ref 74), some (.int p0), some (.int p1), some (.int 0), none], [.int 0], Wd f fl g gl hh v tx)) rfl ?_
    refine WP.run hP_194 1 (c' := (26, [some (.ref 74), some (.int p0), some (.int p1), some (.int 0), some (.int 0)], [], Wd f fl g gl hh v tx)) rfl ?_
    exact h3
  · have h4 := h1.2 c2
    refine WP.run hP_194 1 (c' := (20, [some (.ref 74), some (.int p0), some (.int p1), none, none], [.int 1000000], Wd f fl g gl hh v tx)) rfl ?_
    exact WP.retI hP_194 rfl rfl h4

set_option maxRecDepth 20000 in
theorem b_m_differsAt_26 (X : mm_X) (d : Nat) (f : Nat → Int32) (fl : Nat → Int64) (g : Nat → Nat → Int32) (gl : Nat → Nat → Int64) (hh : Nat → Nat → Option Nat) (v : Nat → Value) (tx : mm_W) (l1 : Int32) (l2 : Int32) (l3 : Int32) (l4 : Int32)  (P : Option Value → mm_W → Prop)
    (h : (¬ (((31 : Int32) + l1) < 0 ∨ 5667 ≤ ((31 : Int32) + l1).toNatClampNeg)) ∧ (((((g 76) ((31 : Int32) + l1).toNatClampNeg) ≤ l4) → P (some (.int l3)) (Wd f fl g gl hh v tx)) ∧
    ((¬ (((g 76) ((31 : Int32) + l1).toNatClampNeg) ≤ l4)) → ((¬ ((((0 : Int32) + l2) + l4) < 0 ∨ 5667 ≤ (((0 : Int32) + l2) + l4).toNatClampNeg)) ∧ WP X (d) 137 (0, [some (.ref 74), some (.int l1), some (.int l4), none, none], [], Wd f fl g gl hh v tx) (fun rv w2 => WP X (d + 1) 194 (59, [some (.ref 74), some (.int l1), some (.int l2), some (.int l3), some (.int l4)], rv.toList ++ [.int ((g 76) (((0 : Int32) + l2) + l4).toNatClampNeg), .int l3], w2) P))))) :
    WP X (d + 1) 194 (26, [some (.ref 74), some (.int l1), some (.int l2), some (.int l3), some (.int l4)], [], Wd f fl g gl hh v tx) P := by
  refine WP.run hP_194 6 (c' := (36, [some (.ref 74), some (.int l1), some (.int l2), some (.int l3), some (.int l4)], [.int ((31 : Int32) + l1), .ref 76, .int l4], Wd f fl g gl hh v tx)) rfl ?_
  refine WP.of (fun _ _ => Ex.iald hP_194 rfl (Wa_76 _ _ _ _ _ _ _) h.1) ?_
  have h1 := h.2
  refine WP.br hP_194 (q := ((g 76) ((31 : Int32) + l1).toNatClampNeg) ≤ l4) (t := 75) (f := 40) (L := [some (.ref 74), some (.int l1), some (.int l2), some (.int l3), some (.int l4)]) (st := []) (w := Wd f fl g gl hh v tx) rfl (fun c2 => ?_) (fun c2 => ?_)
  · have h3 := h1.1 c2
    refine WP.run hP_194 1 (c' := (76, [none, none, none, some (.int l3), none], [.int l3], Wd f fl g gl hh v tx)) rfl ?_
    exact WP.retI hP_194 rfl rfl h3
  · have h4 := h1.2 c2
    refine WP.run hP_194 8 (c' := (51, [some (.ref 74), some (.int l1), some (.int l2), some (.int l3), some (.int l4)], [.int (((0 : Int32) + l2) + l4), .ref 76, .int l3], Wd f fl g gl hh v tx)) rfl ?_
    refine WP.of (fun _ _ => Ex.iald hP_194 rfl (Wa_76 _ _ _ _ _ _ _) h4.1) ?_
    have h5 := h4.2
    refine WP.run hP_194 3 (c' := (56, [some (.ref 74), some (.int l1), some (.int l2), some (.int l3), some (.int l4)], [.int l4, .int l1, .ref 74, .int ((g 76) (((0 : Int32) + l2) + l4).toNatClampNeg), .int l3], Wd f fl g gl hh v tx)) rfl ?_
    refine WP.call hP_194 hP_137 (as := [.ref 74, .int l1, .int l4]) (pc' := 59) (L' := [some (.ref 74), some (.int l1), some (.int l2), some (.int l3), some (.int l4)]) (st' := [.int ((g 76) (((0 : Int32) + l2) + l4).toNatClampNeg), .int l3]) (w1 := Wd f fl g gl hh v tx) rfl ⟨Nat.le_of_ble_eq_true rfl, Nat.le_of_ble_eq_true rfl⟩ rfl ?_
    exact h5

set_option maxRecDepth 20000 in
theorem b_m_differsAt_59 (X : mm_X) (d : Nat) (f : Nat → Int32) (fl : Nat → Int64) (g : Nat → Nat → Int32) (gl : Nat → Nat → Int64) (hh : Nat → Nat → Option Nat) (v : Nat → Value) (tx : mm_W) (l1 : Int32) (l2 : Int32) (l3 : Int32) (l4 : Int32) (s0 : Int32) (s1 : Int32) (s2 : Int32)  (P : Option Value → mm_W → Prop)
    (h : ((¬ s1 = s0) → WP X (d) 194 (26, [some (.ref 74), some (.int l1), some (.int l2), some (.int (s2 + (1 : Int32))), some (.int (l4 + (1 : Int32)))], [], Wd f fl g gl hh v tx) P) ∧
    ((s1 = s0) → WP X (d) 194 (26, [some (.ref 74), some (.int l1), some (.int l2), some (.int (s2 + (0 : Int32))), some (.int (l4 + (1 : Int32)))], [], Wd f fl g gl hh v tx) P)) :
    WP X (d) 194 (59, [some (.ref 74), some (.int l1), some (.int l2), some (.int l3), some (.int l4)], [.int s0, .int s1, .int s2], Wd f fl g gl hh v tx) P := by
  refine WP.br hP_194 (q := ¬ s1 = s0) (t := 66) (f := 62) (L := [some (.ref 74), some (.int l1), some (.int l2), some (.int l3), some (.int l4)]) (st := [.int s2]) (w := Wd f fl g gl hh v tx) rfl (fun c1 => ?_) (fun c1 => ?_)
  · have h2 := h.1 c1
    refine WP.run hP_194 1 (c' := (67, [some (.ref 74), some (.int l1), some (.int l2), none, some (.int l4)], [.int 1, .int s2], Wd f fl g gl hh v tx)) rfl ?_
    refine WP.run hP_194 1 (c' := (68, [some (.ref 74), some (.int l1), some (.int l2), none, some (.int l4)], [.int (s2 + (1 : Int32))], Wd f fl g gl hh v tx)) rfl ?_
    refine WP.run hP_194 1 (c' := (69, [some (.ref 74), some (.int l1), some (.int l2), some (.int (s2 + (1 : Int32))), some (.int l4)], [], Wd f fl g gl hh v tx)) rfl ?_
    refine WP.run hP_194 2 (c' := (26, [some (.ref 74), some (.int l1), some (.int l2), some (.int (s2 + (1 : Int32))), some (.int (l4 + (1 : Int32)))], [], Wd f fl g gl hh v tx)) rfl ?_
    exact h2
  · have h3 := h.2 (Classical.not_not.mp c1)
    refine WP.run hP_194 3 (c' := (68, [some (.ref 74), some (.int l1), some (.int l2), none, some (.int l4)], [.int (s2 + (0 : Int32))], Wd f fl g gl hh v tx)) rfl ?_
    refine WP.run hP_194 1 (c' := (69, [some (.ref 74), some (.int l1), some (.int l2), some (.int (s2 + (0 : Int32))), some (.int l4)], [], Wd f fl g gl hh v tx)) rfl ?_
    refine WP.run hP_194 2 (c' := (26, [some (.ref 74), some (.int l1), some (.int l2), some (.int (s2 + (0 : Int32))), some (.int (l4 + (1 : Int32)))], [], Wd f fl g gl hh v tx)) rfl ?_
    exact h3

set_option maxRecDepth 20000 in
theorem b_m_readings_0 (X : mm_X) (d : Nat) (f : Nat → Int32) (fl : Nat → Int64) (g : Nat → Nat → Int32) (gl : Nat → Nat → Int64) (hh : Nat → Nat → Option Nat) (v : Nat → Value) (tx : mm_W)   (P : Option Value → mm_W → Prop)
    (h : (¬ (((g 76) 12) < 0 ∨ 13 ≤ ((g 76) 12).toNatClampNeg)) ∧ WP X (d + 1) 195 (17, [some (.ref 74), some (.int (((g 76) 12) - (1 : Int32))), none], [], Wd f fl (va_up g 87 (upd (g 87) (((g 76) 12).toNatClampNeg) 1)) gl hh v tx) P) :
    WP X (d + 1) 195 (0, [some (.ref 74), none, none], [], Wd f fl g gl hh v tx) P := by
  refine WP.run hP_195 3 (c' := (5, [some (.ref 74), none, none], [.ref 74, .ref 87], Wd f fl g gl hh v tx)) rfl ?_
  refine WP.call hP_195 hP_130 (as := [.ref 74]) (pc' := 8) (L' := [some (.ref 74), none, none]) (st' := [.ref 87]) (w1 := Wd f fl g gl hh v tx) rfl ⟨Nat.le_of_ble_eq_true rfl, Nat.le_of_ble_eq_true rfl⟩ rfl (b_m_size_0 X (d) f fl g gl hh v tx  _ ?_)
  refine WP.run hP_195 1 (c' := (9, [some (.ref 74), none, none], [.int 1, .int ((g 76) 12), .ref 87], Wd f fl g gl hh v tx)) rfl ?_
  refine WP.of (fun _ _ => Ex.iast hP_195 (w2 := Wd f fl (va_up g 87 (upd (g 87) (((g 76) 12).toNatClampNeg) 1)) gl hh v tx) rfl (Wa_87 _ _ _ _ _ _ _) h.1 (Ws_87 _ _ _ _ _ _ _ _)) ?_
  have h1 := h.2
  refine WP.run hP_195 1 (c' := (11, [some (.ref 74), none, none], [.ref 74], Wd f fl (va_up g 87 (upd (g 87) (((g 76) 12).toNatClampNeg) 1)) gl hh v tx)) rfl ?_
  refine WP.call hP_195 hP_130 (as := [.ref 74]) (pc' := 14) (L' := [some (.ref 74), none, none]) (st' := []) (w1 := Wd f fl (va_up g 87 (upd (g 87) (((g 76) 12).toNatClampNeg) 1)) gl hh v tx) rfl ⟨Nat.le_of_ble_eq_true rfl, Nat.le_of_ble_eq_true rfl⟩ rfl (b_m_size_0 X (d) f fl (va_up g 87 (upd (g 87) (((g 76) 12).toNatClampNeg) 1)) gl hh v tx  _ ?_)
  refine WP.run hP_195 3 (c' := (17, [some (.ref 74), some (.int (((g 76) 12) - (1 : Int32))), none], [], Wd f fl (va_up g 87 (upd (g 87) (((g 76) 12).toNatClampNeg) 1)) gl hh v tx)) rfl ?_
  exact h1

set_option maxRecDepth 20000 in
theorem b_m_readings_17 (X : mm_X) (d : Nat) (f : Nat → Int32) (fl : Nat → Int64) (g : Nat → Nat → Int32) (gl : Nat → Nat → Int64) (hh : Nat → Nat → Option Nat) (v : Nat → Value) (tx : mm_W) (l1 : Int32)  (P : Option Value → mm_W → Prop)
    (h : ((l1 < 0) → P (some (.int ((g 87) 0))) (Wd f fl g gl hh v tx)) ∧
    ((¬ (l1 < 0)) → ((¬ (l1 < 0 ∨ 13 ≤ l1.toNatClampNeg)) ∧ WP X (d) 195 (30, [some (.ref 74), some (.int l1), some (.int 0)], [], Wd f fl (va_up g 87 (upd (g 87) (l1.toNatClampNeg) 0)) gl hh v tx) P))) :
    WP X (d) 195 (17, [some (.ref 74), some (.int l1), none], [], Wd f fl g gl hh v tx) P := by
  refine WP.run hP_195 1 (c' := (18, [some (.ref 74), some (.int l1), none], [.int l1], Wd f fl g gl hh v tx)) rfl ?_
  refine WP.br hP_195 (q := l1 < 0) (t := 88) (f := 21) (L := [some (.ref 74), some (.int l1), none]) (st := []) (w := Wd f fl g gl hh v tx) rfl (fun c1 => ?_) (fun c1 => ?_)
  · have h2 := h.1 c1
    refine WP.run hP_195 3 (c' := (93, [some (.ref 74), none, none], [.int 0, .ref 87], Wd f fl g gl hh v tx)) rfl ?_
    refine WP.of (fun _ _ => Ex.iald hP_195 rfl (Wa_87 _ _ _ _ _ _ _) (by decide)) ?_
    show WP X _ 195 (94, [some (.ref 74), none, none], [.int ((g 87) 0)], Wd f fl g gl hh v tx) P
    exact WP.retI hP_195 rfl rfl h2
  · have h3 := h.2 c1
    refine WP.run hP_195 4 (c' := (27, [some (.ref 74), some (.int l1), none], [.int 0, .int l1, .ref 87], Wd f fl g gl hh v tx)) rfl ?_
    refine WP.of (fun _ _ => Ex.iast hP_195 (w2 := Wd f fl (va_up g 87 (upd (g 87) (l1.toNatClampNeg) 0)) gl hh v tx) rfl (Wa_87 _ _ _ _ _ _ _) h3.1 (Ws_87 _ _ _ _ _ _ _ _)) ?_
    have h4 := h3.2
    refine WP.run hP_195 2 (c' := (30, [some (.ref 74), some (.int l1), some (.int 0)], [], Wd f fl (va_up g 87 (upd (g 87) (l1.toNatClampNeg) 0)) gl hh v tx)) rfl ?_
    exact h4

set_option maxRecDepth 20000 in
theorem b_m_readings_30 (X : mm_X) (d : Nat) (f : Nat → Int32) (fl : Nat → Int64) (g : Nat → Nat → Int32) (gl : Nat → Nat → Int64) (hh : Nat → Nat → Option Nat) (v : Nat → Value) (tx : mm_W) (l1 : Int32) (l2 : Int32)  (P : Option Value → mm_W → Prop)
    (h : ((((g 76) 55) ≤ l2) → WP X (d + 1) 195 (17, [some (.ref 74), some (.int (l1 + (-1 : Int32))), none], [], Wd f fl g gl hh v tx) P) ∧
    ((¬ (((g 76) 55) ≤ l2)) → ((¬ (l1 < 0 ∨ 13 ≤ l1.toNatClampNeg)) ∧ WP X (d) 194 (0, [some (.ref 74), some (.int l2), some (.int l1), none, none], [], Wd f fl g gl hh v tx) (fun rv w2 => WP X (d + 1) 195 (51, [some (.ref 74), some (.int l1), some (.int l2)], rv.toList ++ [.int ((g 87) l1.toNatClampNeg), .int l1, .ref 87], w2) P)))) :
    WP X (d + 1) 195 (30, [some (.ref 74), some (.int l1), some (.int l2)], [], Wd f fl g gl hh v tx) P := by
  refine WP.run hP_195 2 (c' := (32, [some (.ref 74), some (.int l1), some (.int l2)], [.ref 74, .int l2], Wd f fl g gl hh v tx)) rfl ?_
  refine WP.call hP_195 hP_129 (as := [.ref 74]) (pc' := 35) (L' := [some (.ref 74), some (.int l1), some (.int l2)]) (st' := [.int l2]) (w1 := Wd f fl g gl hh v tx) rfl ⟨Nat.le_of_ble_eq_true rfl, Nat.le_of_ble_eq_true rfl⟩ rfl (b_m_signMany_0 X (d) f fl g gl hh v tx  _ ?_)
  refine WP.br hP_195 (q := ((g 76) 55) ≤ l2) (t := 82) (f := 38) (L := [some (.ref 74), some (.int l1), some (.int l2)]) (st := []) (w := Wd f fl g gl hh v tx) rfl (fun c1 => ?_) (fun c1 => ?_)
  · have h2 := h.1 c1
    refine WP.run hP_195 2 (c' := (17, [some (.ref 74), some (.int (l1 + (-1 : Int32))), none], [], Wd f fl g gl hh v tx)) rfl ?_
    exact h2
  · have h3 := h.2 c1
    refine WP.run hP_195 4 (c' := (44, [some (.ref 74), some (.int l1), some (.int l2)], [.int l1, .ref 87, .int l1, .ref 87], Wd f fl g gl hh v tx)) rfl ?_
    refine WP.of (fun _ _ => Ex.iald hP_195 rfl (Wa_87 _ _ _ _ _ _ _) h3.1) ?_
    have h4 := h3.2
    refine WP.run hP_195 3 (c' := (48, [some (.ref 74), some (.int l1), some (.int l2)], [.int l1, .int l2, .ref 74, .int ((g 87) l1.toNatClampNeg), .int l1, .ref 87], Wd f fl g gl hh v tx)) rfl ?_
    refine WP.call hP_195 hP_194 (as := [.ref 74, .int l2, .int l1]) (pc' := 51) (L' := [some (.ref 74), some (.int l1), some (.int l2)]) (st' := [.int ((g 87) l1.toNatClampNeg), .int l1, .ref 87]) (w1 := Wd f fl g gl hh v tx) rfl ⟨Nat.le_of_ble_eq_true rfl, Nat.le_of_ble_eq_true rfl⟩ rfl ?_
    exact h4

set_option maxRecDepth 20000 in
theorem b_m_readings_51 (X : mm_X) (d : Nat) (f : Nat → Int32) (fl : Nat → Int64) (g : Nat → Nat → Int32) (gl : Nat → Nat → Int64) (hh : Nat → Nat → Option Nat) (v : Nat → Value) (tx : mm_W) (l1 : Int32) (l2 : Int32) (s0 : Int32) (s1 : Int32) (s2 : Int32)  (P : Option Value → mm_W → Prop)
    (h : ((¬ s0 = 0) → ((¬ (s2 < 0 ∨ 13 ≤ s2.toNatClampNeg)) ∧ WP X (d) 195 (30, [some (.ref 74), some (.int l1), some (.int (l2 + (1 : Int32)))], [], Wd f fl (va_up g 87 (upd (g 87) (s2.toNatClampNeg) (s1 + (0 : Int32)))) gl hh v tx) P)) ∧
    ((s0 = 0) → ((¬ (((31 : Int32) + l2) < 0 ∨ 5667 ≤ ((31 : Int32) + l2).toNatClampNeg)) ∧ ((¬ ((l1 + ((g 76) ((31 : Int32) + l2).toNatClampNeg)) < 0 ∨ 13 ≤ (l1 + ((g 76) ((31 : Int32) + l2).toNatClampNeg)).toNatClampNeg)) ∧ ((¬ (s2 < 0 ∨ 13 ≤ s2.toNatClampNeg)) ∧ WP X (d) 195 (30, [some (.ref 74), some (.int l1), some (.int (l2 + (1 : Int32)))], [], Wd f fl (va_up g 87 (upd (g 87) (s2.toNatClampNeg) (s1 + ((g 87) (l1 + ((g 76) ((31 : Int32) + l2).toNatClampNeg)).toNatClampNeg)))) gl hh v tx) P))))) :
    WP X (d) 195 (51, [some (.ref 74), some (.int l1), some (.int l2)], [.int s0, .int s1, .int s2, .ref 87], Wd f fl g gl hh v tx) P := by
  refine WP.br hP_195 (q := ¬ s0 = 0) (t := 73) (f := 54) (L := [some (.ref 74), some (.int l1), some (.int l2)]) (st := [.int s1, .int s2, .ref 87]) (w := Wd f fl g gl hh v tx) rfl (fun c1 => ?_) (fun c1 => ?_)
  · have h2 := h.1 c1
    refine WP.run hP_195 2 (c' := (75, [some (.ref 74), some (.int l1), some (.int l2)], [.int (s1 + (0 : Int32)), .int s2, .ref 87], Wd f fl g gl hh v tx)) rfl ?_
    refine WP.of (fun _ _ => Ex.iast hP_195 (w2 := Wd f fl (va_up g 87 (upd (g 87) (s2.toNatClampNeg) (s1 + (0 : Int32)))) gl hh v tx) rfl (Wa_87 _ _ _ _ _ _ _) h2.1 (Ws_87 _ _ _ _ _ _ _ _)) ?_
    have h3 := h2.2
    refine WP.run hP_195 2 (c' := (30, [some (.ref 74), some (.int l1), some (.int (l2 + (1 : Int32)))], [], Wd f fl (va_up g 87 (upd (g 87) (s2.toNatClampNeg) (s1 + (0 : Int32)))) gl hh v tx)) rfl ?_
    exact h3
  · have h4 := h.2 (Classical.not_not.mp c1)
    refine WP.run hP_195 8 (c' := (67, [some (.ref 74), some (.int l1), some (.int l2)], [.int ((31 : Int32) + l2), .ref 76, .int l1, .ref 87, .int s1, .int s2, .ref 87], Wd f fl g gl hh v tx)) rfl ?_
    refine WP.of (fun _ _ => Ex.iald hP_195 rfl (Wa_76 _ _ _ _ _ _ _) h4.1) ?_
    have h5 := h4.2
    refine WP.run hP_195 1 (c' := (69, [some (.ref 74), some (.int l1), some (.int l2)], [.int (l1 + ((g 76) ((31 : Int32) + l2).toNatClampNeg)), .ref 87, .int s1, .int s2, .ref 87], Wd f fl g gl hh v tx)) rfl ?_
    refine WP.of (fun _ _ => Ex.iald hP_195 rfl (Wa_87 _ _ _ _ _ _ _) h5.1) ?_
    have h6 := h5.2
    refine WP.run hP_195 2 (c' := (75, [some (.ref 74), some (.int l1), some (.int l2)], [.int (s1 + ((g 87) (l1 + ((g 76) ((31 : Int32) + l2).toNatClampNeg)).toNatClampNeg)), .int s2, .ref 87], Wd f fl g gl hh v tx)) rfl ?_
    refine WP.of (fun _ _ => Ex.iast hP_195 (w2 := Wd f fl (va_up g 87 (upd (g 87) (s2.toNatClampNeg) (s1 + ((g 87) (l1 + ((g 76) ((31 : Int32) + l2).toNatClampNeg)).toNatClampNeg)))) gl hh v tx) rfl (Wa_87 _ _ _ _ _ _ _) h6.1 (Ws_87 _ _ _ _ _ _ _ _)) ?_
    have h7 := h6.2
    refine WP.run hP_195 2 (c' := (30, [some (.ref 74), some (.int l1), some (.int (l2 + (1 : Int32)))], [], Wd f fl (va_up g 87 (upd (g 87) (s2.toNatClampNeg) (s1 + ((g 87) (l1 + ((g 76) ((31 : Int32) + l2).toNatClampNeg)).toNatClampNeg)))) gl hh v tx)) rfl ?_
    exact h7

set_option maxRecDepth 20000 in
theorem b_m_fits_0 (X : mm_X) (d : Nat) (f : Nat → Int32) (fl : Nat → Int64) (g : Nat → Nat → Int32) (gl : Nat → Nat → Int64) (hh : Nat → Nat → Option Nat) (v : Nat → Value) (tx : mm_W)   (P : Option Value → mm_W → Prop)
    (h : WP X (d) 195 (0, [some (.ref 74), none, none], [], Wd f fl g gl hh v tx) (fun rv w2 => WP X (d + 1) 230 (12, [some (.ref 74), some (.int ((g 76) 57)), none, none, none, none], rv.toList ++ [], w2) P)) :
    WP X (d + 1) 230 (0, [some (.ref 74), none, none, none, none, none], [], Wd f fl g gl hh v tx) P := by
  refine WP.run hP_230 3 (c' := (6, [some (.ref 74), none, none, none, none, none], [.int 57, .ref 76], Wd f fl g gl hh v tx)) rfl ?_
  refine WP.of (fun _ _ => Ex.iald hP_230 rfl (Wa_76 _ _ _ _ _ _ _) (by decide)) ?_
  show WP X _ 230 (7, [some (.ref 74), none, none, none, none, none], [.int ((g 76) 57)], Wd f fl g gl hh v tx) P
  refine WP.run hP_230 2 (c' := (9, [some (.ref 74), some (.int ((g 76) 57)), none, none, none, none], [.ref 74], Wd f fl g gl hh v tx)) rfl ?_
  refine WP.call hP_230 hP_195 (as := [.ref 74]) (pc' := 12) (L' := [some (.ref 74), some (.int ((g 76) 57)), none, none, none, none]) (st' := []) (w1 := Wd f fl g gl hh v tx) rfl ⟨Nat.le_of_ble_eq_true rfl, Nat.le_of_ble_eq_true rfl⟩ rfl ?_
  exact h

set_option maxRecDepth 20000 in
theorem b_m_fits_12 (X : mm_X) (d : Nat) (f : Nat → Int32) (fl : Nat → Int64) (g : Nat → Nat → Int32) (gl : Nat → Nat → Int64) (hh : Nat → Nat → Option Nat) (v : Nat → Value) (tx : mm_W) (l1 : Int32) (s0 : Int32)  (P : Option Value → mm_W → Prop)
    (h : WP X (d) 230 (15, [some (.ref 74), some (.int l1), some (.int 0), none, none, none], [], Wd f fl g gl hh v tx) P) :
    WP X (d) 230 (12, [some (.ref 74), some (.int l1), none, none, none, none], [.int s0], Wd f fl g gl hh v tx) P := by
  refine WP.run hP_230 3 (c' := (15, [some (.ref 74), some (.int l1), some (.int 0), none, none, none], [], Wd f fl g gl hh v tx)) rfl ?_
  exact h

set_option maxRecDepth 20000 in
theorem b_m_fits_15 (X : mm_X) (d : Nat) (f : Nat → Int32) (fl : Nat → Int64) (g : Nat → Nat → Int32) (gl : Nat → Nat → Int64) (hh : Nat → Nat → Option Nat) (v : Nat → Value) (tx : mm_W) (l1 : Int32) (l2 : Int32)  (P : Option Value → mm_W → Prop)
    (h : ((((g 76) 12) < l2) → WP X (d + 1) 230 (50, [some (.ref 74), none, some (.int (l1 - (1 : Int32))), none, none, none], [], Wd f fl g gl hh v tx) P) ∧
    ((¬ (((g 76) 12) < l2)) → ((¬ (l2 < 0 ∨ 13 ≤ l2.toNatClampNeg)) ∧ ((¬ ((((7 : Int32) * l2) + l1) < 0 ∨ 91 ≤ (((7 : Int32) * l2) + l1).toNatClampNeg)) ∧ WP X (d + 1) 230 (15, [some (.ref 74), some (.int l1), some (.int (l2 + (1 : Int32))), none, none, none], [], Wd f fl (va_up g 95 (upd (g 95) ((((7 : Int32) * l2) + l1).toNatClampNeg) ((g 87) l2.toNatClampNeg))) gl hh v tx) P)))) :
    WP X (d + 1) 230 (15, [some (.ref 74), some (.int l1), some (.int l2), none, none, none], [], Wd f fl g gl hh v tx) P := by
  refine WP.run hP_230 2 (c' := (17, [some (.ref 74), some (.int l1), some (.int l2), none, none, none], [.ref 74, .int l2], Wd f fl g gl hh v tx)) rfl ?_
  refine WP.call hP_230 hP_130 (as := [.ref 74]) (pc' := 20) (L' := [some (.ref 74), some (.int l1), some (.int l2), none, none, none]) (st' := [.int l2]) (w1 := Wd f fl g gl hh v tx) rfl ⟨Nat.le_of_ble_eq_true rfl, Nat.le_of_ble_eq_true rfl⟩ rfl (b_m_size_0 X (d) f fl g gl hh v tx  _ ?_)
  refine WP.br hP_230 (q := ((g 76) 12) < l2) (t := 46) (f := 23) (L := [some (.ref 74), some (.int l1), some (.int l2), none, none, none]) (st := []) (w := Wd f fl g gl hh v tx) rfl (fun c1 => ?_) (fun c1 => ?_)
  · have h2 := h.1 c1
    refine WP.run hP_230 3 (c' := (49, [some (.ref 74), some (.int l1), none, none, none, none], [.int (l1 - (1 : Int32))], Wd f fl g gl hh v tx)) rfl ?_
    refine WP.run hP_230 1 (c' := (50, [some (.ref 74), some (.int l1), some (.int (l1 - (1 : Int32))), none, none, none], [], Wd f fl g gl hh v tx)) rfl ?_
    refine WP.clr hP_230 (pc := 50) rfl ?_
    exact h2
  · have h3 := h.2 c1
    refine WP.run hP_230 10 (c' := (38, [some (.ref 74), some (.int l1), some (.int l2), none, none, none], [.int l2, .ref 87, .int (((7 : Int32) * l2) + l1), .ref 95], Wd f fl g gl hh v tx)) rfl ?_
    refine WP.of (fun _ _ => Ex.iald hP_230 rfl (Wa_87 _ _ _ _ _ _ _) h3.1) ?_
    have h4 := h3.2
    refine WP.of (fun _ _ => Ex.iast hP_230 (w2 := Wd f fl (va_up g 95 (upd (g 95) ((((7 : Int32) * l2) + l1).toNatClampNeg) ((g 87) l2.toNatClampNeg))) gl hh v tx) rfl (Wa_95 _ _ _ _ _ _ _) h4.1 (Ws_95 _ _ _ _ _ _ _ _)) ?_
    have h5 := h4.2
    refine WP.run hP_230 2 (c' := (15, [some (.ref 74), some (.int l1), some (.int (l2 + (1 : Int32))), none, none, none], [], Wd f fl (va_up g 95 (upd (g 95) ((((7 : Int32) * l2) + l1).toNatClampNeg) ((g 87) l2.toNatClampNeg))) gl hh v tx)) rfl ?_
    exact h5

set_option maxRecDepth 20000 in
theorem b_m_fits_50 (X : mm_X) (d : Nat) (f : Nat → Int32) (fl : Nat → Int64) (g : Nat → Nat → Int32) (gl : Nat → Nat → Int64) (hh : Nat → Nat → Option Nat) (v : Nat → Value) (tx : mm_W) (l2 : Int32)  (P : Option Value → mm_W → Prop)
    (h : ((l2 < 0) → P (some (.int ((g 95) 0))) (Wd f fl g gl hh v tx)) ∧
    ((¬ (l2 < 0)) → WP X (d) 230 (56, [some (.ref 74), none, some (.int l2), some (.int 0), none, none], [], Wd f fl g gl hh v tx) P)) :
    WP X (d) 230 (50, [some (.ref 74), none, some (.int l2), none, none, none], [], Wd f fl g gl hh v tx) P := by
  refine WP.run hP_230 1 (c' := (51, [some (.ref 74), none, some (.int l2), none, none, none], [.int l2], Wd f fl g gl hh v tx)) rfl ?_
  refine WP.br hP_230 (q := l2 < 0) (t := 175) (f := 54) (L := [some (.ref 74), none, some (.int l2), none, none, none]) (st := []) (w := Wd f fl g gl hh v tx) rfl (fun c1 => ?_) (fun c1 => ?_)
  · have h2 := h.1 c1
    refine WP.run hP_230 3 (c' := (180, [some (.ref 74), none, none, none, none, none], [.int 0, .ref 95], Wd f fl g gl hh v tx)) rfl ?_
    refine WP.of (fun _ _ => Ex.iald hP_230 rfl (Wa_95 _ _ _ _ _ _ _) (by decide)) ?_
    show WP X _ 230 (181, [some (.ref 74), none, none, none, none, none], [.int ((g 95) 0)], Wd f fl g gl hh v tx) P
    exact WP.retI hP_230 rfl rfl h2
  · have h3 := h.2 c1
    refine WP.run hP_230 2 (c' := (56, [some (.ref 74), none, some (.int l2), some (.int 0), none, none], [], Wd f fl g gl hh v tx)) rfl ?_
    exact h3

set_option maxRecDepth 20000 in
theorem b_m_fits_56 (X : mm_X) (d : Nat) (f : Nat → Int32) (fl : Nat → Int64) (g : Nat → Nat → Int32) (gl : Nat → Nat → Int64) (hh : Nat → Nat → Option Nat) (v : Nat → Value) (tx : mm_W) (l2 : Int32) (l3 : Int32)  (P : Option Value → mm_W → Prop)
    (h : ((((g 76) 12) < l3) → WP X (d + 1) 230 (50, [some (.ref 74), none, some (.int (l2 + (-1 : Int32))), none, none, none], [], Wd f fl g gl hh v tx) P) ∧
    ((¬ (((g 76) 12) < l3)) → WP X (d + 1) 230 (70, [some (.ref 74), none, some (.int l2), some (.int l3), some (.int 0), some (.int 0)], [], Wd f fl g gl hh v tx) P)) :
    WP X (d + 1) 230 (56, [some (.ref 74), none, some (.int l2), some (.int l3), none, none], [], Wd f fl g gl hh v tx) P := by
  refine WP.run hP_230 2 (c' := (58, [some (.ref 74), none, some (.int l2), some (.int l3), none, none], [.ref 74, .int l3], Wd f fl g gl hh v tx)) rfl ?_
  refine WP.call hP_230 hP_130 (as := [.ref 74]) (pc' := 61) (L' := [some (.ref 74), none, some (.int l2), some (.int l3), none, none]) (st' := [.int l3]) (w1 := Wd f fl g gl hh v tx) rfl ⟨Nat.le_of_ble_eq_true rfl, Nat.le_of_ble_eq_true rfl⟩ rfl (b_m_size_0 X (d) f fl g gl hh v tx  _ ?_)
  refine WP.br hP_230 (q := ((g 76) 12) < l3) (t := 169) (f := 64) (L := [some (.ref 74), none, some (.int l2), some (.int l3), none, none]) (st := []) (w := Wd f fl g gl hh v tx) rfl (fun c1 => ?_) (fun c1 => ?_)
  · have h2 := h.1 c1
    refine WP.run hP_230 2 (c' := (50, [some (.ref 74), none, some (.int (l2 + (-1 : Int32))), none, none, none], [], Wd f fl g gl hh v tx)) rfl ?_
    exact h2
  · have h3 := h.2 c1
    refine WP.run hP_230 3 (c' := (68, [some (.ref 74), none, some (.int l2), some (.int l3), some (.int 0), none], [.int 0], Wd f fl g gl hh v tx)) rfl ?_
    refine WP.run hP_230 1 (c' := (70, [some (.ref 74), none, some (.int l2), some (.int l3), some (.int 0), some (.int 0)], [], Wd f fl g gl hh v tx)) rfl ?_
    exact h3

set_option maxRecDepth 20000 in
theorem b_m_fits_70 (X : mm_X) (d : Nat) (f : Nat → Int32) (fl : Nat → Int64) (g : Nat → Nat → Int32) (gl : Nat → Nat → Int64) (hh : Nat → Nat → Option Nat) (v : Nat → Value) (tx : mm_W) (l2 : Int32) (l3 : Int32) (l4 : Int32) (l5 : Int32)  (P : Option Value → mm_W → Prop)
    (h : ((((g 76) 55) ≤ l5) → ((¬ ((((7 : Int32) * l3) + l2) < 0 ∨ 91 ≤ (((7 : Int32) * l3) + l2).toNatClampNeg)) ∧ WP X (d + 1) 230 (56, [some (.ref 74), none, some (.int l2), some (.int (l3 + (1 : Int32))), none, none], [], Wd f fl (va_up g 95 (upd (g 95) ((((7 : Int32) * l3) + l2).toNatClampNeg) l4)) gl hh v tx) P)) ∧
    ((¬ (((g 76) 55) ≤ l5)) → ((¬ (((39 : Int32) + l5) < 0 ∨ 5667 ≤ ((39 : Int32) + l5).toNatClampNeg)) ∧ ((¬ (((47 : Int32) + l2) < 0 ∨ 5667 ≤ ((47 : Int32) + l2).toNatClampNeg)) ∧ (((¬ ((g 76) ((39 : Int32) + l5).toNatClampNeg) = ((g 76) ((47 : Int32) + l2).toNatClampNeg)) → WP X (d + 1) 230 (70, [some (.ref 74), none, some (.int l2), some (.int l3), some (.int (l4 + (0 : Int32))), some (.int (l5 + (1 : Int32)))], [], Wd f fl g gl hh v tx) P) ∧
      ((((g 76) ((39 : Int32) + l5).toNatClampNeg) = ((g 76) ((47 : Int32) + l2).toNatClampNeg)) → WP X (d) 194 (0, [some (.ref 74), some (.int l5), some (.int l3), none, none], [], Wd f fl g gl hh v tx) (fun rv w2 => WP X (d + 1) 230 (110, [some (.ref 74), none, some (.int l2), some (.int l3), some (.int l4), some (.int l5)], rv.toList ++ [.int l4], w2) P))))))) :
    WP X (d + 1) 230 (70, [some (.ref 74), none, some (.int l2), some (.int l3), some (.int l4), some (.int l5)], [], Wd f fl g gl hh v tx) P := by
  refine WP.run hP_230 2 (c' := (73, [some (.ref 74), none, some (.int l2), some (.int l3), some (.int l4), some (.int l5)], [.ref 74, .int l5], Wd f fl g gl hh v tx)) rfl ?_
  refine WP.call hP_230 hP_129 (as := [.ref 74]) (pc' := 76) (L' := [some (.ref 74), none, some (.int l2), some (.int l3), some (.int l4), some (.int l5)]) (st' := [.int l5]) (w1 := Wd f fl g gl hh v tx) rfl ⟨Nat.le_of_ble_eq_true rfl, Nat.le_of_ble_eq_true rfl⟩ rfl (b_m_signMany_0 X (d) f fl g gl hh v tx  _ ?_)
  refine WP.br hP_230 (q := ((g 76) 55) ≤ l5) (t := 150) (f := 79) (L := [some (.ref 74), none, some (.int l2), some (.int l3), some (.int l4), some (.int l5)]) (st := []) (w := Wd f fl g gl hh v tx) rfl (fun c1 => ?_) (fun c1 => ?_)
  · have h2 := h.1 c1
    refine WP.run hP_230 8 (c' := (162, [some (.ref 74), none, some (.int l2), some (.int l3), some (.int l4), none], [.int l4, .int (((7 : Int32) * l3) + l2), .ref 95], Wd f fl g gl hh v tx)) rfl ?_
    refine WP.of (fun _ _ => Ex.iast hP_230 (w2 := Wd f fl (va_up g 95 (upd (g 95) ((((7 : Int32) * l3) + l2).toNatClampNeg) l4)) gl hh v tx) rfl (Wa_95 _ _ _ _ _ _ _) h2.1 (Ws_95 _ _ _ _ _ _ _ _)) ?_
    have h3 := h2.2
    refine WP.run hP_230 2 (c' := (56, [some (.ref 74), none, some (.int l2), some (.int (l3 + (1 : Int32))), some (.int l4), none], [], Wd f fl (va_up g 95 (upd (g 95) ((((7 : Int32) * l3) + l2).toNatClampNeg) l4)) gl hh v tx)) rfl ?_
    refine WP.clr hP_230 (pc := 56) rfl ?_
    exact h3
  · have h4 := h.2 c1
    refine WP.run hP_230 6 (c' := (90, [some (.ref 74), none, some (.int l2), some (.int l3), some (.int l4), some (.int l5)], [.int ((39 : Int32) + l5), .ref 76, .int l4], Wd f fl g gl hh v tx)) rfl ?_
    refine WP.of (fun _ _ => Ex.iald hP_230 rfl (Wa_76 _ _ _ _ _ _ _) h4.1) ?_
    have h5 := h4.2
    refine WP.run hP_230 5 (c' := (99, [some (.ref 74), none, some (.int l2), some (.int l3), some (.int l4), some (.int l5)], [.int ((47 : Int32) + l2), .ref 76, .int ((g 76) ((39 : Int32) + l5).toNatClampNeg), .int l4], Wd f fl g gl hh v tx)) rfl ?_
    refine WP.of (fun _ _ => Ex.iald hP_230 rfl (Wa_76 _ _ _ _ _ _ _) h5.1) ?_
    have h6 := h5.2
    refine WP.br hP_230 (q := ¬ ((g 76) ((39 : Int32) + l5).toNatClampNeg) = ((g 76) ((47 : Int32) + l2).toNatClampNeg)) (t := 140) (f := 103) (L := [some (.ref 74), none, some (.int l2), some (.int l3), some (.int l4), some (.int l5)]) (st := [.int l4]) (w := Wd f fl g gl hh v tx) rfl (fun c7 => ?_) (fun c7 => ?_)
    · have h8 := h6.1 c7
      refine WP.run hP_230 1 (c' := (141, [some (.ref 74), none, some (.int l2), some (.int l3), none, some (.int l5)], [.int 0, .int l4], Wd f fl g gl hh v tx)) rfl ?_
      refine WP.run hP_230 1 (c' := (142, [some (.ref 74), none, some (.int l2), some (.int l3), none, some (.int l5)], [.int (l4 + (0 : Int32))], Wd f fl g gl hh v tx)) rfl ?_
      refine WP.run hP_230 1 (c' := (144, [some (.ref 74), none, some (.int l2), some (.int l3), some (.int (l4 + (0 : Int32))), some (.int l5)], [], Wd f fl g gl hh v tx)) rfl ?_
      refine WP.run hP_230 2 (c' := (70, [some (.ref 74), none, some (.int l2), some (.int l3), some (.int (l4 + (0 : Int32))), some (.int (l5 + (1 : Int32)))], [], Wd f fl g gl hh v tx)) rfl ?_
      exact h8
    · have h9 := h6.2 (Classical.not_not.mp c7)
      refine WP.run hP_230 3 (c' := (107, [some (.ref 74), none, some (.int l2), some (.int l3), some (.int l4), some (.int l5)], [.int l3, .int l5, .ref 74, .int l4], Wd f fl g gl hh v tx)) rfl ?_
      refine WP.call hP_230 hP_194 (as := [.ref 74, .int l5, .int l3]) (pc' := 110) (L' := [some (.ref 74), none, some (.int l2), some (.int l3), some (.int l4), some (.int l5)]) (st' := [.int l4]) (w1 := Wd f fl g gl hh v tx) rfl ⟨Nat.le_of_ble_eq_true rfl, Nat.le_of_ble_eq_true rfl⟩ rfl ?_
      exact h9

set_option maxRecDepth 20000 in
theorem b_m_fits_110 (X : mm_X) (d : Nat) (f : Nat → Int32) (fl : Nat → Int64) (g : Nat → Nat → Int32) (gl : Nat → Nat → Int64) (hh : Nat → Nat → Option Nat) (v : Nat → Value) (tx : mm_W) (l2 : Int32) (l3 : Int32) (l4 : Int32) (l5 : Int32) (s0 : Int32) (s1 : Int32)  (P : Option Value → mm_W → Prop)
    (h : ((¬ s0 = 0) → WP X (d) 230 (70, [some (.ref 74), none, some (.int l2), some (.int l3), some (.int (s1 + (0 : Int32))), some (.int (l5 + (1 : Int32)))], [], Wd f fl g gl hh v tx) P) ∧
    ((s0 = 0) → ((¬ (((31 : Int32) + l5) < 0 ∨ 5667 ≤ ((31 : Int32) + l5).toNatClampNeg)) ∧ ((¬ (((((7 : Int32) * (l3 + ((g 76) ((31 : Int32) + l5).toNatClampNeg))) + l2) + (1 : Int32)) < 0 ∨ 91 ≤ ((((7 : Int32) * (l3 + ((g 76) ((31 : Int32) + l5).toNatClampNeg))) + l2) + (1 : Int32)).toNatClampNeg)) ∧ WP X (d) 230 (70, [some (.ref 74), none, some (.int l2), some (.int l3), some (.int (s1 + ((g 95) ((((7 : Int32) * (l3 + ((g 76) ((31 : Int32) + l5).toNatClampNeg))) + l2) + (1 : Int32)).toNatClampNeg))), some (.int (l5 + (1 : Int32)))], [], Wd f fl g gl hh v tx) P)))) :
    WP X (d) 230 (110, [some (.ref 74), none, some (.int l2), some (.int l3), some (.int l4), some (.int l5)], [.int s0, .int s1], Wd f fl g gl hh v tx) P := by
  refine WP.br hP_230 (q := ¬ s0 = 0) (t := 140) (f := 113) (L := [some (.ref 74), none, some (.int l2), some (.int l3), some (.int l4), some (.int l5)]) (st := [.int s1]) (w := Wd f fl g gl hh v tx) rfl (fun c1 => ?_) (fun c1 => ?_)
  · have h2 := h.1 c1
    refine WP.run hP_230 1 (c' := (141, [some (.ref 74), none, some (.int l2), some (.int l3), none, some (.int l5)], [.int 0, .int s1], Wd f fl g gl hh v tx)) rfl ?_
    refine WP.run hP_230 1 (c' := (142, [some (.ref 74), none, some (.int l2), some (.int l3), none, some (.int l5)], [.int (s1 + (0 : Int32))], Wd f fl g gl hh v tx)) rfl ?_
    refine WP.run hP_230 1 (c' := (144, [some (.ref 74), none, some (.int l2), some (.int l3), some (.int (s1 + (0 : Int32))), some (.int l5)], [], Wd f fl g gl hh v tx)) rfl ?_
    refine WP.run hP_230 2 (c' := (70, [some (.ref 74), none, some (.int l2), some (.int l3), some (.int (s1 + (0 : Int32))), some (.int (l5 + (1 : Int32)))], [], Wd f fl g gl hh v tx)) rfl ?_
    exact h2
  · have h3 := h.2 (Classical.not_not.mp c1)
    refine WP.run hP_230 9 (c' := (129, [some (.ref 74), none, some (.int l2), some (.int l3), some (.int l4), some (.int l5)], [.int ((31 : Int32) + l5), .ref 76, .int l3, .int 7, .ref 95, .int s1], Wd f fl g gl hh v tx)) rfl ?_
    refine WP.of (fun _ _ => Ex.iald hP_230 rfl (Wa_76 _ _ _ _ _ _ _) h3.1) ?_
    have h4 := h3.2
    refine WP.run hP_230 6 (c' := (136, [some (.ref 74), none, some (.int l2), some (.int l3), some (.int l4), some (.int l5)], [.int ((((7 : Int32) * (l3 + ((g 76) ((31 : Int32) + l5).toNatClampNeg))) + l2) + (1 : Int32)), .ref 95, .int s1], Wd f fl g gl hh v tx)) rfl ?_
    refine WP.of (fun _ _ => Ex.iald hP_230 rfl (Wa_95 _ _ _ _ _ _ _) h4.1) ?_
    have h5 := h4.2
    refine WP.run hP_230 2 (c' := (142, [some (.ref 74), none, some (.int l2), some (.int l3), none, some (.int l5)], [.int (s1 + ((g 95) ((((7 : Int32) * (l3 + ((g 76) ((31 : Int32) + l5).toNatClampNeg))) + l2) + (1 : Int32)).toNatClampNeg))], Wd f fl g gl hh v tx)) rfl ?_
    refine WP.run hP_230 1 (c' := (144, [some (.ref 74), none, some (.int l2), some (.int l3), some (.int (s1 + ((g 95) ((((7 : Int32) * (l3 + ((g 76) ((31 : Int32) + l5).toNatClampNeg))) + l2) + (1 : Int32)).toNatClampNeg))), some (.int l5)], [], Wd f fl g gl hh v tx)) rfl ?_
    refine WP.run hP_230 2 (c' := (70, [some (.ref 74), none, some (.int l2), some (.int l3), some (.int (s1 + ((g 95) ((((7 : Int32) * (l3 + ((g 76) ((31 : Int32) + l5).toNatClampNeg))) + l2) + (1 : Int32)).toNatClampNeg))), some (.int (l5 + (1 : Int32)))], [], Wd f fl g gl hh v tx)) rfl ?_
    exact h5

set_option maxRecDepth 20000 in
theorem b_j_bitCount_0 (X : mm_X) (d : Nat) (f : Nat → Int32) (fl : Nat → Int64) (g : Nat → Nat → Int32) (gl : Nat → Nat → Int64) (hh : Nat → Nat → Option Nat) (v : Nat → Value) (tx : mm_W) (p0 : Int32)  (P : Option Value → mm_W → Prop)
    (h : P (some (.int ((((((((p0 - ((((p0).toUInt32 >>> ((1 : Int32).toUInt32 &&& Int32.toUInt32 31)).toInt32) &&& (1431655765 : Int32))) &&& (858993459 : Int32)) + (((((p0 - ((((p0).toUInt32 >>> ((1 : Int32).toUInt32 &&& Int32.toUInt32 31)).toInt32) &&& (1431655765 : Int32)))).toUInt32 >>> ((2 : Int32).toUInt32 &&& Int32.toUInt32 31)).toInt32) &&& (858993459 : Int32))) + ((((((p0 - ((((p0).toUInt32 >>> ((1 : Int32).toUInt32 &&& Int32.toUInt32 31)).toInt32) &&& (1431655765 : Int32))) &&& (858993459 : Int32)) + (((((p0 - ((((p0).toUInt32 >>> ((1 : Int32).toUInt32 &&& Int32.toUInt32 31)).toInt32) &&& (1431655765 : Int32)))).toUInt32 >>> ((2 : Int32).toUInt32 &&& Int32.toUInt32 31)).toInt32) &&& (858993459 : Int32)))).toUInt32 >>> ((4 : Int32).toUInt32 &&& Int32.toUInt32 31)).toInt32)) &&& (252645135 : Int32)) + ((((((((p0 - ((((p0).toUInt32 >>> ((1 : Int32).toUInt32 &&& Int32.toUInt32 31)).toInt32) &&& (1431655765 : Int32))) &&& (858993459 : Int32)) + (((((p0 - ((((p0).toUInt32 >>> ((1 : Int32).toUInt32 &&& Int32.toUInt32 31)).toInt32) &&& (1431655765 : Int32)))).toUInt32 >>> ((2 : Int32).toUInt32 &&& Int32.toUInt32 31)).toInt32) &&& (858993459 : Int32))) + ((((((p0 - ((((p0).toUInt32 >>> ((1 : Int32).toUInt32 &&& Int32.toUInt32 31)).toInt32) &&& (1431655765 : Int32))) &&& (858993459 : Int32)) + (((((p0 - ((((p0).toUInt32 >>> ((1 : Int32).toUInt32 &&& Int32.toUInt32 31)).toInt32) &&& (1431655765 : Int32)))).toUInt32 >>> ((2 : Int32).toUInt32 &&& Int32.toUInt32 31)).toInt32) &&& (858993459 : Int32)))).toUInt32 >>> ((4 : Int32).toUInt32 &&& Int32.toUInt32 31)).toInt32)) &&& (252645135 : Int32))).toUInt32 >>> ((8 : Int32).toUInt32 &&& Int32.toUInt32 31)).toInt32)) + (((((((((p0 - ((((p0).toUInt32 >>> ((1 : Int32).toUInt32 &&& Int32.toUInt32 31)).toInt32) &&& (1431655765 : Int32))) &&& (858993459 : Int32)) + (((((p0 - ((((p0).toUInt32 >>> ((1 : Int32).toUInt32 &&& Int32.toUInt32 31)).toInt32) &&& (1431655765 : Int32)))).toUInt32 >>> ((2 : Int32).toUInt32 &&& Int32.toUInt32 31)).toInt32) &&& (858993459 : Int32))) + ((((((p0 - ((((p0).toUInt32 >>> ((1 : Int32).toUInt32 &&& Int32.toUInt32 31)).toInt32) &&& (1431655765 : Int32))) &&& (858993459 : Int32)) + (((((p0 - ((((p0).toUInt32 >>> ((1 : Int32).toUInt32 &&& Int32.toUInt32 31)).toInt32) &&& (1431655765 : Int32)))).toUInt32 >>> ((2 : Int32).toUInt32 &&& Int32.toUInt32 31)).toInt32) &&& (858993459 : Int32)))).toUInt32 >>> ((4 : Int32).toUInt32 &&& Int32.toUInt32 31)).toInt32)) &&& (252645135 : Int32)) + ((((((((p0 - ((((p0).toUInt32 >>> ((1 : Int32).toUInt32 &&& Int32.toUInt32 31)).toInt32) &&& (1431655765 : Int32))) &&& (858993459 : Int32)) + (((((p0 - ((((p0).toUInt32 >>> ((1 : Int32).toUInt32 &&& Int32.toUInt32 31)).toInt32) &&& (1431655765 : Int32)))).toUInt32 >>> ((2 : Int32).toUInt32 &&& Int32.toUInt32 31)).toInt32) &&& (858993459 : Int32))) + ((((((p0 - ((((p0).toUInt32 >>> ((1 : Int32).toUInt32 &&& Int32.toUInt32 31)).toInt32) &&& (1431655765 : Int32))) &&& (858993459 : Int32)) + (((((p0 - ((((p0).toUInt32 >>> ((1 : Int32).toUInt32 &&& Int32.toUInt32 31)).toInt32) &&& (1431655765 : Int32)))).toUInt32 >>> ((2 : Int32).toUInt32 &&& Int32.toUInt32 31)).toInt32) &&& (858993459 : Int32)))).toUInt32 >>> ((4 : Int32).toUInt32 &&& Int32.toUInt32 31)).toInt32)) &&& (252645135 : Int32))).toUInt32 >>> ((8 : Int32).toUInt32 &&& Int32.toUInt32 31)).toInt32))).toUInt32 >>> ((16 : Int32).toUInt32 &&& Int32.toUInt32 31)).toInt32)) &&& (63 : Int32)))) (Wd f fl g gl hh v tx)) :
    WP X (d) 256 (0, [some (.int p0)], [], Wd f fl g gl hh v tx) P := by
  refine WP.run hP_256 17 (c' := (23, [some (.int (p0 - ((((p0).toUInt32 >>> ((1 : Int32).toUInt32 &&& Int32.toUInt32 31)).toInt32) &&& (1431655765 : Int32))))], [.int (((p0 - ((((p0).toUInt32 >>> ((1 : Int32).toUInt32 &&& Int32.toUInt32 31)).toInt32) &&& (1431655765 : Int32))) &&& (858993459 : Int32)) + (((((p0 - ((((p0).toUInt32 >>> ((1 : Int32).toUInt32 &&& Int32.toUInt32 31)).toInt32) &&& (1431655765 : Int32)))).toUInt32 >>> ((2 : Int32).toUInt32 &&& Int32.toUInt32 31)).toInt32) &&& (858993459 : Int32)))], Wd f fl g gl hh v tx)) rfl ?_
  refine WP.run hP_256 8 (c' := (33, [some (.int (((p0 - ((((p0).toUInt32 >>> ((1 : Int32).toUInt32 &&& Int32.toUInt32 31)).toInt32) &&& (1431655765 : Int32))) &&& (858993459 : Int32)) + (((((p0 - ((((p0).toUInt32 >>> ((1 : Int32).toUInt32 &&& Int32.toUInt32 31)).toInt32) &&& (1431655765 : Int32)))).toUInt32 >>> ((2 : Int32).toUInt32 &&& Int32.toUInt32 31)).toInt32) &&& (858993459 : Int32))))], [.int (((((p0 - ((((p0).toUInt32 >>> ((1 : Int32).toUInt32 &&& Int32.toUInt32 31)).toInt32) &&& (1431655765 : Int32))) &&& (858993459 : Int32)) + (((((p0 - ((((p0).toUInt32 >>> ((1 : Int32).toUInt32 &&& Int32.toUInt32 31)).toInt32) &&& (1431655765 : Int32)))).toUInt32 >>> ((2 : Int32).toUInt32 &&& Int32.toUInt32 31)).toInt32) &&& (858993459 : Int32))) + ((((((p0 - ((((p0).toUInt32 >>> ((1 : Int32).toUInt32 &&& Int32.toUInt32 31)).toInt32) &&& (1431655765 : Int32))) &&& (858993459 : Int32)) + (((((p0 - ((((p0).toUInt32 >>> ((1 : Int32).toUInt32 &&& Int32.toUInt32 31)).toInt32) &&& (1431655765 : Int32)))).toUInt32 >>> ((2 : Int32).toUInt32 &&& Int32.toUInt32 31)).toInt32) &&& (858993459 : Int32)))).toUInt32 >>> ((4 : Int32).toUInt32 &&& Int32.toUInt32 31)).toInt32)) &&& (252645135 : Int32))], Wd f fl g gl hh v tx)) rfl ?_
  refine WP.run hP_256 6 (c' := (40, [some (.int (((((p0 - ((((p0).toUInt32 >>> ((1 : Int32).toUInt32 &&& Int32.toUInt32 31)).toInt32) &&& (1431655765 : Int32))) &&& (858993459 : Int32)) + (((((p0 - ((((p0).toUInt32 >>> ((1 : Int32).toUInt32 &&& Int32.toUInt32 31)).toInt32) &&& (1431655765 : Int32)))).toUInt32 >>> ((2 : Int32).toUInt32 &&& Int32.toUInt32 31)).toInt32) &&& (858993459 : Int32))) + ((((((p0 - ((((p0).toUInt32 >>> ((1 : Int32).toUInt32 &&& Int32.toUInt32 31)).toInt32) &&& (1431655765 : Int32))) &&& (858993459 : Int32)) + (((((p0 - ((((p0).toUInt32 >>> ((1 : Int32).toUInt32 &&& Int32.toUInt32 31)).toInt32) &&& (1431655765 : Int32)))).toUInt32 >>> ((2 : Int32).toUInt32 &&& Int32.toUInt32 31)).toInt32) &&& (858993459 : Int32)))).toUInt32 >>> ((4 : Int32).toUInt32 &&& Int32.toUInt32 31)).toInt32)) &&& (252645135 : Int32)))], [.int ((((((p0 - ((((p0).toUInt32 >>> ((1 : Int32).toUInt32 &&& Int32.toUInt32 31)).toInt32) &&& (1431655765 : Int32))) &&& (858993459 : Int32)) + (((((p0 - ((((p0).toUInt32 >>> ((1 : Int32).toUInt32 &&& Int32.toUInt32 31)).toInt32) &&& (1431655765 : Int32)))).toUInt32 >>> ((2 : Int32).toUInt32 &&& Int32.toUInt32 31)).toInt32) &&& (858993459 : Int32))) + ((((((p0 - ((((p0).toUInt32 >>> ((1 : Int32).toUInt32 &&& Int32.toUInt32 31)).toInt32) &&& (1431655765 : Int32))) &&& (858993459 : Int32)) + (((((p0 - ((((p0).toUInt32 >>> ((1 : Int32).toUInt32 &&& Int32.toUInt32 31)).toInt32) &&& (1431655765 : Int32)))).toUInt32 >>> ((2 : Int32).toUInt32 &&& Int32.toUInt32 31)).toInt32) &&& (858993459 : Int32)))).toUInt32 >>> ((4 : Int32).toUInt32 &&& Int32.toUInt32 31)).toInt32)) &&& (252645135 : Int32)) + ((((((((p0 - ((((p0).toUInt32 >>> ((1 : Int32).toUInt32 &&& Int32.toUInt32 31)).toInt32) &&& (1431655765 : Int32))) &&& (858993459 : Int32)) + (((((p0 - ((((p0).toUInt32 >>> ((1 : Int32).toUInt32 &&& Int32.toUInt32 31)).toInt32) &&& (1431655765 : Int32)))).toUInt32 >>> ((2 : Int32).toUInt32 &&& Int32.toUInt32 31)).toInt32) &&& (858993459 : Int32))) + ((((((p0 - ((((p0).toUInt32 >>> ((1 : Int32).toUInt32 &&& Int32.toUInt32 31)).toInt32) &&& (1431655765 : Int32))) &&& (858993459 : Int32)) + (((((p0 - ((((p0).toUInt32 >>> ((1 : Int32).toUInt32 &&& Int32.toUInt32 31)).toInt32) &&& (1431655765 : Int32)))).toUInt32 >>> ((2 : Int32).toUInt32 &&& Int32.toUInt32 31)).toInt32) &&& (858993459 : Int32)))).toUInt32 >>> ((4 : Int32).toUInt32 &&& Int32.toUInt32 31)).toInt32)) &&& (252645135 : Int32))).toUInt32 >>> ((8 : Int32).toUInt32 &&& Int32.toUInt32 31)).toInt32))], Wd f fl g gl hh v tx)) rfl ?_
  refine WP.run hP_256 6 (c' := (47, [some (.int ((((((p0 - ((((p0).toUInt32 >>> ((1 : Int32).toUInt32 &&& Int32.toUInt32 31)).toInt32) &&& (1431655765 : Int32))) &&& (858993459 : Int32)) + (((((p0 - ((((p0).toUInt32 >>> ((1 : Int32).toUInt32 &&& Int32.toUInt32 31)).toInt32) &&& (1431655765 : Int32)))).toUInt32 >>> ((2 : Int32).toUInt32 &&& Int32.toUInt32 31)).toInt32) &&& (858993459 : Int32))) + ((((((p0 - ((((p0).toUInt32 >>> ((1 : Int32).toUInt32 &&& Int32.toUInt32 31)).toInt32) &&& (1431655765 : Int32))) &&& (858993459 : Int32)) + (((((p0 - ((((p0).toUInt32 >>> ((1 : Int32).toUInt32 &&& Int32.toUInt32 31)).toInt32) &&& (1431655765 : Int32)))).toUInt32 >>> ((2 : Int32).toUInt32 &&& Int32.toUInt32 31)).toInt32) &&& (858993459 : Int32)))).toUInt32 >>> ((4 : Int32).toUInt32 &&& Int32.toUInt32 31)).toInt32)) &&& (252645135 : Int32)) + ((((((((p0 - ((((p0).toUInt32 >>> ((1 : Int32).toUInt32 &&& Int32.toUInt32 31)).toInt32) &&& (1431655765 : Int32))) &&& (858993459 : Int32)) + (((((p0 - ((((p0).toUInt32 >>> ((1 : Int32).toUInt32 &&& Int32.toUInt32 31)).toInt32) &&& (1431655765 : Int32)))).toUInt32 >>> ((2 : Int32).toUInt32 &&& Int32.toUInt32 31)).toInt32) &&& (858993459 : Int32))) + ((((((p0 - ((((p0).toUInt32 >>> ((1 : Int32).toUInt32 &&& Int32.toUInt32 31)).toInt32) &&& (1431655765 : Int32))) &&& (858993459 : Int32)) + (((((p0 - ((((p0).toUInt32 >>> ((1 : Int32).toUInt32 &&& Int32.toUInt32 31)).toInt32) &&& (1431655765 : Int32)))).toUInt32 >>> ((2 : Int32).toUInt32 &&& Int32.toUInt32 31)).toInt32) &&& (858993459 : Int32)))).toUInt32 >>> ((4 : Int32).toUInt32 &&& Int32.toUInt32 31)).toInt32)) &&& (252645135 : Int32))).toUInt32 >>> ((8 : Int32).toUInt32 &&& Int32.toUInt32 31)).toInt32)))], [.int (((((((p0 - ((((p0).toUInt32 >>> ((1 : Int32).toUInt32 &&& Int32.toUInt32 31)).toInt32) &&& (1431655765 : Int32))) &&& (858993459 : Int32)) + (((((p0 - ((((p0).toUInt32 >>> ((1 : Int32).toUInt32 &&& Int32.toUInt32 31)).toInt32) &&& (1431655765 : Int32)))).toUInt32 >>> ((2 : Int32).toUInt32 &&& Int32.toUInt32 31)).toInt32) &&& (858993459 : Int32))) + ((((((p0 - ((((p0).toUInt32 >>> ((1 : Int32).toUInt32 &&& Int32.toUInt32 31)).toInt32) &&& (1431655765 : Int32))) &&& (858993459 : Int32)) + (((((p0 - ((((p0).toUInt32 >>> ((1 : Int32).toUInt32 &&& Int32.toUInt32 31)).toInt32) &&& (1431655765 : Int32)))).toUInt32 >>> ((2 : Int32).toUInt32 &&& Int32.toUInt32 31)).toInt32) &&& (858993459 : Int32)))).toUInt32 >>> ((4 : Int32).toUInt32 &&& Int32.toUInt32 31)).toInt32)) &&& (252645135 : Int32)) + ((((((((p0 - ((((p0).toUInt32 >>> ((1 : Int32).toUInt32 &&& Int32.toUInt32 31)).toInt32) &&& (1431655765 : Int32))) &&& (858993459 : Int32)) + (((((p0 - ((((p0).toUInt32 >>> ((1 : Int32).toUInt32 &&& Int32.toUInt32 31)).toInt32) &&& (1431655765 : Int32)))).toUInt32 >>> ((2 : Int32).toUInt32 &&& Int32.toUInt32 31)).toInt32) &&& (858993459 : Int32))) + ((((((p0 - ((((p0).toUInt32 >>> ((1 : Int32).toUInt32 &&& Int32.toUInt32 31)).toInt32) &&& (1431655765 : Int32))) &&& (858993459 : Int32)) + (((((p0 - ((((p0).toUInt32 >>> ((1 : Int32).toUInt32 &&& Int32.toUInt32 31)).toInt32) &&& (1431655765 : Int32)))).toUInt32 >>> ((2 : Int32).toUInt32 &&& Int32.toUInt32 31)).toInt32) &&& (858993459 : Int32)))).toUInt32 >>> ((4 : Int32).toUInt32 &&& Int32.toUInt32 31)).toInt32)) &&& (252645135 : Int32))).toUInt32 >>> ((8 : Int32).toUInt32 &&& Int32.toUInt32 31)).toInt32)) + (((((((((p0 - ((((p0).toUInt32 >>> ((1 : Int32).toUInt32 &&& Int32.toUInt32 31)).toInt32) &&& (1431655765 : Int32))) &&& (858993459 : Int32)) + (((((p0 - ((((p0).toUInt32 >>> ((1 : Int32).toUInt32 &&& Int32.toUInt32 31)).toInt32) &&& (1431655765 : Int32)))).toUInt32 >>> ((2 : Int32).toUInt32 &&& Int32.toUInt32 31)).toInt32) &&& (858993459 : Int32))) + ((((((p0 - ((((p0).toUInt32 >>> ((1 : Int32).toUInt32 &&& Int32.toUInt32 31)).toInt32) &&& (1431655765 : Int32))) &&& (858993459 : Int32)) + (((((p0 - ((((p0).toUInt32 >>> ((1 : Int32).toUInt32 &&& Int32.toUInt32 31)).toInt32) &&& (1431655765 : Int32)))).toUInt32 >>> ((2 : Int32).toUInt32 &&& Int32.toUInt32 31)).toInt32) &&& (858993459 : Int32)))).toUInt32 >>> ((4 : Int32).toUInt32 &&& Int32.toUInt32 31)).toInt32)) &&& (252645135 : Int32)) + ((((((((p0 - ((((p0).toUInt32 >>> ((1 : Int32).toUInt32 &&& Int32.toUInt32 31)).toInt32) &&& (1431655765 : Int32))) &&& (858993459 : Int32)) + (((((p0 - ((((p0).toUInt32 >>> ((1 : Int32).toUInt32 &&& Int32.toUInt32 31)).toInt32) &&& (1431655765 : Int32)))).toUInt32 >>> ((2 : Int32).toUInt32 &&& Int32.toUInt32 31)).toInt32) &&& (858993459 : Int32))) + ((((((p0 - ((((p0).toUInt32 >>> ((1 : Int32).toUInt32 &&& Int32.toUInt32 31)).toInt32) &&& (1431655765 : Int32))) &&& (858993459 : Int32)) + (((((p0 - ((((p0).toUInt32 >>> ((1 : Int32).toUInt32 &&& Int32.toUInt32 31)).toInt32) &&& (1431655765 : Int32)))).toUInt32 >>> ((2 : Int32).toUInt32 &&& Int32.toUInt32 31)).toInt32) &&& (858993459 : Int32)))).toUInt32 >>> ((4 : Int32).toUInt32 &&& Int32.toUInt32 31)).toInt32)) &&& (252645135 : Int32))).toUInt32 >>> ((8 : Int32).toUInt32 &&& Int32.toUInt32 31)).toInt32))).toUInt32 >>> ((16 : Int32).toUInt32 &&& Int32.toUInt32 31)).toInt32))], Wd f fl g gl hh v tx)) rfl ?_
  refine WP.run hP_256 4 (c' := (52, [some (.int (((((((p0 - ((((p0).toUInt32 >>> ((1 : Int32).toUInt32 &&& Int32.toUInt32 31)).toInt32) &&& (1431655765 : Int32))) &&& (858993459 : Int32)) + (((((p0 - ((((p0).toUInt32 >>> ((1 : Int32).toUInt32 &&& Int32.toUInt32 31)).toInt32) &&& (1431655765 : Int32)))).toUInt32 >>> ((2 : Int32).toUInt32 &&& Int32.toUInt32 31)).toInt32) &&& (858993459 : Int32))) + ((((((p0 - ((((p0).toUInt32 >>> ((1 : Int32).toUInt32 &&& Int32.toUInt32 31)).toInt32) &&& (1431655765 : Int32))) &&& (858993459 : Int32)) + (((((p0 - ((((p0).toUInt32 >>> ((1 : Int32).toUInt32 &&& Int32.toUInt32 31)).toInt32) &&& (1431655765 : Int32)))).toUInt32 >>> ((2 : Int32).toUInt32 &&& Int32.toUInt32 31)).toInt32) &&& (858993459 : Int32)))).toUInt32 >>> ((4 : Int32).toUInt32 &&& Int32.toUInt32 31)).toInt32)) &&& (252645135 : Int32)) + ((((((((p0 - ((((p0).toUInt32 >>> ((1 : Int32).toUInt32 &&& Int32.toUInt32 31)).toInt32) &&& (1431655765 : Int32))) &&& (858993459 : Int32)) + (((((p0 - ((((p0).toUInt32 >>> ((1 : Int32).toUInt32 &&& Int32.toUInt32 31)).toInt32) &&& (1431655765 : Int32)))).toUInt32 >>> ((2 : Int32).toUInt32 &&& Int32.toUInt32 31)).toInt32) &&& (858993459 : Int32))) + ((((((p0 - ((((p0).toUInt32 >>> ((1 : Int32).toUInt32 &&& Int32.toUInt32 31)).toInt32) &&& (1431655765 : Int32))) &&& (858993459 : Int32)) + (((((p0 - ((((p0).toUInt32 >>> ((1 : Int32).toUInt32 &&& Int32.toUInt32 31)).toInt32) &&& (1431655765 : Int32)))).toUInt32 >>> ((2 : Int32).toUInt32 &&& Int32.toUInt32 31)).toInt32) &&& (858993459 : Int32)))).toUInt32 >>> ((4 : Int32).toUInt32 &&& Int32.toUInt32 31)).toInt32)) &&& (252645135 : Int32))).toUInt32 >>> ((8 : Int32).toUInt32 &&& Int32.toUInt32 31)).toInt32)) + (((((((((p0 - ((((p0).toUInt32 >>> ((1 : Int32).toUInt32 &&& Int32.toUInt32 31)).toInt32) &&& (1431655765 : Int32))) &&& (858993459 : Int32)) + (((((p0 - ((((p0).toUInt32 >>> ((1 : Int32).toUInt32 &&& Int32.toUInt32 31)).toInt32) &&& (1431655765 : Int32)))).toUInt32 >>> ((2 : Int32).toUInt32 &&& Int32.toUInt32 31)).toInt32) &&& (858993459 : Int32))) + ((((((p0 - ((((p0).toUInt32 >>> ((1 : Int32).toUInt32 &&& Int32.toUInt32 31)).toInt32) &&& (1431655765 : Int32))) &&& (858993459 : Int32)) + (((((p0 - ((((p0).toUInt32 >>> ((1 : Int32).toUInt32 &&& Int32.toUInt32 31)).toInt32) &&& (1431655765 : Int32)))).toUInt32 >>> ((2 : Int32).toUInt32 &&& Int32.toUInt32 31)).toInt32) &&& (858993459 : Int32)))).toUInt32 >>> ((4 : Int32).toUInt32 &&& Int32.toUInt32 31)).toInt32)) &&& (252645135 : Int32)) + ((((((((p0 - ((((p0).toUInt32 >>> ((1 : Int32).toUInt32 &&& Int32.toUInt32 31)).toInt32) &&& (1431655765 : Int32))) &&& (858993459 : Int32)) + (((((p0 - ((((p0).toUInt32 >>> ((1 : Int32).toUInt32 &&& Int32.toUInt32 31)).toInt32) &&& (1431655765 : Int32)))).toUInt32 >>> ((2 : Int32).toUInt32 &&& Int32.toUInt32 31)).toInt32) &&& (858993459 : Int32))) + ((((((p0 - ((((p0).toUInt32 >>> ((1 : Int32).toUInt32 &&& Int32.toUInt32 31)).toInt32) &&& (1431655765 : Int32))) &&& (858993459 : Int32)) + (((((p0 - ((((p0).toUInt32 >>> ((1 : Int32).toUInt32 &&& Int32.toUInt32 31)).toInt32) &&& (1431655765 : Int32)))).toUInt32 >>> ((2 : Int32).toUInt32 &&& Int32.toUInt32 31)).toInt32) &&& (858993459 : Int32)))).toUInt32 >>> ((4 : Int32).toUInt32 &&& Int32.toUInt32 31)).toInt32)) &&& (252645135 : Int32))).toUInt32 >>> ((8 : Int32).toUInt32 &&& Int32.toUInt32 31)).toInt32))).toUInt32 >>> ((16 : Int32).toUInt32 &&& Int32.toUInt32 31)).toInt32)))], [.int ((((((((p0 - ((((p0).toUInt32 >>> ((1 : Int32).toUInt32 &&& Int32.toUInt32 31)).toInt32) &&& (1431655765 : Int32))) &&& (858993459 : Int32)) + (((((p0 - ((((p0).toUInt32 >>> ((1 : Int32).toUInt32 &&& Int32.toUInt32 31)).toInt32) &&& (1431655765 : Int32)))).toUInt32 >>> ((2 : Int32).toUInt32 &&& Int32.toUInt32 31)).toInt32) &&& (858993459 : Int32))) + ((((((p0 - ((((p0).toUInt32 >>> ((1 : Int32).toUInt32 &&& Int32.toUInt32 31)).toInt32) &&& (1431655765 : Int32))) &&& (858993459 : Int32)) + (((((p0 - ((((p0).toUInt32 >>> ((1 : Int32).toUInt32 &&& Int32.toUInt32 31)).toInt32) &&& (1431655765 : Int32)))).toUInt32 >>> ((2 : Int32).toUInt32 &&& Int32.toUInt32 31)).toInt32) &&& (858993459 : Int32)))).toUInt32 >>> ((4 : Int32).toUInt32 &&& Int32.toUInt32 31)).toInt32)) &&& (252645135 : Int32)) + ((((((((p0 - ((((p0).toUInt32 >>> ((1 : Int32).toUInt32 &&& Int32.toUInt32 31)).toInt32) &&& (1431655765 : Int32))) &&& (858993459 : Int32)) + (((((p0 - ((((p0).toUInt32 >>> ((1 : Int32).toUInt32 &&& Int32.toUInt32 31)).toInt32) &&& (1431655765 : Int32)))).toUInt32 >>> ((2 : Int32).toUInt32 &&& Int32.toUInt32 31)).toInt32) &&& (858993459 : Int32))) + ((((((p0 - ((((p0).toUInt32 >>> ((1 : Int32).toUInt32 &&& Int32.toUInt32 31)).toInt32) &&& (1431655765 : Int32))) &&& (858993459 : Int32)) + (((((p0 - ((((p0).toUInt32 >>> ((1 : Int32).toUInt32 &&& Int32.toUInt32 31)).toInt32) &&& (1431655765 : Int32)))).toUInt32 >>> ((2 : Int32).toUInt32 &&& Int32.toUInt32 31)).toInt32) &&& (858993459 : Int32)))).toUInt32 >>> ((4 : Int32).toUInt32 &&& Int32.toUInt32 31)).toInt32)) &&& (252645135 : Int32))).toUInt32 >>> ((8 : Int32).toUInt32 &&& Int32.toUInt32 31)).toInt32)) + (((((((((p0 - ((((p0).toUInt32 >>> ((1 : Int32).toUInt32 &&& Int32.toUInt32 31)).toInt32) &&& (1431655765 : Int32))) &&& (858993459 : Int32)) + (((((p0 - ((((p0).toUInt32 >>> ((1 : Int32).toUInt32 &&& Int32.toUInt32 31)).toInt32) &&& (1431655765 : Int32)))).toUInt32 >>> ((2 : Int32).toUInt32 &&& Int32.toUInt32 31)).toInt32) &&& (858993459 : Int32))) + ((((((p0 - ((((p0).toUInt32 >>> ((1 : Int32).toUInt32 &&& Int32.toUInt32 31)).toInt32) &&& (1431655765 : Int32))) &&& (858993459 : Int32)) + (((((p0 - ((((p0).toUInt32 >>> ((1 : Int32).toUInt32 &&& Int32.toUInt32 31)).toInt32) &&& (1431655765 : Int32)))).toUInt32 >>> ((2 : Int32).toUInt32 &&& Int32.toUInt32 31)).toInt32) &&& (858993459 : Int32)))).toUInt32 >>> ((4 : Int32).toUInt32 &&& Int32.toUInt32 31)).toInt32)) &&& (252645135 : Int32)) + ((((((((p0 - ((((p0).toUInt32 >>> ((1 : Int32).toUInt32 &&& Int32.toUInt32 31)).toInt32) &&& (1431655765 : Int32))) &&& (858993459 : Int32)) + (((((p0 - ((((p0).toUInt32 >>> ((1 : Int32).toUInt32 &&& Int32.toUInt32 31)).toInt32) &&& (1431655765 : Int32)))).toUInt32 >>> ((2 : Int32).toUInt32 &&& Int32.toUInt32 31)).toInt32) &&& (858993459 : Int32))) + ((((((p0 - ((((p0).toUInt32 >>> ((1 : Int32).toUInt32 &&& Int32.toUInt32 31)).toInt32) &&& (1431655765 : Int32))) &&& (858993459 : Int32)) + (((((p0 - ((((p0).toUInt32 >>> ((1 : Int32).toUInt32 &&& Int32.toUInt32 31)).toInt32) &&& (1431655765 : Int32)))).toUInt32 >>> ((2 : Int32).toUInt32 &&& Int32.toUInt32 31)).toInt32) &&& (858993459 : Int32)))).toUInt32 >>> ((4 : Int32).toUInt32 &&& Int32.toUInt32 31)).toInt32)) &&& (252645135 : Int32))).toUInt32 >>> ((8 : Int32).toUInt32 &&& Int32.toUInt32 31)).toInt32))).toUInt32 >>> ((16 : Int32).toUInt32 &&& Int32.toUInt32 31)).toInt32)) &&& (63 : Int32))], Wd f fl g gl hh v tx)) rfl ?_
  exact WP.retI hP_256 rfl rfl h
