set_option maxRecDepth 20000 in
theorem b_ycb_size_0 (X : mm_X) (d : Nat) (f : Nat → Int32) (fl : Nat → Int64) (g : Nat → Nat → Int32) (gl : Nat → Nat → Int64) (hh : Nat → Nat → Option Nat) (v : Nat → Value) (tx : mm_W) (p0 : Int32)  (P : Option Value → mm_W → Prop)
    (h : ((4 ≤ p0) → (((16 ≤ p0) → (((64 ≤ p0) → (((256 ≤ p0) → P (some (.int 4)) (Wd f fl g gl hh v tx)) ∧
          ((¬ (256 ≤ p0)) → P (some (.int 3)) (Wd f fl g gl hh v tx)))) ∧
        ((¬ (64 ≤ p0)) → P (some (.int 2)) (Wd f fl g gl hh v tx)))) ∧
      ((¬ (16 ≤ p0)) → P (some (.int 1)) (Wd f fl g gl hh v tx)))) ∧
    ((¬ (4 ≤ p0)) → P (some (.int 0)) (Wd f fl g gl hh v tx))) :
    WP X (d) 19 (0, [some (.int p0)], [], Wd f fl g gl hh v tx) P := by
  refine WP.run hP_19 2 (c' := (2, [some (.int p0)], [.int 4, .int p0], Wd f fl g gl hh v tx)) rfl ?_
  refine WP.br hP_19 (q := 4 ≤ p0) (t := 9) (f := 5) (L := [some (.int p0)]) (st := []) (w := Wd f fl g gl hh v tx) rfl (fun c1 => ?_) (fun c1 => ?_)
  · have h2 := h.1 c1
    refine WP.run hP_19 2 (c' := (12, [some (.int p0)], [.int 16, .int p0], Wd f fl g gl hh v tx)) rfl ?_
    refine WP.br hP_19 (q := 16 ≤ p0) (t := 19) (f := 15) (L := [some (.int p0)]) (st := []) (w := Wd f fl g gl hh v tx) rfl (fun c3 => ?_) (fun c3 => ?_)
    · have h4 := h2.1 c3
      refine WP.run hP_19 2 (c' := (22, [some (.int p0)], [.int 64, .int p0], Wd f fl g gl hh v tx)) rfl ?_
      refine WP.br hP_19 (q := 64 ≤ p0) (t := 29) (f := 25) (L := [some (.int p0)]) (st := []) (w := Wd f fl g gl hh v tx) rfl (fun c5 => ?_) (fun c5 => ?_)
      · have h6 := h4.1 c5
        refine WP.run hP_19 2 (c' := (33, [some (.int p0)], [.int 256, .int p0], Wd f fl g gl hh v tx)) rfl ?_
        refine WP.br hP_19 (q := 256 ≤ p0) (t := 40) (f := 36) (L := [some (.int p0)]) (st := []) (w := Wd f fl g gl hh v tx) rfl (fun c7 => ?_) (fun c7 => ?_)
        · have h8 := h6.1 c7
          refine WP.run hP_19 1 (c' := (41, [none], [.int 4], Wd f fl g gl hh v tx)) rfl ?_
          exact WP.retI hP_19 rfl rfl h8
        · have h9 := h6.2 c7
          refine WP.run hP_19 2 (c' := (41, [some (.int p0)], [.int 3], Wd f fl g gl hh v tx)) rfl ?_
          exact WP.retI hP_19 rfl rfl h9
      · have h10 := h4.2 c5
        refine WP.run hP_19 2 (c' := (41, [some (.int p0)], [.int 2], Wd f fl g gl hh v tx)) rfl ?_
        exact WP.retI hP_19 rfl rfl h10
    · have h11 := h2.2 c3
      refine WP.run hP_19 2 (c' := (41, [some (.int p0)], [.int 1], Wd f fl g gl hh v tx)) rfl ?_
      exact WP.retI hP_19 rfl rfl h11
  · have h12 := h.2 c1
    refine WP.run hP_19 2 (c' := (41, [some (.int p0)], [.int 0], Wd f fl g gl hh v tx)) rfl ?_
    exact WP.retI hP_19 rfl rfl h12

set_option maxRecDepth 20000 in
theorem b_ycb_left_0 (X : mm_X) (d : Nat) (f : Nat → Int32) (fl : Nat → Int64) (g : Nat → Nat → Int32) (gl : Nat → Nat → Int64) (hh : Nat → Nat → Option Nat) (v : Nat → Value) (tx : mm_W) (p0 : Int32) (p1 : Int32)  (P : Option Value → mm_W → Prop)
    (h : WP X (d) 19 (0, [some (.int p1)], [], Wd f fl g gl hh v tx) (fun rv w2 => WP X (d + 1) 18 (5, [some (.int p0), some (.int p1), none], rv.toList ++ [.int 2], w2) P)) :
    WP X (d + 1) 18 (0, [some (.int p0), some (.int p1), none], [], Wd f fl g gl hh v tx) P := by
  refine WP.run hP_18 2 (c' := (2, [some (.int p0), some (.int p1), none], [.int p1, .int 2], Wd f fl g gl hh v tx)) rfl ?_
  refine WP.call hP_18 hP_19 (as := [.int p1]) (pc' := 5) (L' := [some (.int p0), some (.int p1), none]) (st' := [.int 2]) (w1 := Wd f fl g gl hh v tx) rfl ⟨Nat.le_of_ble_eq_true rfl, Nat.le_of_ble_eq_true rfl⟩ rfl ?_
  exact h

set_option maxRecDepth 20000 in
theorem b_ycb_left_5 (X : mm_X) (d : Nat) (f : Nat → Int32) (fl : Nat → Int64) (g : Nat → Nat → Int32) (gl : Nat → Nat → Int64) (hh : Nat → Nat → Option Nat) (v : Nat → Value) (tx : mm_W) (l0 : Int32) (l1 : Int32) (s0 : Int32) (s1 : Int32)  (P : Option Value → mm_W → Prop)
    (h : WP X (d) 19 (0, [some (.int l0)], [], Wd f fl g gl hh v tx) (fun rv w2 => WP X (d + 1) 18 (9, [some (.int l0), some (.int l1), none], rv.toList ++ [.int s0, .int s1], w2) P)) :
    WP X (d + 1) 18 (5, [some (.int l0), some (.int l1), none], [.int s0, .int s1], Wd f fl g gl hh v tx) P := by
  refine WP.run hP_18 1 (c' := (6, [some (.int l0), some (.int l1), none], [.int l0, .int s0, .int s1], Wd f fl g gl hh v tx)) rfl ?_
  refine WP.call hP_18 hP_19 (as := [.int l0]) (pc' := 9) (L' := [some (.int l0), some (.int l1), none]) (st' := [.int s0, .int s1]) (w1 := Wd f fl g gl hh v tx) rfl ⟨Nat.le_of_ble_eq_true rfl, Nat.le_of_ble_eq_true rfl⟩ rfl ?_
  exact h

set_option maxRecDepth 20000 in
theorem b_ycb_left_9 (X : mm_X) (d : Nat) (f : Nat → Int32) (fl : Nat → Int64) (g : Nat → Nat → Int32) (gl : Nat → Nat → Int64) (hh : Nat → Nat → Option Nat) (v : Nat → Value) (tx : mm_W) (l0 : Int32) (l1 : Int32) (s0 : Int32) (s1 : Int32) (s2 : Int32)  (P : Option Value → mm_W → Prop)
    (h : (((s2 * (s1 - s0)) ≤ 0) → P (some (.int (-1))) (Wd f fl g gl hh v tx)) ∧
    ((¬ ((s2 * (s1 - s0)) ≤ 0)) → (((((l1 >>> ((s2 * (s1 - s0)) &&& (31 : Int32))) : Int32) = l0) → P (some (.int ((((1 : Int32) <<< ((s2 * (s1 - s0)) &&& (31 : Int32))) : Int32) ||| (l1 &&& ((((1 : Int32) <<< ((s2 * (s1 - s0)) &&& (31 : Int32))) : Int32) - (1 : Int32)))))) (Wd f fl g gl hh v tx)) ∧
      ((¬ ((l1 >>> ((s2 * (s1 - s0)) &&& (31 : Int32))) : Int32) = l0) → P (some (.int (-1))) (Wd f fl g gl hh v tx))))) :
    WP X (d) 18 (9, [some (.int l0), some (.int l1), none], [.int s0, .int s1, .int s2], Wd f fl g gl hh v tx) P := by
  refine WP.run hP_18 4 (c' := (13, [some (.int l0), some (.int l1), some (.int (s2 * (s1 - s0)))], [.int (s2 * (s1 - s0))], Wd f fl g gl hh v tx)) rfl ?_
  refine WP.br hP_18 (q := (s2 * (s1 - s0)) ≤ 0) (t := 23) (f := 16) (L := [some (.int l0), some (.int l1), some (.int (s2 * (s1 - s0)))]) (st := []) (w := Wd f fl g gl hh v tx) rfl (fun c1 => ?_) (fun c1 => ?_)
  · have h2 := h.1 c1
    refine WP.run hP_18 1 (c' := (24, [none, none, none], [.int (-1)], Wd f fl g gl hh v tx)) rfl ?_
    exact WP.retI hP_18 rfl rfl h2
  · have h3 := h.2 c1
    refine WP.run hP_18 4 (c' := (20, [some (.int l0), some (.int l1), some (.int (s2 * (s1 - s0)))], [.int l0, .int ((l1 >>> ((s2 * (s1 - s0)) &&& (31 : Int32))) : Int32)], Wd f fl g gl hh v tx)) rfl ?_
    refine WP.br hP_18 (q := ((l1 >>> ((s2 * (s1 - s0)) &&& (31 : Int32))) : Int32) = l0) (t := 25) (f := 23) (L := [some (.int l0), some (.int l1), some (.int (s2 * (s1 - s0)))]) (st := []) (w := Wd f fl g gl hh v tx) rfl (fun c4 => ?_) (fun c4 => ?_)
    · have h5 := h3.1 c4
      refine WP.run hP_18 11 (c' := (36, [none, some (.int l1), some (.int (s2 * (s1 - s0)))], [.int ((((1 : Int32) <<< ((s2 * (s1 - s0)) &&& (31 : Int32))) : Int32) ||| (l1 &&& ((((1 : Int32) <<< ((s2 * (s1 - s0)) &&& (31 : Int32))) : Int32) - (1 : Int32))))], Wd f fl g gl hh v tx)) rfl ?_
      exact WP.retI hP_18 rfl rfl h5
    · have h6 := h3.2 c4
      refine WP.run hP_18 1 (c' := (24, [none, none, none], [.int (-1)], Wd f fl g gl hh v tx)) rfl ?_
      exact WP.retI hP_18 rfl rfl h6

set_option maxRecDepth 20000 in
theorem b_ycb_offer_50_0 (X : mm_X) (d : Nat) (f : Nat → Int32) (fl : Nat → Int64) (g : Nat → Nat → Int32) (gl : Nat → Nat → Int64) (hh : Nat → Nat → Option Nat) (v : Nat → Value) (tx : mm_W) (p0 : Int32) (p1 : Int32)  (P : Option Value → mm_W → Prop)
    (h : ((0 ≤ p0 ∧ p0 < (128 : Int32)) → ((¬ (p0 < 0 ∨ 128 ≤ p0.toNatClampNeg)) ∧ (((p1 < ((g 52) p0.toNatClampNeg)) → ((¬ (p0 < 0 ∨ 128 ≤ p0.toNatClampNeg)) ∧ (((¬ ((g 52) p0.toNatClampNeg) = 1000000) → ((¬ (p0 < 0 ∨ 128 ≤ p0.toNatClampNeg)) ∧ P (some (.int 1)) (Wd f fl (va_up g 52 (upd (g 52) (p0.toNatClampNeg) p1)) gl hh v tx))) ∧
        ((((g 52) p0.toNatClampNeg) = 1000000) → (((128 ≤ (f 3203)) → ((¬ (p0 < 0 ∨ 128 ≤ p0.toNatClampNeg)) ∧ P (some (.int 1)) (Wd f fl (va_up g 52 (upd (g 52) (p0.toNatClampNeg) p1)) gl hh v tx))) ∧
          ((¬ (128 ≤ (f 3203))) → ((¬ ((f 3203) < 0 ∨ 128 ≤ (f 3203).toNatClampNeg)) ∧ ((¬ (p0 < 0 ∨ 128 ≤ p0.toNatClampNeg)) ∧ P (some (.int 1)) (Wd (va_up f 3203 ((f 3203) + (1 : Int32))) fl (va_up (va_up g 53 (upd (g 53) ((f 3203).toNatClampNeg) p0)) 52 (upd (g 52) (p0.toNatClampNeg) p1)) gl hh v tx))))))))) ∧
      ((¬ (p1 < ((g 52) p0.toNatClampNeg))) → P (some (.int 0)) (Wd f fl g gl hh v tx))))) ∧
    ((¬ (0 ≤ p0 ∧ p0 < (128 : Int32))) → P (some (.int 0)) (Wd f fl g gl hh v tx))) :
    WP X (d + 1) 17 (0, [some (.ref 50), some (.int p0), some (.int p1)], [], Wd f fl g gl hh v tx) P := by
  refine WP.run hP_17 4 (c' := (6, [some (.ref 50), some (.int p0), some (.int p1)], [.int 128, .int p0], Wd f fl g gl hh v tx)) rfl ?_
  refine WP.call hP_17 hP_99 (as := [.int p0, .int 128]) (pc' := 9) (L' := [some (.ref 50), some (.int p0), some (.int p1)]) (st' := []) (w1 := Wd f fl g gl hh v tx) rfl ⟨Nat.le_of_ble_eq_true rfl, Nat.le_of_ble_eq_true rfl⟩ rfl (b_within_m X (d) f fl g gl hh v tx p0 128 _ ?_)
  refine ⟨fun c1 => ?_, fun c1 => ?_⟩
  · have h2 := h.1 c1
    refine WP.run hP_17 4 (c' := (17, [some (.ref 50), some (.int p0), some (.int p1)], [.int p0, .ref 52], Wd f fl g gl hh v tx)) rfl ?_
    refine WP.of (fun _ _ => Ex.iald hP_17 rfl (Wa_52 _ _ _ _ _ _ _) h2.1) ?_
    have h3 := h2.2
    refine WP.run hP_17 1 (c' := (19, [some (.ref 50), some (.int p0), some (.int p1)], [.int p1, .int ((g 52) p0.toNatClampNeg)], Wd f fl g gl hh v tx)) rfl ?_
    refine WP.br hP_17 (q := p1 < ((g 52) p0.toNatClampNeg)) (t := 24) (f := 22) (L := [some (.ref 50), some (.int p0), some (.int p1)]) (st := []) (w := Wd f fl g gl hh v tx) rfl (fun c4 => ?_) (fun c4 => ?_)
    · have h5 := h3.1 c4
      refine WP.run hP_17 3 (c' := (29, [some (.ref 50), some (.int p0), some (.int p1)], [.int p0, .ref 52], Wd f fl g gl hh v tx)) rfl ?_
      refine WP.of (fun _ _ => Ex.iald hP_17 rfl (Wa_52 _ _ _ _ _ _ _) h5.1) ?_
      have h6 := h5.2
      refine WP.run hP_17 1 (c' := (32, [some (.ref 50), some (.int p0), some (.int p1)], [.int 1000000, .int ((g 52) p0.toNatClampNeg)], Wd f fl g gl hh v tx)) rfl ?_
      refine WP.br hP_17 (q := ¬ ((g 52) p0.toNatClampNeg) = 1000000) (t := 67) (f := 35) (L := [some (.ref 50), some (.int p0), some (.int p1)]) (st := []) (w := Wd f fl g gl hh v tx) rfl (fun c7 => ?_) (fun c7 => ?_)
      · have h8 := h6.1 c7
        refine WP.run hP_17 4 (c' := (73, [some (.ref 50), some (.int p0), some (.int p1)], [.int p1, .int p0, .ref 52], Wd f fl g gl hh v tx)) rfl ?_
        refine WP.of (fun _ _ => Ex.iast hP_17 (w2 := Wd f fl (va_up g 52 (upd (g 52) (p0.toNatClampNeg) p1)) gl hh v tx) rfl (Wa_52 _ _ _ _ _ _ _) h8.1 (Ws_52 _ _ _ _ _ _ _ _)) ?_
        have h9 := h8.2
        refine WP.run hP_17 1 (c' := (75, [some (.ref 50), some (.int p0), some (.int p1)], [.int 1], Wd f fl (va_up g 52 (upd (g 52) (p0.toNatClampNeg) p1)) gl hh v tx)) rfl ?_
        exact WP.ret hP_17 (r := some (.int 1)) (w' := Wd f fl (va_up g 52 (upd (g 52) (p0.toNatClampNeg) p1)) gl hh v tx) rfl h9
      · have h10 := h6.2 (Classical.not_not.mp c7)
        refine WP.run hP_17 5 (c' := (44, [some (.ref 50), some (.int p0), some (.int p1)], [.int 128, .int (f 3203)], Wd f fl g gl hh v tx)) rfl ?_
        refine WP.br hP_17 (q := 128 ≤ (f 3203)) (t := 67) (f := 47) (L := [some (.ref 50), some (.int p0), some (.int p1)]) (st := []) (w := Wd f fl g gl hh v tx) rfl (fun c11 => ?_) (fun c11 => ?_)
        · have h12 := h10.1 c11
          refine WP.run hP_17 4 (c' := (73, [some (.ref 50), some (.int p0), some (.int p1)], [.int p1, .int p0, .ref 52], Wd f fl g gl hh v tx)) rfl ?_
          refine WP.of (fun _ _ => Ex.iast hP_17 (w2 := Wd f fl (va_up g 52 (upd (g 52) (p0.toNatClampNeg) p1)) gl hh v tx) rfl (Wa_52 _ _ _ _ _ _ _) h12.1 (Ws_52 _ _ _ _ _ _ _ _)) ?_
          have h13 := h12.2
          refine WP.run hP_17 1 (c' := (75, [some (.ref 50), some (.int p0), some (.int p1)], [.int 1], Wd f fl (va_up g 52 (upd (g 52) (p0.toNatClampNeg) p1)) gl hh v tx)) rfl ?_
          exact WP.ret hP_17 (r := some (.int 1)) (w' := Wd f fl (va_up g 52 (upd (g 52) (p0.toNatClampNeg) p1)) gl hh v tx) rfl h13
        · have h14 := h10.2 c11
          refine WP.run hP_17 5 (c' := (56, [some (.ref 50), some (.int p0), some (.int p1)], [.int p0, .int (f 3203), .ref 53], Wd f fl g gl hh v tx)) rfl ?_
          refine WP.of (fun _ _ => Ex.iast hP_17 (w2 := Wd f fl (va_up g 53 (upd (g 53) ((f 3203).toNatClampNeg) p0)) gl hh v tx) rfl (Wa_53 _ _ _ _ _ _ _) h14.1 (Ws_53 _ _ _ _ _ _ _ _)) ?_
          have h15 := h14.2
          refine WP.run hP_17 10 (c' := (73, [some (.ref 50), some (.int p0), some (.int p1)], [.int p1, .int p0, .ref 52], Wd (va_up f 3203 ((f 3203) + (1 : Int32))) fl (va_up g 53 (upd (g 53) ((f 3203).toNatClampNeg) p0)) gl hh v tx)) rfl ?_
          refine WP.of (fun _ _ => Ex.iast hP_17 (w2 := Wd (va_up f 3203 ((f 3203) + (1 : Int32))) fl (va_up (va_up g 53 (upd (g 53) ((f 3203).toNatClampNeg) p0)) 52 (upd (g 52) (p0.toNatClampNeg) p1)) gl hh v tx) rfl (Wa_52 _ _ _ _ _ _ _) h15.1 (Ws_52 _ _ _ _ _ _ _ _)) ?_
          have h16 := h15.2
          refine WP.run hP_17 1 (c' := (75, [some (.ref 50), some (.int p0), some (.int p1)], [.int 1], Wd (va_up f 3203 ((f 3203) + (1 : Int32))) fl (va_up (va_up g 53 (upd (g 53) ((f 3203).toNatClampNeg) p0)) 52 (upd (g 52) (p0.toNatClampNeg) p1)) gl hh v tx)) rfl ?_
          exact WP.ret hP_17 (r := some (.int 1)) (w' := Wd (va_up f 3203 ((f 3203) + (1 : Int32))) fl (va_up (va_up g 53 (upd (g 53) ((f 3203).toNatClampNeg) p0)) 52 (upd (g 52) (p0.toNatClampNeg) p1)) gl hh v tx) rfl h16
    · have h17 := h3.2 c4
      refine WP.run hP_17 1 (c' := (23, [none, none, none], [.int 0], Wd f fl g gl hh v tx)) rfl ?_
      exact WP.ret hP_17 (r := some (.int 0)) (w' := Wd f fl g gl hh v tx) rfl h17
  · have h18 := h.2 c1
    refine WP.run hP_17 2 (c' := (23, [none, none, none], [.int 0], Wd f fl g gl hh v tx)) rfl ?_
    exact WP.ret hP_17 (r := some (.int 0)) (w' := Wd f fl g gl hh v tx) rfl h18

set_option maxRecDepth 20000 in
theorem b_ycb_improve_50_0 (X : mm_X) (d : Nat) (f : Nat → Int32) (fl : Nat → Int64) (g : Nat → Nat → Int32) (gl : Nat → Nat → Int64) (hh : Nat → Nat → Option Nat) (v : Nat → Value) (tx : mm_W) (p0 : Int32)  (P : Option Value → mm_W → Prop)
    (h : WP X (d) 16 (4, [some (.ref 50), some (.int p0), some (.int 0), some (.int 0), none, none, none, none], [], Wd f fl g gl hh v tx) P) :
    WP X (d) 16 (0, [some (.ref 50), some (.int p0), none, none, none, none, none, none], [], Wd f fl g gl hh v tx) P := by
  refine WP.run hP_16 3 (c' := (3, [some (.ref 50), some (.int p0), some (.int 0), none, none, none, none, none], [.int 0], Wd f fl g gl hh v tx)) rfl ?_
  refine WP.run hP_16 1 (c' := (4, [some (.ref 50), some (.int p0), some (.int 0), some (.int 0), none, none, none, none], [], Wd f fl g gl hh v tx)) rfl ?_
  exact h

set_option maxRecDepth 20000 in
theorem b_ycb_improve_50_4 (X : mm_X) (d : Nat) (f : Nat → Int32) (fl : Nat → Int64) (g : Nat → Nat → Int32) (gl : Nat → Nat → Int64) (hh : Nat → Nat → Option Nat) (v : Nat → Value) (tx : mm_W) (l1 : Int32) (l2 : Int32) (l3 : Int32)  (P : Option Value → mm_W → Prop)
    (h : (((f 3203) ≤ l3) → ((l2 = 0 ∨ l2 = 1) ∧ P (some (.int l2)) (Wd f fl g gl hh v tx))) ∧
    ((¬ ((f 3203) ≤ l3)) → ((¬ (l3 < 0 ∨ 128 ≤ l3.toNatClampNeg)) ∧ WP X (d) 16 (23, [some (.ref 50), some (.int l1), some (.int l2), some (.int l3), some (.int ((g 53) l3.toNatClampNeg)), some (.int 0), none, none], [], Wd f fl g gl hh v tx) P))) :
    WP X (d) 16 (4, [some (.ref 50), some (.int l1), some (.int l2), some (.int l3), none, none, none, none], [], Wd f fl g gl hh v tx) P := by
  refine WP.run hP_16 3 (c' := (9, [some (.ref 50), some (.int l1), some (.int l2), some (.int l3), none, none, none, none], [.int (f 3203), .int l3], Wd f fl g gl hh v tx)) rfl ?_
  refine WP.br hP_16 (q := (f 3203) ≤ l3) (t := 127) (f := 12) (L := [some (.ref 50), some (.int l1), some (.int l2), some (.int l3), none, none, none, none]) (st := []) (w := Wd f fl g gl hh v tx) rfl (fun c1 => ?_) (fun c1 => ?_)
  · have h2 := h.1 c1
    refine WP.run hP_16 1 (c' := (128, [none, none, some (.int l2), none, none, none, none, none], [.int l2], Wd f fl g gl hh v tx)) rfl ?_
    exact WP.retZ hP_16 rfl rfl h2.1 h2.2
  · have h3 := h.2 c1
    refine WP.run hP_16 3 (c' := (17, [some (.ref 50), some (.int l1), some (.int l2), some (.int l3), none, none, none, none], [.int l3, .ref 53], Wd f fl g gl hh v tx)) rfl ?_
    refine WP.of (fun _ _ => Ex.iald hP_16 rfl (Wa_53 _ _ _ _ _ _ _) h3.1) ?_
    have h4 := h3.2
    refine WP.run hP_16 2 (c' := (21, [some (.ref 50), some (.int l1), some (.int l2), some (.int l3), some (.int ((g 53) l3.toNatClampNeg)), none, none, none], [.int 0], Wd f fl g gl hh v tx)) rfl ?_
    refine WP.run hP_16 1 (c' := (23, [some (.ref 50), some (.int l1), some (.int l2), some (.int l3), some (.int ((g 53) l3.toNatClampNeg)), some (.int 0), none, none], [], Wd f fl g gl hh v tx)) rfl ?_
    exact h4

set_option maxRecDepth 20000 in
theorem b_ycb_improve_50_23 (X : mm_X) (d : Nat) (f : Nat → Int32) (fl : Nat → Int64) (g : Nat → Nat → Int32) (gl : Nat → Nat → Int64) (hh : Nat → Nat → Option Nat) (v : Nat → Value) (tx : mm_W) (l1 : Int32) (l2 : Int32) (l3 : Int32) (l4 : Int32) (l5 : Int32)  (P : Option Value → mm_W → Prop)
    (h : ((l1 ≤ l5) → WP X (d + 1) 16 (4, [some (.ref 50), some (.int l1), some (.int l2), some (.int (l3 + (1 : Int32))), none, none, none, none], [], Wd f fl g gl hh v tx) P) ∧
    ((¬ (l1 ≤ l5)) → ((¬ (l5 < 0 ∨ 8 ≤ l5.toNatClampNeg)) ∧ WP X (d) 18 (0, [some (.int ((g 51) l5.toNatClampNeg)), some (.int l4), none], [], Wd f fl g gl hh v tx) (fun rv w2 => WP X (d + 1) 16 (41, [some (.ref 50), some (.int l1), some (.int l2), some (.int l3), some (.int l4), some (.int l5), none, none], rv.toList ++ [], w2) P)))) :
    WP X (d + 1) 16 (23, [some (.ref 50), some (.int l1), some (.int l2), some (.int l3), some (.int l4), some (.int l5), none, none], [], Wd f fl g gl hh v tx) P := by
  refine WP.run hP_16 2 (c' := (26, [some (.ref 50), some (.int l1), some (.int l2), some (.int l3), some (.int l4), some (.int l5), none, none], [.int l1, .int l5], Wd f fl g gl hh v tx)) rfl ?_
  refine WP.br hP_16 (q := l1 ≤ l5) (t := 121) (f := 29) (L := [some (.ref 50), some (.int l1), some (.int l2), some (.int l3), some (.int l4), some (.int l5), none, none]) (st := []) (w := Wd f fl g gl hh v tx) rfl (fun c1 => ?_) (fun c1 => ?_)
  · have h2 := h.1 c1
    refine WP.run hP_16 2 (c' := (4, [some (.ref 50), some (.int l1), some (.int l2), some (.int (l3 + (1 : Int32))), none, none, none, none], [], Wd f fl g gl hh v tx)) rfl ?_
    exact h2
  · have h3 := h.2 c1
    refine WP.run hP_16 3 (c' := (35, [some (.ref 50), some (.int l1), some (.int l2), some (.int l3), some (.int l4), some (.int l5), none, none], [.int l5, .ref 51], Wd f fl g gl hh v tx)) rfl ?_
    refine WP.of (fun _ _ => Ex.iald hP_16 rfl (Wa_51 _ _ _ _ _ _ _) h3.1) ?_
    have h4 := h3.2
    refine WP.run hP_16 1 (c' := (38, [some (.ref 50), some (.int l1), some (.int l2), some (.int l3), some (.int l4), some (.int l5), none, none], [.int l4, .int ((g 51) l5.toNatClampNeg)], Wd f fl g gl hh v tx)) rfl ?_
    refine WP.call hP_16 hP_18 (as := [.int ((g 51) l5.toNatClampNeg), .int l4]) (pc' := 41) (L' := [some (.ref 50), some (.int l1), some (.int l2), some (.int l3), some (.int l4), some (.int l5), none, none]) (st' := []) (w1 := Wd f fl g gl hh v tx) rfl ⟨Nat.le_of_ble_eq_true rfl, Nat.le_of_ble_eq_true rfl⟩ rfl ?_
    exact h4

set_option maxRecDepth 20000 in
theorem b_ycb_improve_50_41 (X : mm_X) (d : Nat) (f : Nat → Int32) (fl : Nat → Int64) (g : Nat → Nat → Int32) (gl : Nat → Nat → Int64) (hh : Nat → Nat → Option Nat) (v : Nat → Value) (tx : mm_W) (l1 : Int32) (l2 : Int32) (l3 : Int32) (l4 : Int32) (l5 : Int32) (s0 : Int32)  (P : Option Value → mm_W → Prop)
    (h : (¬ (l5 < 0 ∨ 8 ≤ l5.toNatClampNeg)) ∧ WP X (d) 18 (0, [some (.int l4), some (.int ((g 51) l5.toNatClampNeg)), none], [], Wd f fl g gl hh v tx) (fun rv w2 => WP X (d + 1) 16 (55, [some (.ref 50), some (.int l1), some (.int l2), some (.int l3), some (.int l4), some (.int l5), some (.int s0), none], rv.toList ++ [], w2) P)) :
    WP X (d + 1) 16 (41, [some (.ref 50), some (.int l1), some (.int l2), some (.int l3), some (.int l4), some (.int l5), none, none], [.int s0], Wd f fl g gl hh v tx) P := by
  refine WP.run hP_16 5 (c' := (51, [some (.ref 50), some (.int l1), some (.int l2), some (.int l3), some (.int l4), some (.int l5), some (.int s0), none], [.int l5, .ref 51, .int l4], Wd f fl g gl hh v tx)) rfl ?_
  refine WP.of (fun _ _ => Ex.iald hP_16 rfl (Wa_51 _ _ _ _ _ _ _) h.1) ?_
  have h1 := h.2
  refine WP.call hP_16 hP_18 (as := [.int l4, .int ((g 51) l5.toNatClampNeg)]) (pc' := 55) (L' := [some (.ref 50), some (.int l1), some (.int l2), some (.int l3), some (.int l4), some (.int l5), some (.int s0), none]) (st' := []) (w1 := Wd f fl g gl hh v tx) rfl ⟨Nat.le_of_ble_eq_true rfl, Nat.le_of_ble_eq_true rfl⟩ rfl ?_
  exact h1

set_option maxRecDepth 20000 in
theorem b_ycb_improve_50_55 (X : mm_X) (d : Nat) (f : Nat → Int32) (fl : Nat → Int64) (g : Nat → Nat → Int32) (gl : Nat → Nat → Int64) (hh : Nat → Nat → Option Nat) (v : Nat → Value) (tx : mm_W) (l1 : Int32) (l2 : Int32) (l3 : Int32) (l4 : Int32) (l5 : Int32) (l6 : Int32) (s0 : Int32)  (P : Option Value → mm_W → Prop)
    (h : (¬ (l4 < 0 ∨ 128 ≤ l4.toNatClampNeg)) ∧ WP X (d) 17 (0, [some (.ref 50), some (.int l6), some (.int ((g 52) l4.toNatClampNeg))], [], Wd f fl g gl hh v tx) (fun rv w2 => WP X (d + 1) 16 (70, [some (.ref 50), some (.int l1), some (.int l2), some (.int l3), some (.int l4), some (.int l5), some (.int l6), some (.int s0)], rv.toList ++ [], w2) P)) :
    WP X (d + 1) 16 (55, [some (.ref 50), some (.int l1), some (.int l2), some (.int l3), some (.int l4), some (.int l5), some (.int l6), none], [.int s0], Wd f fl g gl hh v tx) P := by
  refine WP.run hP_16 6 (c' := (66, [some (.ref 50), some (.int l1), some (.int l2), some (.int l3), some (.int l4), some (.int l5), some (.int l6), some (.int s0)], [.int l4, .ref 52, .int l6, .ref 50], Wd f fl g gl hh v tx)) rfl ?_
  refine WP.of (fun _ _ => Ex.iald hP_16 rfl (Wa_52 _ _ _ _ _ _ _) h.1) ?_
  have h1 := h.2
  refine WP.call hP_16 hP_17 (as := [.ref 50, .int l6, .int ((g 52) l4.toNatClampNeg)]) (pc' := 70) (L' := [some (.ref 50), some (.int l1), some (.int l2), some (.int l3), some (.int l4), some (.int l5), some (.int l6), some (.int s0)]) (st' := []) (w1 := Wd f fl g gl hh v tx) rfl ⟨Nat.le_of_ble_eq_true rfl, Nat.le_of_ble_eq_true rfl⟩ rfl ?_
  exact h1

set_option maxRecDepth 20000 in
theorem b_ycb_improve_50_70 (X : mm_X) (d : Nat) (f : Nat → Int32) (fl : Nat → Int64) (g : Nat → Nat → Int32) (gl : Nat → Nat → Int64) (hh : Nat → Nat → Option Nat) (v : Nat → Value) (tx : mm_W) (l1 : Int32) (l2 : Int32) (l3 : Int32) (l4 : Int32) (l5 : Int32) (l6 : Int32) (l7 : Int32) (s0 : Int32)  (P : Option Value → mm_W → Prop)
    (h : ((¬ s0 = 0) → ((¬ (l4 < 0 ∨ 128 ≤ l4.toNatClampNeg)) ∧ WP X (d) 19 (0, [some (.int l7)], [], Wd f fl g gl hh v tx) (fun rv w2 => WP X (d + 1) 16 (98, [some (.ref 50), some (.int l1), some (.int 1), some (.int l3), some (.int l4), some (.int l5), none, some (.int l7)], rv.toList ++ [.int ((g 52) l4.toNatClampNeg), .int l7, .ref 50], w2) P))) ∧
    ((s0 = 0) → (((l2 = 0) → ((¬ (l4 < 0 ∨ 128 ≤ l4.toNatClampNeg)) ∧ WP X (d) 19 (0, [some (.int l7)], [], Wd f fl g gl hh v tx) (fun rv w2 => WP X (d + 1) 16 (98, [some (.ref 50), some (.int l1), some (.int 0), some (.int l3), some (.int l4), some (.int l5), none, some (.int l7)], rv.toList ++ [.int ((g 52) l4.toNatClampNeg), .int l7, .ref 50], w2) P))) ∧
      ((¬ l2 = 0) → ((¬ (l4 < 0 ∨ 128 ≤ l4.toNatClampNeg)) ∧ WP X (d) 19 (0, [some (.int l7)], [], Wd f fl g gl hh v tx) (fun rv w2 => WP X (d + 1) 16 (98, [some (.ref 50), some (.int l1), some (.int 1), some (.int l3), some (.int l4), some (.int l5), none, some (.int l7)], rv.toList ++ [.int ((g 52) l4.toNatClampNeg), .int l7, .ref 50], w2) P)))))) :
    WP X (d + 1) 16 (70, [some (.ref 50), some (.int l1), some (.int l2), some (.int l3), some (.int l4), some (.int l5), some (.int l6), some (.int l7)], [.int s0], Wd f fl g gl hh v tx) P := by
  refine WP.br hP_16 (q := ¬ s0 = 0) (t := 77) (f := 73) (L := [some (.ref 50), some (.int l1), some (.int l2), some (.int l3), some (.int l4), some (.int l5), some (.int l6), some (.int l7)]) (st := []) (w := Wd f fl g gl hh v tx) rfl (fun c1 => ?_) (fun c1 => ?_)
  · have h2 := h.1 c1
    refine WP.run hP_16 2 (c' := (82, [some (.ref 50), some (.int l1), none, some (.int l3), some (.int l4), some (.int l5), none, some (.int l7)], [.int 1], Wd f fl g gl hh v tx)) rfl ?_
    refine WP.run hP_16 6 (c' := (92, [some (.ref 50), some (.int l1), some (.int 1), some (.int l3), some (.int l4), some (.int l5), none, some (.int l7)], [.int l4, .ref 52, .int l7, .ref 50], Wd f fl g gl hh v tx)) rfl ?_
    refine WP.of (fun _ _ => Ex.iald hP_16 rfl (Wa_52 _ _ _ _ _ _ _) h2.1) ?_
    have h3 := h2.2
    refine WP.run hP_16 1 (c' := (95, [some (.ref 50), some (.int l1), some (.int 1), some (.int l3), some (.int l4), some (.int l5), none, some (.int l7)], [.int l7, .int ((g 52) l4.toNatClampNeg), .int l7, .ref 50], Wd f fl g gl hh v tx)) rfl ?_
    refine WP.call hP_16 hP_19 (as := [.int l7]) (pc' := 98) (L' := [some (.ref 50), some (.int l1), some (.int 1), some (.int l3), some (.int l4), some (.int l5), none, some (.int l7)]) (st' := [.int ((g 52) l4.toNatClampNeg), .int l7, .ref 50]) (w1 := Wd f fl g gl hh v tx) rfl ⟨Nat.le_of_ble_eq_true rfl, Nat.le_of_ble_eq_true rfl⟩ rfl ?_
    exact h3
  · have h4 := h.2 (Classical.not_not.mp c1)
    refine WP.run hP_16 1 (c' := (74, [some (.ref 50), some (.int l1), some (.int l2), some (.int l3), some (.int l4), some (.int l5), some (.int l6), some (.int l7)], [.int l2], Wd f fl g gl hh v tx)) rfl ?_
    refine WP.br hP_16 (q := l2 = 0) (t := 81) (f := 77) (L := [some (.ref 50), some (.int l1), some (.int l2), some (.int l3), some (.int l4), some (.int l5), some (.int l6), some (.int l7)]) (st := []) (w := Wd f fl g gl hh v tx) rfl (fun c5 => ?_) (fun c5 => ?_)
    · have h6 := h4.1 c5
      refine WP.run hP_16 1 (c' := (82, [some (.ref 50), some (.int l1), none, some (.int l3), some (.int l4), some (.int l5), none, some (.int l7)], [.int 0], Wd f fl g gl hh v tx)) rfl ?_
      refine WP.run hP_16 6 (c' := (92, [some (.ref 50), some (.int l1), some (.int 0), some (.int l3), some (.int l4), some (.int l5), none, some (.int l7)], [.int l4, .ref 52, .int l7, .ref 50], Wd f fl g gl hh v tx)) rfl ?_
      refine WP.of (fun _ _ => Ex.iald hP_16 rfl (Wa_52 _ _ _ _ _ _ _) h6.1) ?_
      have h7 := h6.2
      refine WP.run hP_16 1 (c' := (95, [some (.ref 50), some (.int l1), some (.int 0), some (.int l3), some (.int l4), some (.int l5), none, some (.int l7)], [.int l7, .int ((g 52) l4.toNatClampNeg), .int l7, .ref 50], Wd f fl g gl hh v tx)) rfl ?_
      refine WP.call hP_16 hP_19 (as := [.int l7]) (pc' := 98) (L' := [some (.ref 50), some (.int l1), some (.int 0), some (.int l3), some (.int l4), some (.int l5), none, some (.int l7)]) (st' := [.int ((g 52) l4.toNatClampNeg), .int l7, .ref 50]) (w1 := Wd f fl g gl hh v tx) rfl ⟨Nat.le_of_ble_eq_true rfl, Nat.le_of_ble_eq_true rfl⟩ rfl ?_
      exact h7
    · have h8 := h4.2 c5
      refine WP.run hP_16 2 (c' := (82, [some (.ref 50), some (.int l1), none, some (.int l3), some (.int l4), some (.int l5), none, some (.int l7)], [.int 1], Wd f fl g gl hh v tx)) rfl ?_
      refine WP.run hP_16 6 (c' := (92, [some (.ref 50), some (.int l1), some (.int 1), some (.int l3), some (.int l4), some (.int l5), none, some (.int l7)], [.int l4, .ref 52, .int l7, .ref 50], Wd f fl g gl hh v tx)) rfl ?_
      refine WP.of (fun _ _ => Ex.iald hP_16 rfl (Wa_52 _ _ _ _ _ _ _) h8.1) ?_
      have h9 := h8.2
      refine WP.run hP_16 1 (c' := (95, [some (.ref 50), some (.int l1), some (.int 1), some (.int l3), some (.int l4), some (.int l5), none, some (.int l7)], [.int l7, .int ((g 52) l4.toNatClampNeg), .int l7, .ref 50], Wd f fl g gl hh v tx)) rfl ?_
      refine WP.call hP_16 hP_19 (as := [.int l7]) (pc' := 98) (L' := [some (.ref 50), some (.int l1), some (.int 1), some (.int l3), some (.int l4), some (.int l5), none, some (.int l7)]) (st' := [.int ((g 52) l4.toNatClampNeg), .int l7, .ref 50]) (w1 := Wd f fl g gl hh v tx) rfl ⟨Nat.le_of_ble_eq_true rfl, Nat.le_of_ble_eq_true rfl⟩ rfl ?_
      exact h9

set_option maxRecDepth 20000 in
theorem b_ycb_improve_50_98 (X : mm_X) (d : Nat) (f : Nat → Int32) (fl : Nat → Int64) (g : Nat → Nat → Int32) (gl : Nat → Nat → Int64) (hh : Nat → Nat → Option Nat) (v : Nat → Value) (tx : mm_W) (l1 : Int32) (l2 : Int32) (l3 : Int32) (l4 : Int32) (l5 : Int32) (l7 : Int32) (s0 : Int32) (s1 : Int32) (s2 : Int32)  (P : Option Value → mm_W → Prop)
    (h : WP X (d) 17 (0, [some (.ref 50), some (.int s2), some (.int (s1 + s0))], [], Wd f fl g gl hh v tx) (fun rv w2 => WP X (d + 1) 16 (102, [some (.ref 50), some (.int l1), some (.int l2), some (.int l3), some (.int l4), some (.int l5), none, some (.int l7)], rv.toList ++ [], w2) P)) :
    WP X (d + 1) 16 (98, [some (.ref 50), some (.int l1), some (.int l2), some (.int l3), some (.int l4), some (.int l5), none, some (.int l7)], [.int s0, .int s1, .int s2, .ref 50], Wd f fl g gl hh v tx) P := by
  refine WP.run hP_16 1 (c' := (99, [some (.ref 50), some (.int l1), some (.int l2), some (.int l3), some (.int l4), some (.int l5), none, some (.int l7)], [.int (s1 + s0), .int s2, .ref 50], Wd f fl g gl hh v tx)) rfl ?_
  refine WP.call hP_16 hP_17 (as := [.ref 50, .int s2, .int (s1 + s0)]) (pc' := 102) (L' := [some (.ref 50), some (.int l1), some (.int l2), some (.int l3), some (.int l4), some (.int l5), none, some (.int l7)]) (st' := []) (w1 := Wd f fl g gl hh v tx) rfl ⟨Nat.le_of_ble_eq_true rfl, Nat.le_of_ble_eq_true rfl⟩ rfl ?_
  exact h

set_option maxRecDepth 20000 in
theorem b_ycb_improve_50_102 (X : mm_X) (d : Nat) (f : Nat → Int32) (fl : Nat → Int64) (g : Nat → Nat → Int32) (gl : Nat → Nat → Int64) (hh : Nat → Nat → Option Nat) (v : Nat → Value) (tx : mm_W) (l1 : Int32) (l2 : Int32) (l3 : Int32) (l4 : Int32) (l5 : Int32) (l7 : Int32) (s0 : Int32)  (P : Option Value → mm_W → Prop)
    (h : ((¬ s0 = 0) → WP X (d) 16 (23, [some (.ref 50), some (.int l1), some (.int 1), some (.int l3), some (.int l4), some (.int (l5 + (1 : Int32))), none, none], [], Wd f fl g gl hh v tx) P) ∧
    ((s0 = 0) → (((l2 = 0) → WP X (d) 16 (23, [some (.ref 50), some (.int l1), some (.int 0), some (.int l3), some (.int l4), some (.int (l5 + (1 : Int32))), none, none], [], Wd f fl g gl hh v tx) P) ∧
      ((¬ l2 = 0) → WP X (d) 16 (23, [some (.ref 50), some (.int l1), some (.int 1), some (.int l3), some (.int l4), some (.int (l5 + (1 : Int32))), none, none], [], Wd f fl g gl hh v tx) P)))) :
    WP X (d) 16 (102, [some (.ref 50), some (.int l1), some (.int l2), some (.int l3), some (.int l4), some (.int l5), none, some (.int l7)], [.int s0], Wd f fl g gl hh v tx) P := by
  refine WP.br hP_16 (q := ¬ s0 = 0) (t := 109) (f := 105) (L := [some (.ref 50), some (.int l1), some (.int l2), some (.int l3), some (.int l4), some (.int l5), none, some (.int l7)]) (st := []) (w := Wd f fl g gl hh v tx) rfl (fun c1 => ?_) (fun c1 => ?_)
  · have h2 := h.1 c1
    refine WP.run hP_16 2 (c' := (114, [some (.ref 50), some (.int l1), none, some (.int l3), some (.int l4), some (.int l5), none, none], [.int 1], Wd f fl g gl hh v tx)) rfl ?_
    refine WP.run hP_16 1 (c' := (115, [some (.ref 50), some (.int l1), some (.int 1), some (.int l3), some (.int l4), some (.int l5), none, none], [], Wd f fl g gl hh v tx)) rfl ?_
    refine WP.run hP_16 2 (c' := (23, [some (.ref 50), some (.int l1), some (.int 1), some (.int l3), some (.int l4), some (.int (l5 + (1 : Int32))), none, none], [], Wd f fl g gl hh v tx)) rfl ?_
    exact h2
  · have h3 := h.2 (Classical.not_not.mp c1)
    refine WP.run hP_16 1 (c' := (106, [some (.ref 50), some (.int l1), some (.int l2), some (.int l3), some (.int l4), some (.int l5), none, some (.int l7)], [.int l2], Wd f fl g gl hh v tx)) rfl ?_
    refine WP.br hP_16 (q := l2 = 0) (t := 113) (f := 109) (L := [some (.ref 50), some (.int l1), some (.int l2), some (.int l3), some (.int l4), some (.int l5), none, some (.int l7)]) (st := []) (w := Wd f fl g gl hh v tx) rfl (fun c4 => ?_) (fun c4 => ?_)
    · have h5 := h3.1 c4
      refine WP.run hP_16 1 (c' := (114, [some (.ref 50), some (.int l1), none, some (.int l3), some (.int l4), some (.int l5), none, none], [.int 0], Wd f fl g gl hh v tx)) rfl ?_
      refine WP.run hP_16 1 (c' := (115, [some (.ref 50), some (.int l1), some (.int 0), some (.int l3), some (.int l4), some (.int l5), none, none], [], Wd f fl g gl hh v tx)) rfl ?_
      refine WP.run hP_16 2 (c' := (23, [some (.ref 50), some (.int l1), some (.int 0), some (.int l3), some (.int l4), some (.int (l5 + (1 : Int32))), none, none], [], Wd f fl g gl hh v tx)) rfl ?_
      exact h5
    · have h6 := h3.2 c4
      refine WP.run hP_16 2 (c' := (114, [some (.ref 50), some (.int l1), none, some (.int l3), some (.int l4), some (.int l5), none, none], [.int 1], Wd f fl g gl hh v tx)) rfl ?_
      refine WP.run hP_16 1 (c' := (115, [some (.ref 50), some (.int l1), some (.int 1), some (.int l3), some (.int l4), some (.int l5), none, none], [], Wd f fl g gl hh v tx)) rfl ?_
      refine WP.run hP_16 2 (c' := (23, [some (.ref 50), some (.int l1), some (.int 1), some (.int l3), some (.int l4), some (.int (l5 + (1 : Int32))), none, none], [], Wd f fl g gl hh v tx)) rfl ?_
      exact h6

set_option maxRecDepth 20000 in
theorem b_ycb_fewest_50_1_0 (X : mm_X) (d : Nat) (f : Nat → Int32) (fl : Nat → Int64) (g : Nat → Nat → Int32) (gl : Nat → Nat → Int64) (hh : Nat → Nat → Option Nat) (v : Nat → Value) (tx : mm_W) (p0 : Int32)  (P : Option Value → mm_W → Prop)
    (h : WP X (d) 15 (5, [some (.ref 50), some (.ref 1), some (.int p0), some (.int 0), some (.int 0), none, none], [], Wd f fl g gl hh v tx) P) :
    WP X (d) 15 (0, [some (.ref 50), some (.ref 1), some (.int p0), none, none, none, none], [], Wd f fl g gl hh v tx) P := by
  refine WP.run hP_15 3 (c' := (3, [some (.ref 50), some (.ref 1), some (.int p0), some (.int 0), none, none, none], [.int 0], Wd f fl g gl hh v tx)) rfl ?_
  refine WP.run hP_15 1 (c' := (5, [some (.ref 50), some (.ref 1), some (.int p0), some (.int 0), some (.int 0), none, none], [], Wd f fl g gl hh v tx)) rfl ?_
  exact h

set_option maxRecDepth 20000 in
theorem b_ycb_fewest_50_1_5 (X : mm_X) (d : Nat) (f : Nat → Int32) (fl : Nat → Int64) (g : Nat → Nat → Int32) (gl : Nat → Nat → Int64) (hh : Nat → Nat → Option Nat) (v : Nat → Value) (tx : mm_W) (l2 : Int32) (l3 : Int32) (l4 : Int32)  (P : Option Value → mm_W → Prop)
    (h : (((f 64) ≤ l4) → WP X (d) 258 (0, [some (.ref 52), some (.int 1000000), none, none], [], Wd f fl g gl hh v tx) (fun rv w2 => WP X (d + 1) 15 (67, [some (.ref 50), none, none, some (.int l3), none, none, none], rv.toList ++ [], w2) P)) ∧
    ((¬ ((f 64) ≤ l4)) → (((¬ (((l2 >>> (l4 &&& (31 : Int32))) : Int32) &&& (1 : Int32)) = 1) → WP X (d + 1) 15 (5, [some (.ref 50), some (.ref 1), some (.int l2), some (.int l3), some (.int (l4 + (1 : Int32))), none, none], [], Wd f fl g gl hh v tx) P) ∧
      (((((l2 >>> (l4 &&& (31 : Int32))) : Int32) &&& (1 : Int32)) = 1) → ((¬ (l4 < 0 ∨ 8 ≤ l4.toNatClampNeg)) ∧ ((¬ (l4 < 0 ∨ 8 ≤ l4.toNatClampNeg)) ∧ ((¬ (l3 < 0 ∨ 8 ≤ l3.toNatClampNeg)) ∧ WP X (d + 1) 15 (5, [some (.ref 50), some (.ref 1), some (.int l2), some (.int (l3 + (1 : Int32))), some (.int (l4 + (1 : Int32))), none, none], [], Wd f fl (va_up g 51 (upd (g 51) (l3.toNatClampNeg) ((((1 : Int32) <<< (((2 : Int32) * ((g 3) l4.toNatClampNeg)) &&& (31 : Int32))) : Int32) ||| ((g 2) l4.toNatClampNeg)))) gl hh v tx) P))))))) :
    WP X (d + 1) 15 (5, [some (.ref 50), some (.ref 1), some (.int l2), some (.int l3), some (.int l4), none, none], [], Wd f fl g gl hh v tx) P := by
  refine WP.run hP_15 3 (c' := (11, [some (.ref 50), some (.ref 1), some (.int l2), some (.int l3), some (.int l4), none, none], [.int (f 64), .int l4], Wd f fl g gl hh v tx)) rfl ?_
  refine WP.br hP_15 (q := (f 64) ≤ l4) (t := 58) (f := 14) (L := [some (.ref 50), some (.ref 1), some (.int l2), some (.int l3), some (.int l4), none, none]) (st := []) (w := Wd f fl g gl hh v tx) rfl (fun c1 => ?_) (fun c1 => ?_)
  · have h2 := h.1 c1
    refine WP.run hP_15 3 (c' := (64, [some (.ref 50), none, none, some (.int l3), none, none, none], [.int 1000000, .ref 52], Wd f fl g gl hh v tx)) rfl ?_
    refine WP.call hP_15 hP_258 (as := [.ref 52, .int 1000000]) (pc' := 67) (L' := [some (.ref 50), none, none, some (.int l3), none, none, none]) (st' := []) (w1 := Wd f fl g gl hh v tx) rfl ⟨Nat.le_of_ble_eq_true rfl, Nat.le_of_ble_eq_true rfl⟩ rfl ?_
    exact h2
  · have h3 := h.2 c1
    refine WP.run hP_15 6 (c' := (21, [some (.ref 50), some (.ref 1), some (.int l2), some (.int l3), some (.int l4), none, none], [.int 1, .int (((l2 >>> (l4 &&& (31 : Int32))) : Int32) &&& (1 : Int32))], Wd f fl g gl hh v tx)) rfl ?_
    refine WP.br hP_15 (q := ¬ (((l2 >>> (l4 &&& (31 : Int32))) : Int32) &&& (1 : Int32)) = 1) (t := 52) (f := 24) (L := [some (.ref 50), some (.ref 1), some (.int l2), some (.int l3), some (.int l4), none, none]) (st := []) (w := Wd f fl g gl hh v tx) rfl (fun c4 => ?_) (fun c4 => ?_)
    · have h5 := h3.1 c4
      refine WP.run hP_15 2 (c' := (5, [some (.ref 50), some (.ref 1), some (.int l2), some (.int l3), some (.int (l4 + (1 : Int32))), none, none], [], Wd f fl g gl hh v tx)) rfl ?_
      exact h5
    · have h6 := h3.2 (Classical.not_not.mp c4)
      refine WP.run hP_15 8 (c' := (37, [some (.ref 50), some (.ref 1), some (.int l2), some (.int l3), some (.int l4), none, none], [.int l4, .ref 3, .int 2, .int 1, .int l3, .ref 51], Wd f fl g gl hh v tx)) rfl ?_
      refine WP.of (fun _ _ => Ex.iald hP_15 rfl (Wa_3 _ _ _ _ _ _ _) h6.1) ?_
      have h7 := h6.2
      refine WP.run hP_15 5 (c' := (46, [some (.ref 50), some (.ref 1), some (.int l2), some (.int l3), some (.int l4), none, none], [.int l4, .ref 2, .int (((1 : Int32) <<< (((2 : Int32) * ((g 3) l4.toNatClampNeg)) &&& (31 : Int32))) : Int32), .int l3, .ref 51], Wd f fl g gl hh v tx)) rfl ?_
      refine WP.of (fun _ _ => Ex.iald hP_15 rfl (Wa_2 _ _ _ _ _ _ _) h7.1) ?_
      have h8 := h7.2
      refine WP.run hP_15 1 (c' := (48, [some (.ref 50), some (.ref 1), some (.int l2), some (.int l3), some (.int l4), none, none], [.int ((((1 : Int32) <<< (((2 : Int32) * ((g 3) l4.toNatClampNeg)) &&& (31 : Int32))) : Int32) ||| ((g 2) l4.toNatClampNeg)), .int l3, .ref 51], Wd f fl g gl hh v tx)) rfl ?_
      refine WP.of (fun _ _ => Ex.iast hP_15 (w2 := Wd f fl (va_up g 51 (upd (g 51) (l3.toNatClampNeg) ((((1 : Int32) <<< (((2 : Int32) * ((g 3) l4.toNatClampNeg)) &&& (31 : Int32))) : Int32) ||| ((g 2) l4.toNatClampNeg)))) gl hh v tx) rfl (Wa_51 _ _ _ _ _ _ _) h8.1 (Ws_51 _ _ _ _ _ _ _ _)) ?_
      have h9 := h8.2
      refine WP.run hP_15 1 (c' := (52, [some (.ref 50), some (.ref 1), some (.int l2), some (.int (l3 + (1 : Int32))), some (.int l4), none, none], [], Wd f fl (va_up g 51 (upd (g 51) (l3.toNatClampNeg) ((((1 : Int32) <<< (((2 : Int32) * ((g 3) l4.toNatClampNeg)) &&& (31 : Int32))) : Int32) ||| ((g 2) l4.toNatClampNeg)))) gl hh v tx)) rfl ?_
      refine WP.run hP_15 2 (c' := (5, [some (.ref 50), some (.ref 1), some (.int l2), some (.int (l3 + (1 : Int32))), some (.int (l4 + (1 : Int32))), none, none], [], Wd f fl (va_up g 51 (upd (g 51) (l3.toNatClampNeg) ((((1 : Int32) <<< (((2 : Int32) * ((g 3) l4.toNatClampNeg)) &&& (31 : Int32))) : Int32) ||| ((g 2) l4.toNatClampNeg)))) gl hh v tx)) rfl ?_
      exact h9

set_option maxRecDepth 20000 in
theorem b_ycb_fewest_50_1_67 (X : mm_X) (d : Nat) (f : Nat → Int32) (fl : Nat → Int64) (g : Nat → Nat → Int32) (gl : Nat → Nat → Int64) (hh : Nat → Nat → Option Nat) (v : Nat → Value) (tx : mm_W) (l3 : Int32)  (P : Option Value → mm_W → Prop)
    (h : WP X (d) 15 (75, [some (.ref 50), none, none, some (.int l3), some (.int 0), none, none], [], Wd (va_up f 3203 0) fl g gl hh v tx) P) :
    WP X (d) 15 (67, [some (.ref 50), none, none, some (.int l3), none, none, none], [], Wd f fl g gl hh v tx) P := by
  refine WP.run hP_15 5 (c' := (75, [some (.ref 50), none, none, some (.int l3), some (.int 0), none, none], [], Wd (va_up f 3203 0) fl g gl hh v tx)) rfl ?_
  exact h

set_option maxRecDepth 20000 in
theorem b_ycb_fewest_50_1_75 (X : mm_X) (d : Nat) (f : Nat → Int32) (fl : Nat → Int64) (g : Nat → Nat → Int32) (gl : Nat → Nat → Int64) (hh : Nat → Nat → Option Nat) (v : Nat → Value) (tx : mm_W) (l3 : Int32) (l4 : Int32)  (P : Option Value → mm_W → Prop)
    (h : ((l3 ≤ l4) → ((((f 3203) ≤ 0) → WP X (d) 15 (151, [some (.ref 50), none, none, some (.int l3), some (.int 0), some (.int 0), none], [], Wd f fl g gl hh v tx) P) ∧
      ((¬ ((f 3203) ≤ 0)) → WP X (d) 15 (151, [some (.ref 50), none, none, some (.int l3), some (.int 1), some (.int 0), none], [], Wd f fl g gl hh v tx) P))) ∧
    ((¬ (l3 ≤ l4)) → WP X (d) 15 (84, [some (.ref 50), none, none, some (.int l3), some (.int l4), some (.int 0), none], [], Wd f fl g gl hh v tx) P)) :
    WP X (d) 15 (75, [some (.ref 50), none, none, some (.int l3), some (.int l4), none, none], [], Wd f fl g gl hh v tx) P := by
  refine WP.run hP_15 2 (c' := (78, [some (.ref 50), none, none, some (.int l3), some (.int l4), none, none], [.int l3, .int l4], Wd f fl g gl hh v tx)) rfl ?_
  refine WP.br hP_15 (q := l3 ≤ l4) (t := 134) (f := 81) (L := [some (.ref 50), none, none, some (.int l3), some (.int l4), none, none]) (st := []) (w := Wd f fl g gl hh v tx) rfl (fun c1 => ?_) (fun c1 => ?_)
  · have h2 := h.1 c1
    refine WP.run hP_15 2 (c' := (138, [some (.ref 50), none, none, some (.int l3), none, none, none], [.int (f 3203)], Wd f fl g gl hh v tx)) rfl ?_
    refine WP.br hP_15 (q := (f 3203) ≤ 0) (t := 145) (f := 141) (L := [some (.ref 50), none, none, some (.int l3), none, none, none]) (st := []) (w := Wd f fl g gl hh v tx) rfl (fun c3 => ?_) (fun c3 => ?_)
    · have h4 := h2.1 c3
      refine WP.run hP_15 1 (c' := (146, [some (.ref 50), none, none, some (.int l3), none, none, none], [.int 0], Wd f fl g gl hh v tx)) rfl ?_
      refine WP.run hP_15 2 (c' := (149, [some (.ref 50), none, none, some (.int l3), some (.int 0), none, none], [.int 0], Wd f fl g gl hh v tx)) rfl ?_
      refine WP.run hP_15 1 (c' := (151, [some (.ref 50), none, none, some (.int l3), some (.int 0), some (.int 0), none], [], Wd f fl g gl hh v tx)) rfl ?_
      exact h4
    · have h5 := h2.2 c3
      refine WP.run hP_15 4 (c' := (149, [some (.ref 50), none, none, some (.int l3), some (.int 1), none, none], [.int 0], Wd f fl g gl hh v tx)) rfl ?_
      refine WP.run hP_15 1 (c' := (151, [some (.ref 50), none, none, some (.int l3), some (.int 1), some (.int 0), none], [], Wd f fl g gl hh v tx)) rfl ?_
      exact h5
  · have h6 := h.2 c1
    refine WP.run hP_15 2 (c' := (84, [some (.ref 50), none, none, some (.int l3), some (.int l4), some (.int 0), none], [], Wd f fl g gl hh v tx)) rfl ?_
    exact h6

set_option maxRecDepth 20000 in
theorem b_ycb_fewest_50_1_151 (X : mm_X) (d : Nat) (f : Nat → Int32) (fl : Nat → Int64) (g : Nat → Nat → Int32) (gl : Nat → Nat → Int64) (hh : Nat → Nat → Option Nat) (v : Nat → Value) (tx : mm_W) (l3 : Int32) (l4 : Int32) (l5 : Int32)  (P : Option Value → mm_W → Prop)
    (h : ((128 ≤ l5) → WP X (d + 1) 15 (186, [some (.ref 50), none, none, some (.int l3), none, some (.int 1000000), some (.int 0)], [], Wd f fl g gl hh v tx) P) ∧
    ((¬ (128 ≤ l5)) → (((l4 = 0) → WP X (d + 1) 15 (186, [some (.ref 50), none, none, some (.int l3), none, some (.int 1000000), some (.int 0)], [], Wd f fl g gl hh v tx) P) ∧
      ((¬ l4 = 0) → WP X (d) 16 (0, [some (.ref 50), some (.int l3), none, none, none, none, none, none], [], Wd f fl g gl hh v tx) (fun rv w2 => WP X (d + 1) 15 (171, [some (.ref 50), none, none, some (.int l3), some (.int l4), some (.int l5), none], rv.toList ++ [], w2) P))))) :
    WP X (d + 1) 15 (151, [some (.ref 50), none, none, some (.int l3), some (.int l4), some (.int l5), none], [], Wd f fl g gl hh v tx) P := by
  refine WP.run hP_15 4 (c' := (158, [some (.ref 50), none, none, some (.int l3), some (.int l4), some (.int l5), none], [.int 128, .int l5], Wd f fl g gl hh v tx)) rfl ?_
  refine WP.br hP_15 (q := 128 ≤ l5) (t := 179) (f := 161) (L := [some (.ref 50), none, none, some (.int l3), some (.int l4), some (.int l5), none]) (st := []) (w := Wd f fl g gl hh v tx) rfl (fun c1 => ?_) (fun c1 => ?_)
  · have h2 := h.1 c1
    refine WP.run hP_15 1 (c' := (181, [some (.ref 50), none, none, some (.int l3), none, none, none], [.int 1000000], Wd f fl g gl hh v tx)) rfl ?_
    refine WP.run hP_15 2 (c' := (184, [some (.ref 50), none, none, some (.int l3), none, some (.int 1000000), none], [.int 0], Wd f fl g gl hh v tx)) rfl ?_
    refine WP.run hP_15 1 (c' := (186, [some (.ref 50), none, none, some (.int l3), none, some (.int 1000000), some (.int 0)], [], Wd f fl g gl hh v tx)) rfl ?_
    exact h2
  · have h3 := h.2 c1
    refine WP.run hP_15 1 (c' := (163, [some (.ref 50), none, none, some (.int l3), some (.int l4), some (.int l5), none], [.int l4], Wd f fl g gl hh v tx)) rfl ?_
    refine WP.br hP_15 (q := l4 = 0) (t := 179) (f := 166) (L := [some (.ref 50), none, none, some (.int l3), some (.int l4), some (.int l5), none]) (st := []) (w := Wd f fl g gl hh v tx) rfl (fun c4 => ?_) (fun c4 => ?_)
    · have h5 := h3.1 c4
      refine WP.run hP_15 1 (c' := (181, [some (.ref 50), none, none, some (.int l3), none, none, none], [.int 1000000], Wd f fl g gl hh v tx)) rfl ?_
      refine WP.run hP_15 2 (c' := (184, [some (.ref 50), none, none, some (.int l3), none, some (.int 1000000), none], [.int 0], Wd f fl g gl hh v tx)) rfl ?_
      refine WP.run hP_15 1 (c' := (186, [some (.ref 50), none, none, some (.int l3), none, some (.int 1000000), some (.int 0)], [], Wd f fl g gl hh v tx)) rfl ?_
      exact h5
    · have h6 := h3.2 c4
      refine WP.run hP_15 2 (c' := (168, [some (.ref 50), none, none, some (.int l3), some (.int l4), some (.int l5), none], [.int l3, .ref 50], Wd f fl g gl hh v tx)) rfl ?_
      refine WP.call hP_15 hP_16 (as := [.ref 50, .int l3]) (pc' := 171) (L' := [some (.ref 50), none, none, some (.int l3), some (.int l4), some (.int l5), none]) (st' := []) (w1 := Wd f fl g gl hh v tx) rfl ⟨Nat.le_of_ble_eq_true rfl, Nat.le_of_ble_eq_true rfl⟩ rfl ?_
      exact h6

set_option maxRecDepth 20000 in
theorem b_ycb_fewest_50_1_84 (X : mm_X) (d : Nat) (f : Nat → Int32) (fl : Nat → Int64) (g : Nat → Nat → Int32) (gl : Nat → Nat → Int64) (hh : Nat → Nat → Option Nat) (v : Nat → Value) (tx : mm_W) (l3 : Int32) (l4 : Int32) (l5 : Int32)  (P : Option Value → mm_W → Prop)
    (h : ((l3 ≤ l5) → WP X (d + 1) 15 (75, [some (.ref 50), none, none, some (.int l3), some (.int (l4 + (1 : Int32))), none, none], [], Wd f fl g gl hh v tx) P) ∧
    ((¬ (l3 ≤ l5)) → ((¬ (l4 < 0 ∨ 8 ≤ l4.toNatClampNeg)) ∧ ((¬ (l5 < 0 ∨ 8 ≤ l5.toNatClampNeg)) ∧ WP X (d) 18 (0, [some (.int ((g 51) l4.toNatClampNeg)), some (.int ((g 51) l5.toNatClampNeg)), none], [], Wd f fl g gl hh v tx) (fun rv w2 => WP X (d + 1) 15 (108, [some (.ref 50), none, none, some (.int l3), some (.int l4), some (.int l5), none], rv.toList ++ [.ref 50], w2) P))))) :
    WP X (d + 1) 15 (84, [some (.ref 50), none, none, some (.int l3), some (.int l4), some (.int l5), none], [], Wd f fl g gl hh v tx) P := by
  refine WP.run hP_15 2 (c' := (87, [some (.ref 50), none, none, some (.int l3), some (.int l4), some (.int l5), none], [.int l3, .int l5], Wd f fl g gl hh v tx)) rfl ?_
  refine WP.br hP_15 (q := l3 ≤ l5) (t := 128) (f := 90) (L := [some (.ref 50), none, none, some (.int l3), some (.int l4), some (.int l5), none]) (st := []) (w := Wd f fl g gl hh v tx) rfl (fun c1 => ?_) (fun c1 => ?_)
  · have h2 := h.1 c1
    refine WP.run hP_15 2 (c' := (75, [some (.ref 50), none, none, some (.int l3), some (.int (l4 + (1 : Int32))), none, none], [], Wd f fl g gl hh v tx)) rfl ?_
    exact h2
  · have h3 := h.2 c1
    refine WP.run hP_15 4 (c' := (97, [some (.ref 50), none, none, some (.int l3), some (.int l4), some (.int l5), none], [.int l4, .ref 51, .ref 50], Wd f fl g gl hh v tx)) rfl ?_
    refine WP.of (fun _ _ => Ex.iald hP_15 rfl (Wa_51 _ _ _ _ _ _ _) h3.1) ?_
    have h4 := h3.2
    refine WP.run hP_15 3 (c' := (104, [some (.ref 50), none, none, some (.int l3), some (.int l4), some (.int l5), none], [.int l5, .ref 51, .int ((g 51) l4.toNatClampNeg), .ref 50], Wd f fl g gl hh v tx)) rfl ?_
    refine WP.of (fun _ _ => Ex.iald hP_15 rfl (Wa_51 _ _ _ _ _ _ _) h4.1) ?_
    have h5 := h4.2
    refine WP.call hP_15 hP_18 (as := [.int ((g 51) l4.toNatClampNeg), .int ((g 51) l5.toNatClampNeg)]) (pc' := 108) (L' := [some (.ref 50), none, none, some (.int l3), some (.int l4), some (.int l5), none]) (st' := [.ref 50]) (w1 := Wd f fl g gl hh v tx) rfl ⟨Nat.le_of_ble_eq_true rfl, Nat.le_of_ble_eq_true rfl⟩ rfl ?_
    exact h5

set_option maxRecDepth 20000 in
theorem b_ycb_fewest_50_1_186 (X : mm_X) (d : Nat) (f : Nat → Int32) (fl : Nat → Int64) (g : Nat → Nat → Int32) (gl : Nat → Nat → Int64) (hh : Nat → Nat → Option Nat) (v : Nat → Value) (tx : mm_W) (l3 : Int32) (l5 : Int32) (l6 : Int32)  (P : Option Value → mm_W → Prop)
    (h : ((l3 ≤ l6) → P (some (.int l5)) (Wd f fl g gl hh v tx)) ∧
    ((¬ (l3 ≤ l6)) → ((¬ (l6 < 0 ∨ 8 ≤ l6.toNatClampNeg)) ∧ (((128 ≤ ((g 51) l6.toNatClampNeg)) → WP X (d) 15 (186, [some (.ref 50), none, none, some (.int l3), none, some (.int (if 1000000 < l5 then 1000000 else l5)), some (.int (l6 + (1 : Int32)))], [], Wd f fl g gl hh v tx) P) ∧
      ((¬ (128 ≤ ((g 51) l6.toNatClampNeg))) → ((¬ (l6 < 0 ∨ 8 ≤ l6.toNatClampNeg)) ∧ ((¬ (((g 51) l6.toNatClampNeg) < 0 ∨ 128 ≤ ((g 51) l6.toNatClampNeg).toNatClampNeg)) ∧ WP X (d) 15 (186, [some (.ref 50), none, none, some (.int l3), none, some (.int (if ((g 52) ((g 51) l6.toNatClampNeg).toNatClampNeg) < l5 then ((g 52) ((g 51) l6.toNatClampNeg).toNatClampNeg) else l5)), some (.int (l6 + (1 : Int32)))], [], Wd f fl g gl hh v tx) P))))))) :
    WP X (d) 15 (186, [some (.ref 50), none, none, some (.int l3), none, some (.int l5), some (.int l6)], [], Wd f fl g gl hh v tx) P := by
  refine WP.run hP_15 2 (c' := (189, [some (.ref 50), none, none, some (.int l3), none, some (.int l5), some (.int l6)], [.int l3, .int l6], Wd f fl g gl hh v tx)) rfl ?_
  refine WP.br hP_15 (q := l3 ≤ l6) (t := 237) (f := 192) (L := [some (.ref 50), none, none, some (.int l3), none, some (.int l5), some (.int l6)]) (st := []) (w := Wd f fl g gl hh v tx) rfl (fun c1 => ?_) (fun c1 => ?_)
  · have h2 := h.1 c1
    refine WP.run hP_15 1 (c' := (239, [none, none, none, none, none, some (.int l5), none], [.int l5], Wd f fl g gl hh v tx)) rfl ?_
    exact WP.retI hP_15 rfl rfl h2
  · have h3 := h.2 c1
    refine WP.run hP_15 4 (c' := (200, [some (.ref 50), none, none, some (.int l3), none, some (.int l5), some (.int l6)], [.int l6, .ref 51, .int l5], Wd f fl g gl hh v tx)) rfl ?_
    refine WP.of (fun _ _ => Ex.iald hP_15 rfl (Wa_51 _ _ _ _ _ _ _) h3.1) ?_
    have h4 := h3.2
    refine WP.run hP_15 3 (c' := (206, [some (.ref 50), none, none, some (.int l3), none, some (.int l5), some (.int l6)], [.int 128, .int ((g 51) l6.toNatClampNeg), .int l5], Wd f fl g gl hh v tx)) rfl ?_
    refine WP.br hP_15 (q := 128 ≤ ((g 51) l6.toNatClampNeg)) (t := 224) (f := 209) (L := [some (.ref 50), none, none, some (.int l3), none, some (.int l5), some (.int l6)]) (st := [.int l5]) (w := Wd f fl g gl hh v tx) rfl (fun c5 => ?_) (fun c5 => ?_)
    · have h6 := h4.1 c5
      refine WP.run hP_15 1 (c' := (226, [some (.ref 50), none, none, some (.int l3), none, none, some (.int l6)], [.int 1000000, .int l5], Wd f fl g gl hh v tx)) rfl ?_
      refine WP.run hP_15 1 (c' := (229, [some (.ref 50), none, none, some (.int l3), none, none, some (.int l6)], [.int (if 1000000 < l5 then 1000000 else l5)], Wd f fl g gl hh v tx)) rfl ?_
      refine WP.run hP_15 1 (c' := (231, [some (.ref 50), none, none, some (.int l3), none, some (.int (if 1000000 < l5 then 1000000 else l5)), some (.int l6)], [], Wd f fl g gl hh v tx)) rfl ?_
      refine WP.run hP_15 2 (c' := (186, [some (.ref 50), none, none, some (.int l3), none, some (.int (if 1000000 < l5 then 1000000 else l5)), some (.int (l6 + (1 : Int32)))], [], Wd f fl g gl hh v tx)) rfl ?_
      exact h6
    · have h7 := h4.2 c5
      refine WP.run hP_15 5 (c' := (219, [some (.ref 50), none, none, some (.int l3), none, some (.int l5), some (.int l6)], [.int l6, .ref 51, .ref 52, .int l5], Wd f fl g gl hh v tx)) rfl ?_
      refine WP.of (fun _ _ => Ex.iald hP_15 rfl (Wa_51 _ _ _ _ _ _ _) h7.1) ?_
      have h8 := h7.2
      refine WP.of (fun _ _ => Ex.iald hP_15 rfl (Wa_52 _ _ _ _ _ _ _) h8.1) ?_
      have h9 := h8.2
      refine WP.run hP_15 2 (c' := (229, [some (.ref 50), none, none, some (.int l3), none, none, some (.int l6)], [.int (if ((g 52) ((g 51) l6.toNatClampNeg).toNatClampNeg) < l5 then ((g 52) ((g 51) l6.toNatClampNeg).toNatClampNeg) else l5)], Wd f fl g gl hh v tx)) rfl ?_
      refine WP.run hP_15 1 (c' := (231, [some (.ref 50), none, none, some (.int l3), none, some (.int (if ((g 52) ((g 51) l6.toNatClampNeg).toNatClampNeg) < l5 then ((g 52) ((g 51) l6.toNatClampNeg).toNatClampNeg) else l5)), some (.int l6)], [], Wd f fl g gl hh v tx)) rfl ?_
      refine WP.run hP_15 2 (c' := (186, [some (.ref 50), none, none, some (.int l3), none, some (.int (if ((g 52) ((g 51) l6.toNatClampNeg).toNatClampNeg) < l5 then ((g 52) ((g 51) l6.toNatClampNeg).toNatClampNeg) else l5)), some (.int (l6 + (1 : Int32)))], [], Wd f fl g gl hh v tx)) rfl ?_
      exact h9

set_option maxRecDepth 20000 in
theorem b_ycb_fewest_50_1_171 (X : mm_X) (d : Nat) (f : Nat → Int32) (fl : Nat → Int64) (g : Nat → Nat → Int32) (gl : Nat → Nat → Int64) (hh : Nat → Nat → Option Nat) (v : Nat → Value) (tx : mm_W) (l3 : Int32) (l4 : Int32) (l5 : Int32) (s0 : Int32)  (P : Option Value → mm_W → Prop)
    (h : WP X (d) 15 (151, [some (.ref 50), none, none, some (.int l3), some (.int s0), some (.int (l5 + (1 : Int32))), none], [], Wd f fl g gl hh v tx) P) :
    WP X (d) 15 (171, [some (.ref 50), none, none, some (.int l3), some (.int l4), some (.int l5), none], [.int s0], Wd f fl g gl hh v tx) P := by
  refine WP.run hP_15 1 (c' := (173, [some (.ref 50), none, none, some (.int l3), some (.int s0), some (.int l5), none], [], Wd f fl g gl hh v tx)) rfl ?_
  refine WP.run hP_15 2 (c' := (151, [some (.ref 50), none, none, some (.int l3), some (.int s0), some (.int (l5 + (1 : Int32))), none], [], Wd f fl g gl hh v tx)) rfl ?_
  exact h

set_option maxRecDepth 20000 in
theorem b_ycb_fewest_50_1_108 (X : mm_X) (d : Nat) (f : Nat → Int32) (fl : Nat → Int64) (g : Nat → Nat → Int32) (gl : Nat → Nat → Int64) (hh : Nat → Nat → Option Nat) (v : Nat → Value) (tx : mm_W) (l3 : Int32) (l4 : Int32) (l5 : Int32) (s0 : Int32)  (P : Option Value → mm_W → Prop)
    (h : (¬ (l5 < 0 ∨ 8 ≤ l5.toNatClampNeg)) ∧ WP X (d) 19 (0, [some (.int ((g 51) l5.toNatClampNeg))], [], Wd f fl g gl hh v tx) (fun rv w2 => WP X (d + 1) 15 (118, [some (.ref 50), none, none, some (.int l3), some (.int l4), some (.int l5), none], rv.toList ++ [.int s0, .ref 50], w2) P)) :
    WP X (d + 1) 15 (108, [some (.ref 50), none, none, some (.int l3), some (.int l4), some (.int l5), none], [.int s0, .ref 50], Wd f fl g gl hh v tx) P := by
  refine WP.run hP_15 3 (c' := (114, [some (.ref 50), none, none, some (.int l3), some (.int l4), some (.int l5), none], [.int l5, .ref 51, .int s0, .ref 50], Wd f fl g gl hh v tx)) rfl ?_
  refine WP.of (fun _ _ => Ex.iald hP_15 rfl (Wa_51 _ _ _ _ _ _ _) h.1) ?_
  have h1 := h.2
  refine WP.call hP_15 hP_19 (as := [.int ((g 51) l5.toNatClampNeg)]) (pc' := 118) (L' := [some (.ref 50), none, none, some (.int l3), some (.int l4), some (.int l5), none]) (st' := [.int s0, .ref 50]) (w1 := Wd f fl g gl hh v tx) rfl ⟨Nat.le_of_ble_eq_true rfl, Nat.le_of_ble_eq_true rfl⟩ rfl ?_
  exact h1

set_option maxRecDepth 20000 in
theorem b_ycb_fewest_50_1_118 (X : mm_X) (d : Nat) (f : Nat → Int32) (fl : Nat → Int64) (g : Nat → Nat → Int32) (gl : Nat → Nat → Int64) (hh : Nat → Nat → Option Nat) (v : Nat → Value) (tx : mm_W) (l3 : Int32) (l4 : Int32) (l5 : Int32) (s0 : Int32) (s1 : Int32)  (P : Option Value → mm_W → Prop)
    (h : WP X (d) 17 (0, [some (.ref 50), some (.int s1), some (.int s0)], [], Wd f fl g gl hh v tx) (fun rv w2 => WP X (d + 1) 15 (121, [some (.ref 50), none, none, some (.int l3), some (.int l4), some (.int l5), none], rv.toList ++ [], w2) P)) :
    WP X (d + 1) 15 (118, [some (.ref 50), none, none, some (.int l3), some (.int l4), some (.int l5), none], [.int s0, .int s1, .ref 50], Wd f fl g gl hh v tx) P := by
  refine WP.call hP_15 hP_17 (as := [.ref 50, .int s1, .int s0]) (pc' := 121) (L' := [some (.ref 50), none, none, some (.int l3), some (.int l4), some (.int l5), none]) (st' := []) (w1 := Wd f fl g gl hh v tx) rfl ⟨Nat.le_of_ble_eq_true rfl, Nat.le_of_ble_eq_true rfl⟩ rfl ?_
  exact h

set_option maxRecDepth 20000 in
theorem b_ycb_fewest_50_1_121 (X : mm_X) (d : Nat) (f : Nat → Int32) (fl : Nat → Int64) (g : Nat → Nat → Int32) (gl : Nat → Nat → Int64) (hh : Nat → Nat → Option Nat) (v : Nat → Value) (tx : mm_W) (l3 : Int32) (l4 : Int32) (l5 : Int32) (s0 : Int32)  (P : Option Value → mm_W → Prop)
    (h : WP X (d) 15 (84, [some (.ref 50), none, none, some (.int l3), some (.int l4), some (.int (l5 + (1 : Int32))), none], [], Wd f fl g gl hh v tx) P) :
    WP X (d) 15 (121, [some (.ref 50), none, none, some (.int l3), some (.int l4), some (.int l5), none], [.int s0], Wd f fl g gl hh v tx) P := by
  refine WP.run hP_15 3 (c' := (84, [some (.ref 50), none, none, some (.int l3), some (.int l4), some (.int (l5 + (1 : Int32))), none], [], Wd f fl g gl hh v tx)) rfl ?_
  exact h
