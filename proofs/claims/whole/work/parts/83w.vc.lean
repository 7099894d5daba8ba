set_option maxRecDepth 20000 in
theorem b_ycb_size_0 (X : mm_X) (d : Nat) (f : Nat → Int32) (fl : Nat → Int64) (g : Nat → Nat → Int32) (gl : Nat → Nat → Int64) (hh : Nat → Nat → Option Nat) (v : Nat → Value) (tx : mm_W) (p0 : Int32)  (P : Option Value → mm_W → Prop)
    (h : ((4 ≤ p0) → (((16 ≤ p0) → (((64 ≤ p0) → (((256 ≤ p0) → P (some (.int 4)) (Wd f fl g gl hh v tx)) ∧
          ((¬ (256 ≤ p0)) → P (some (.int 3)) (Wd f fl g gl hh v tx)))) ∧
        ((¬ (64 ≤ p0)) → P (some (.int 2)) (Wd f fl g gl hh v tx)))) ∧
      ((¬ (16 ≤ p0)) → P (some (.int 1)) (Wd f fl g gl hh v tx)))) ∧
    ((¬ (4 ≤ p0)) → P (some (.int 0)) (Wd f fl g gl hh v tx))) :
    WP X (d) 19 (0, [some (.int p0)], [], Wd f fl g gl hh v tx) P := by
  refine WP.run hP_19 2 (c' := (2, [some (.int p0)], [.int 4, .int p0], Wd f fl g gl hh v tx)) rfl ?_
  refine WP.br hP_19 (q := 4 ≤ p0) (t := 9) (f := 5) (L := [some (.int p0)]) (st := []) (w := Wd f fl g gl hh v tx) rfl (fun c1 => ?_) (fun c1 => ?_)
  · have h2 := h.1 c1
    refine WP.run hP_19 2 (c' := (12, [some (.int p0)], [.int 16, .int p0], Wd f fl g gl hh v tx)) rfl ?_
    refine WP.br hP_19 (q := 16 ≤ p0) (t := 19) (f := 15) (L := [some (.int p0)]) (st := []) (w := Wd f fl g gl hh v tx) rfl (fun c3 => ?_) (fun c3 => ?_)
    · have h4 := h2.1 c3
      refine WP.run hP_19 2 (c' := (22, [some (.int p0)], [.int 64, .int p0], Wd f fl g gl hh v tx)) rfl ?_
      refine WP.br hP_19 (q := 64 ≤ p0) (t := 29) (f := 25) (L := [some (.int p0)]) (st := []) (w := Wd f fl g gl hh v tx) rfl (fun c5 => ?_) (fun c5 => ?_)
      · have h6 := h4.1 c5
        refine WP.run hP_19 2 (c' := (33, [some (.int p0)], [.int 256, .int p0], Wd f fl g gl hh v tx)) rfl ?_
        refine WP.br hP_19 (q := 256 ≤ p0) (t := 40) (f := 36) (L := [some (.int p0)]) (st := []) (w := Wd f fl g gl hh v tx) rfl (fun c7 => ?_) (fun c7 => ?_)
        · have h8 := h6.1 c7
          refine WP.run hP_19 1 (c' := (41, [none], [.int 4], Wd f fl g gl hh v tx)) rfl ?_
          exact WP.retI hP_19 rfl rfl h8
        · have h9 := h6.2 c7
          refine WP.run hP_19 2 (c' := (41, [some (.int p0)], [.int 3], Wd f fl g gl hh v tx)) rfl ?_
          exact WP.retI hP_19 rfl rfl h9
      · have h10 := h4.2 c5
        refine WP.run hP_19 2 (c' := (41, [some (.int p0)], [.int 2], Wd f fl g gl hh v tx)) rfl ?_
        exact WP.retI hP_19 rfl rfl h10
    · have h11 := h2.2 c3
      refine WP.run hP_19 2 (c' := (41, [some (.int p0)], [.int 1], Wd f fl g gl hh v tx)) rfl ?_
      exact WP.retI hP_19 rfl rfl h11
  · have h12 := h.2 c1
    refine WP.run hP_19 2 (c' := (41, [some (.int p0)], [.int 0], Wd f fl g gl hh v tx)) rfl ?_
    exact WP.retI hP_19 rfl rfl h12

set_option maxRecDepth 20000 in
theorem b_ycb_left_0 (X : mm_X) (d : Nat) (f : Nat → Int32) (fl : Nat → Int64) (g : Nat → Nat → Int32) (gl : Nat → Nat → Int64) (hh : Nat → Nat → Option Nat) (v : Nat → Value) (tx : mm_W) (p0 : Int32) (p1 : Int32)  (P : Option Value → mm_W → Prop)
    (h : WP X (d) 19 (0, [some (.int p1)], [], Wd f fl g gl hh v tx) (fun rv w2 => WP X (d + 1) 18 (5, [some (.int p0), some (.int p1), none], rv.toList ++ [.int 2], w2) P)) :
    WP X (d + 1) 18 (0, [some (.int p0), some (.int p1), none], [], Wd f fl g gl hh v tx) P := by
  refine WP.run hP_18 2 (c' := (2, [some (.int p0), some (.int p1), none], [.int p1, .int 2], Wd f fl g gl hh v tx)) rfl ?_
  refine WP.call hP_18 hP_19 (as := [.int p1]) (pc' := 5) (L' := [some (.int p0), some (.int p1), none]) (st' := [.int 2]) (w1 := Wd f fl g gl hh v tx) rfl ⟨Nat.le_of_ble_eq_true rfl, Nat.le_of_ble_eq_true rfl⟩ rfl ?_
  exact h

set_option maxRecDepth 20000 in
theorem b_ycb_left_5 (X : mm_X) (d : Nat) (f : Nat → Int32) (fl : Nat → Int64) (g : Nat → Nat → Int32) (gl : Nat → Nat → Int64) (hh : Nat → Nat → Option Nat) (v : Nat → Value) (tx : mm_W) (l0 : Int32) (l1 : Int32) (s0 : Int32) (s1 : Int32)  (P : Option Value → mm_W → Prop)
    (h : WP X (d) 19 (0, [some (.int l0)], [], Wd f fl g gl hh v tx) (fun rv w2 => WP X (d + 1) 18 (9, [some (.int l0), some (.int l1), none], rv.toList ++ [.int s0, .int s1], w2) P)) :
    WP X (d + 1) 18 (5, [some (.int l0), some (.int l1), none], [.int s0, .int s1], Wd f fl g gl hh v tx) P := by
  refine WP.run hP_18 1 (c' := (6, [some (.int l0), some (.int l1), none], [.int l0, .int s0, .int s1], Wd f fl g gl hh v tx)) rfl ?_
  refine WP.call hP_18 hP_19 (as := [.int l0]) (pc' := 9) (L' := [some (.int l0), some (.int l1), none]) (st' := [.int s0, .int s1]) (w1 := Wd f fl g gl hh v tx) rfl ⟨Nat.le_of_ble_eq_true rfl, Nat.le_of_ble_eq_true rfl⟩ rfl ?_
  exact h

set_option maxRecDepth 20000 in
theorem b_ycb_left_9 (X : mm_X) (d : Nat) (f : Nat → Int32) (fl : Nat → Int64) (g : Nat → Nat → Int32) (gl : Nat → Nat → Int64) (hh : Nat → Nat → Option Nat) (v : Nat → Value) (tx : mm_W) (l0 : Int32) (l1 : Int32) (s0 : Int32) (s1 : Int32) (s2 : Int32)  (P : Option Value → mm_W → Prop)
    (h : (((s2 * (s1 - s0)) ≤ 0) → P (some (.int (-1))) (Wd f fl g gl hh v tx)) ∧
    ((¬ ((s2 * (s1 - s0)) ≤ 0)) → (((((l1 >>> ((s2 * (s1 - s0)) &&& (31 : Int32))) : Int32) = l0) → P (some (.int ((((1 : Int32) <<< ((s2 * (s1 - s0)) &&& (31 : Int32))) : Int32) ||| (l1 &&& ((((1 : Int32) <<< ((s2 * (s1 - s0)) &&& (31 : Int32))) : Int32) - (1 : Int32)))))) (Wd f fl g gl hh v tx)) ∧
      ((¬ ((l1 >>> ((s2 * (s1 - s0)) &&& (31 : Int32))) : Int32) = l0) → P (some (.int (-1))) (Wd f fl g gl hh v tx))))) :
    WP X (d) 18 (9, [some (.int l0), some (.int l1), none], [.int s0, .int s1, .int s2], Wd f fl g gl hh v tx) P := by
  refine WP.run hP_18 4 (c' := (13, [some (.int l0), some (.int l1), some (.int (s2 * (s1 - s0)))], [.int (s2 * (s1 - s0))], Wd f fl g gl hh v tx)) rfl ?_
  refine WP.br hP_18 (q := (s2 * (s1 - s0)) ≤ 0) (t := 23) (f := 16) (L := [some (.int l0), some (.int l1), some (.int (s2 * (s1 - s0)))]) (st := []) (w := Wd f fl g gl hh v tx) rfl (fun c1 => ?_) (fun c1 => ?_)
  · have h2 := h.1 c1
    refine WP.run hP_18 1 (c' := (24, [none, none, none], [.int (-1)], Wd f fl g gl hh v tx)) rfl ?_
    exact WP.retI hP_18 rfl rfl h2
  · have h3 := h.2 c1
    refine WP.run hP_18 4 (c' := (20, [some (.int l0), some (.int l1), some (.int (s2 * (s1 - s0)))], [.int l0, .int ((l1 >>> ((s2 * (s1 - s0)) &&& (31 : Int32))) : Int32)], Wd f fl g gl hh v tx)) rfl ?_
    refine WP.br hP_18 (q := ((l1 >>> ((s2 * (s1 - s0)) &&& (31 : Int32))) : Int32) = l0) (t := 25) (f := 23) (L := [some (.int l0), some (.int l1), some (.int (s2 * (s1 - s0)))]) (st := []) (w := Wd f fl g gl hh v tx) rfl (fun c4 => ?_) (fun c4 => ?_)
    · have h5 := h3.1 c4
      refine WP.run hP_18 11 (c' := (36, [none, some (.int l1), some (.int (s2 * (s1 - s0)))], [.int ((((1 : Int32) <<< ((s2 * (s1 - s0)) &&& (31 : Int32))) : Int32) ||| (l1 &&& ((((1 : Int32) <<< ((s2 * (s1 - s0)) &&& (31 : Int32))) : Int32) - (1 : Int32))))], Wd f fl g gl hh v tx)) rfl ?_
      exact WP.retI hP_18 rfl rfl h5
    · have h6 := h3.2 c4
      refine WP.run hP_18 1 (c' := (24, [none, none, none], [.int (-1)], Wd f fl g gl hh v tx)) rfl ?_
      exact WP.retI hP_18 rfl rfl h6

set_option maxRecDepth 20000 in
theorem b_ycb_offer_50_0 (X : mm_X) (d : Nat) (f : Nat → Int32) (fl : Nat → Int64) (g : Nat → Nat → Int32) (gl : Nat → Nat → Int64) (hh : Nat → Nat → Option Nat) (v : Nat → Value) (tx : mm_W) (p0 : Int32) (p1 : Int32)  (P : Option Value → mm_W → Prop)
    (h : ((0 ≤ p0 ∧ p0 < (128 : Int32)) → ((¬ (p0 < 0 ∨ 128 ≤ p0.toNatClampNeg)) ∧ (((p1 < ((g 52) p0.toNatClampNeg)) → ((¬ (p0 < 0 ∨ 128 ≤ p0.toNatClampNeg)) ∧ (((¬ ((g 52) p0.toNatClampNeg) = 1000000) → ((¬ (p0 < 0 ∨ 128 ≤ p0.toNatClampNeg)) ∧ P (some (.int 1)) (Wd f fl (va_up g 52 (upd (g 52) (p0.toNatClampNeg) p1)) gl hh v tx))) ∧
        ((((g 52) p0.toNatClampNeg) = 1000000) → (((128 ≤ (f 3203)) → ((¬ (p0 < 0 ∨ 128 ≤ p0.toNatClampNeg)) ∧ P (some (.int 1)) (Wd f fl (va_up g 52 (upd (g 52) (p0.toNatClampNeg) p1)) gl hh v tx))) ∧
          ((¬ (128 ≤ (f 3203))) → ((¬ ((f 3203) < 0 ∨ 128 ≤ (f 3203).toNatClampNeg)) ∧ ((¬ (p0 < 0 ∨ 128 ≤ p0.toNatClampNeg)) ∧ P (some (.int 1)) (Wd (va_up f 3203 ((f 3203) + (1 : Int32))) fl (va_up (va_up g 53 (upd (g 53) ((f 3203).toNatClampNeg) p0)) 52 (upd (g 52) (p0.toNatClampNeg) p1)) gl hh v tx))))))))) ∧
      ((¬ (p1 < ((g 52) p0.toNatClampNeg))) → P (some (.int 0)) (Wd f fl g gl hh v tx))))) ∧
    ((¬ (0 ≤ p0 ∧ p0 < (128 : Int32))) → P (some (.int 0)) (Wd f fl g gl hh v tx))) :
    WP X (d + 1) 17 (0, [some (.ref 50), some (.int p0), some (.int p1)], [], Wd f fl g gl hh v tx) P := by
  refine WP.run hP_17 4 (c' := (6, [some (.ref 50), some (.int p0), some (.int p1)], [.int 128, .int p0], Wd f fl g gl hh v tx)) rfl ?_
  refine WP.call hP_17 hP_99 (as := [.int p0, .int 128]) (pc' := 9) (L' := [some (.ref 50), some (.int p0), some (.int p1)]) (st' := []) (w1 := Wd f fl g gl hh v tx) rfl ⟨Nat.le_of_ble_eq_true rfl, Nat.le_of_ble_eq_true rfl⟩ rfl (b_within_m X (d) f fl g gl hh v tx p0 128 _ ?_)
  refine ⟨fun c1 => ?_, fun c1 => ?_⟩
  · have h2 := h.1 c1
    refine WP.run hP_17 4 (c' := (17, [some (.ref 50), some (.int p0), some (.int p1)], [.int p0, .ref 52], Wd f fl g gl hh v tx)) rfl ?_
    refine WP.of (fun _ _ => Ex.iald hP_17 rfl (Wa_52 _ _ _ _ _ _ _) h2.1) ?_
    have h3 := h2.2
    refine WP.run hP_17 1 (c' := (19, [some (.ref 50), some (.int p0), some (.int p1)], [.int p1, .int ((g 52) p0.toNatClampNeg)], Wd f fl g gl hh v tx)) rfl ?_
    refine WP.br hP_17 (q := p1 < ((g 52) p0.toNatClampNeg)) (t := 24) (f := 22) (L := [some (.ref 50), some (.int p0), some (.int p1)]) (st := []) (w := Wd f fl g gl hh v tx) rfl (fun c4 => ?_) (fun c4 => ?_)
    · have h5 := h3.1 c4
      refine WP.run hP_17 3 (c' := (29, [some (.ref 50), some (.int p0), some (.int p1)], [.int p0, .ref 52], Wd f fl g gl hh v tx)) rfl ?_
      refine WP.of (fun _ _ => Ex.iald hP_17 rfl (Wa_52 _ _ _ _ _ _ _) h5.1) ?_
      have h6 := h5.2
      refine WP.run hP_17 1 (c' := (32, [some (.ref 50), some (.int p0), some (.int p1)], [.int 1000000, .int ((g 52) p0.toNatClampNeg)], Wd f fl g gl hh v tx)) rfl ?_
      refine WP.br hP_17 (q := ¬ ((g 52) p0.toNatClampNeg) = 1000000) (t := 67) (f := 35) (L := [some (.ref 50), some (.int p0), some (.int p1)]) (st := []) (w := Wd f fl g gl hh v tx) rfl (fun c7 => ?_) (fun c7 => ?_)
      · have h8 := h6.1 c7
        refine WP.run hP_17 4 (c' := (73, [some (.ref 50), some (.int p0), some (.int p1)], [.int p1, .int p0, .ref 52], Wd f fl g gl hh v tx)) rfl ?_
        refine WP.of (fun _ _ => Ex.iast hP_17 (w2 := Wd f fl (va_up g 52 (upd (g 52) (p0.toNatClampNeg) p1)) gl hh v tx) rfl (Wa_52 _ _ _ _ _ _ _) h8.1 (Ws_52 _ _ _ _ _ _ _ _)) ?_
        have h9 := h8.2
        refine WP.run hP_17 1 (c' := (75, [some (.ref 50), some (.int p0), some (.int p1)], [.int 1], Wd f fl (va_up g 52 (upd (g 52) (p0.toNatClampNeg) p1)) gl hh v tx)) rfl ?_
        exact WP.ret hP_17 (r := some (.int 1)) (w' := Wd f fl (va_up g 52 (upd (g 52) (p0.toNatClampNeg) p1)) gl hh v tx) rfl h9
      · have h10 := h6.2 (Classical.not_not.mp c7)
        refine WP.run hP_17 5 (c' := (44, [some (.ref 50), some (.int p0), some (.int p1)], [.int 128, .int (f 3203)], Wd f fl g gl hh v tx)) rfl ?_
        refine WP.br hP_17 (q := 128 ≤ (f 3203)) (t := 67) (f := 47) (L := [some (.ref 50), some (.int p0), some (.int p1)]) (st := []) (w := Wd f fl g gl hh v tx) rfl (fun c11 => ?_) (fun c11 => ?_)
        · have h12 := h10.1 c11
          refine WP.run hP_17 4 (c' := (73, [some (.ref 50), some (.int p0), some (.int p1)], [.int p1, .int p0, .ref 52], Wd f fl g gl hh v tx)) rfl ?_
          refine WP.of (fun _ _ => Ex.iast hP_17 (w2 := Wd f fl (va_up g 52 (upd (g 52) (p0.toNatClampNeg) p1)) gl hh v tx) rfl (Wa_52 _ _ _ _ _ _ _) h12.1 (Ws_52 _ _ _ _ _ _ _ _)) ?_
          have h13 := h12.2
          refine WP.run hP_17 1 (c' := (75, [some (.ref 50), some (.int p0), some (.int p1)], [.int 1], Wd f fl (va_up g 52 (upd (g 52) (p0.toNatClampNeg) p1)) gl hh v tx)) rfl ?_
          exact WP.ret hP_17 (r := some (.int 1)) (w' := Wd f fl (va_up g 52 (upd (g 52) (p0.toNatClampNeg) p1)) gl hh v tx) rfl h13
        · have h14 := h10.2 c11
          refine WP.run hP_17 5 (c' := (56, [some (.ref 50), some (.int p0), some (.int p1)], [.int p0, .int (f 3203), .ref 53], Wd f fl g gl hh v tx)) rfl ?_
          refine WP.of (fun _ _ => Ex.iast hP_17 (w2 := Wd f fl (va_up g 53 (upd (g 53) ((f 3203).toNatClampNeg) p0)) gl hh v tx) rfl (Wa_53 _ _ _ _ _ _ _) h14.1 (Ws_53 _ _ _ _ _ _ _ _)) ?_
          have h15 := h14.2
          refine WP.run hP_17 10 (c' := (73, [some (.ref 50), some (.int p0), some (.int p1)], [.int p1, .int p0, .ref 52], Wd (va_up f 3203 ((f 3203) + (1 : Int32))) fl (va_up g 53 (upd (g 53) ((f 3203).toNatClampNeg) p0)) gl hh v tx)) rfl ?_
          refine WP.of (fun _ _ => Ex.iast hP_17 (w2 := Wd (va_up f 3203 ((f 3203) + (1 : Int32))) fl (va_up (va_up g 53 (upd (g 53) ((f 3203).toNatClampNeg) p0)) 52 (upd (g 52) (p0.toNatClampNeg) p1)) gl hh v tx) rfl (Wa_52 _ _ _ _ _ _ _) h15.1 (Ws_52 _ _ _ _ _ _ _ _)) ?_
          have h16 := h15.2
          refine WP.run hP_17 1 (c' := (75, [some (.ref 50), some (.int p0), some (.int p1)], [.int 1], Wd (va_up f 3203 ((f 3203) + (1 : Int32))) fl (va_up (va_up g 53 (upd (g 53) ((f 3203).toNatClampNeg) p0)) 52 (upd (g 52) (p0.toNatClampNeg) p1)) gl hh v tx)) rfl ?_
          exact WP.ret hP_17 (r := some (.int 1)) (w' := Wd (va_up f 3203 ((f 3203) + (1 : Int32))) fl (va_up (va_up g 53 (upd (g 53) ((f 3203).toNatClampNeg) p0)) 52 (upd (g 52) (p0.toNatClampNeg) p1)) gl hh v tx) rfl h16
    · have h17 := h3.2 c4
      refine WP.run hP_17 1 (c' := (23, [none, none, none], [.int 0], Wd f fl g gl hh v tx)) rfl ?_
      exact WP.ret hP_17 (r := some (.int 0)) (w' := Wd f fl g gl hh v tx) rfl h17
  · have h18 := h.2 c1
    refine WP.run hP_17 2 (c' := (23, [none, none, none], [.int 0], Wd f fl g gl hh v tx)) rfl ?_
    exact WP.ret hP_17 (r := some (.int 0)) (w' := Wd f fl g gl hh v tx) rfl h18

set_option maxRecDepth 20000 in
theorem b_ycb_improve_50_0 (X : mm_X) (d : Nat) (f : Nat → Int32) (fl : Nat → Int64) (g : Nat → Nat → Int32) (gl : Nat → Nat → Int64) (hh : Nat → Nat → Option Nat) (v : Nat → Value) (tx : mm_W) (p0 : Int32)  (P : Option Value → mm_W → Prop)
    (h : WP X (d) 16 (4, [some (.ref 50), some (.int p0), some (.int 0), some (.int 0), none, none, none, none], [], Wd f fl g gl hh v tx) P) :
    WP X (d) 16 (0, [some (.ref 50), some (.int p0), none, none, none, none, none, none], [], Wd f fl g gl hh v tx) P := by
  refine WP.run hP_16 3 (c' := (3, [some (.ref 50), some (.int p0), some (.int 0), none, none, none, none, none], [.int 0], Wd f fl g gl hh v tx)) rfl ?_
  refine WP.run hP_16 1 (c' := (4, [some (.ref 50), some (.int p0), some (.int 0), some (.int 0), none, none, none, none], [], Wd f fl g gl hh v tx)) rfl ?_
  exact h

set_option maxRecDepth 20000 in
theorem b_ycb_improve_50_4 (X : mm_X) (d : Nat) (f : Nat → Int32) (fl : Nat → Int64) (g : Nat → Nat → Int32) (gl : Nat → Nat → Int64) (hh : Nat → Nat → Option Nat) (v : Nat → Value) (tx : mm_W) (l1 : Int32) (l2 : Int32) (l3 : Int32)  (P : Option Value → mm_W → Prop)
    (h : (((f 3203) ≤ l3) → ((l2 = 0 ∨ l2 = 1) ∧ P (some (.int l2)) (Wd f fl g gl hh v tx))) ∧
    ((¬ ((f 3203) ≤ l3)) → ((¬ (l3 < 0 ∨ 128 ≤ l3.toNatClampNeg)) ∧ WP X (d) 16 (23, [some (.ref 50), some (.int l1), some (.int l2), some (.int l3), some (.int ((g 53) l3.toNatClampNeg)), some (.int 0), none, none], [], Wd f fl g gl hh v tx) P))) :
    WP X (d) 16 (4, [some (.ref 50), some (.int l1), some (.int l2), some (.int l3), none, none, none, none], [], Wd f fl g gl hh v tx) P := by
  refine WP.run hP_16 3 (c' := (9, [some (.ref 50), some (.int l1), some (.int l2), some (.int l3), none, none, none, none], [.int (f 3203), .int l3], Wd f fl g gl hh v tx)) rfl ?_
  refine WP.br hP_16 (q := (f 3203) ≤ l3) (t := 127) (f := 12) (L := [some (.ref 50), some (.int l1), some (.int l2), some (.int l3), none, none, none, none]) (st := []) (w := Wd f fl g gl hh v tx) rfl (fun c1 => ?_) (fun c1 => ?_)
  · have h2 := h.1 c1
    refine WP.run hP_16 1 (c' := (128, [none, none, some (.int l2), none, none, none, none, none], [.int l2], Wd f fl g gl hh v tx)) rfl ?_
    exact WP.retZ hP_16 rfl rfl h2.1 h2.2
  · have h3 := h.2 c1
    refine WP.run hP_16 3 (c' := (17, [some (.ref 50), some (.int l1), some (.int l2), some (.int l3), none, none, none, none], [.int l3, .ref 53], Wd f fl g gl hh v tx)) rfl ?_
    refine WP.of (fun _ _ => Ex.iald hP_16 rfl (Wa_53 _ _ _ _ _ _ _) h3.1) ?_
    have h4 := h3.2
    refine WP.run hP_16 2 (c' := (21, [some (.ref 50), some (.int l1), some (.int l2), some (.int l3), some (.int ((g 53) l3.toNatClampNeg)), none, none, none], [.int 0], Wd f fl g gl hh v tx)) rfl ?_
    refine WP.run hP_16 1 (c' := (23, [some (.ref 50), some (.int l1), some (.int l2), some (.int l3), some (.int ((g 53) l3.toNatClampNeg)), some (.int 0), none, none], [], Wd f fl g gl hh v tx)) rfl ?_
    exact h4

set_option maxRecDepth 20000 in
theorem b_ycb_improve_50_23 (X : mm_X) (d : Nat) (f : Nat → Int32) (fl : Nat → Int64) (g : Nat → Nat → Int32) (gl : Nat → Nat → Int64) (hh : Nat → Nat → Option Nat) (v : Nat → Value) (tx : mm_W) (l1 : Int32) (l2 : Int32) (l3 : Int32) (l4 : Int32) (l5 : Int32)  (P : Option Value → mm_W → Prop)
    (h : ((l1 ≤ l5) → WP X (d + 1) 16 (4, [some (.ref 50), some (.int l1), some (.int l2), some (.int (l3 + (1 : Int32))), none, none, none, none], [], Wd f fl g gl hh v tx) P) ∧
    ((¬ (l1 ≤ l5)) → ((¬ (l5 < 0 ∨ 8 ≤ l5.toNatClampNeg)) ∧ WP X (d) 18 (0, [some (.int ((g 51) l5.toNatClampNeg)), some (.int l4), none], [], Wd f fl g gl hh v tx) (fun rv w2 => WP X (d + 1) 16 (41, [some (.ref 50), some (.int l1), some (.int l2), some (.int l3), some (.int l4), some (.int l5), none, none], rv.toList ++ [], w2) P)))) :
    WP X (d + 1) 16 (23, [some (.ref 50), some (.int l1), some (.int l2), some (.int l3), some (.int l4), some (.int l5), none, none], [], Wd f fl g gl hh v tx) P := by
  refine WP.run hP_16 2 (c' := (26, [some (.ref 50), some (.int l1), some (.int l2), some (.int l3), some (.int l4), some (.int l5), none, none], [.int l1, .int l5], Wd f fl g gl hh v tx)) rfl ?_
  refine WP.br hP_16 (q := l1 ≤ l5) (t := 121) (f := 29) (L := [some (.ref 50), some (.int l1), some (.int l2), some (.int l3), some (.int l4), some (.int l5), none, none]) (st := []) (w := Wd f fl g gl hh v tx) rfl (fun c1 => ?_) (fun c1 => ?_)
  · have h2 := h.1 c1
    refine WP.run hP_16 2 (c' := (4, [some (.ref 50), some (.int l1), some (.int l2), some (.int (l3 + (1 : Int32))), none, none, none, none], [], Wd f fl g gl hh v tx)) rfl ?_
    exact h2
  · have h3 := h.2 c1
    refine WP.run hP_16 3 (c' := (35, [some (.ref 50), some (.int l1), some (.int l2), some (.int l3), some (.int l4), some (.int l5), none, none], [.int l5, .ref 51], Wd f fl g gl hh v tx)) rfl ?_
    refine WP.of (fun _ _ => Ex.iald hP_16 rfl (Wa_51 _ _ _ _ _ _ _) h3.1) ?_
    have h4 := h3.2
    refine WP.run hP_16 1 (c' := (38, [some (.ref 50), some (.int l1), some (.int l2), some (.int l3), some (.int l4), some (.int l5), none, none], [.int l4, .int ((g 51) l5.toNatClampNeg)], Wd f fl g gl hh v tx)) rfl ?_
    refine WP.call hP_16 hP_18 (as := [.int ((g 51) l5.toNatClampNeg), .int l4]) (pc' := 41) (L' := [some (.ref 50), some (.int l1), some (.int l2), some (.int l3), some (.int l4), some (.int l5), none, none]) (st' := []) (w1 := Wd f fl g gl hh v tx) rfl ⟨Nat.le_of_ble_eq_true rfl, Nat.le_of_ble_eq_true rfl⟩ rfl ?_
    exact h4

set_option maxRecDepth 20000 in
theorem b_ycb_improve_50_41 (X : mm_X) (d : Nat) (f : Nat → Int32) (fl : Nat → Int64) (g : Nat → Nat → Int32) (gl : Nat → Nat → Int64) (hh : Nat → Nat → Option Nat) (v : Nat → Value) (tx : mm_W) (l1 : Int32) (l2 : Int32) (l3 : Int32) (l4 : Int32) (l5 : Int32) (s0 : Int32)  (P : Option Value → mm_W → Prop)
    (h : (¬ (l5 < 0 ∨ 8 ≤ l5.toNatClampNeg)) ∧ WP X (d) 18 (0, [some (.int l4), some (.int ((g 51) l5.toNatClampNeg)), none], [], Wd f fl g gl hh v tx) (fun rv w2 => WP X (d + 1) 16 (55, [some (.ref 50), some (.int l1), some (.int l2), some (.int l3), some (.int l4), some (.int l5), some (.int s0), none], rv.toList ++ [], w2) P)) :
    WP X (d + 1) 16 (41, [some (.ref 50), some (.int l1), some (.int l2), some (.int l3), some (.int l4), some (.int l5), none, none], [.int s0], Wd f fl g gl hh v tx) P := by
  refine WP.run hP_16 5 (c' := (51, [some (.ref 50), some (.int l1), some (.int l2), some (.int l3), some (.int l4), some (.int l5), some (.int s0), none], [.int l5, .ref 51, .int l4], Wd f fl g gl hh v tx)) rfl ?_
  refine WP.of (fun _ _ => Ex.iald hP_16 rfl (Wa_51 _ _ _ _ _ _ _) h.1) ?_
  have h1 := h.2
  refine WP.call hP_16 hP_18 (as := [.int l4, .int ((g 51) l5.toNatClampNeg)]) (pc' := 55) (L' := [some (.ref 50), some (.int l1), some (.int l2), some (.int l3), some (.int l4), some (.int l5), some (.int s0), none]) (st' := []) (w1 := Wd f fl g gl hh v tx) rfl ⟨Nat.le_of_ble_eq_true rfl, Nat.le_of_ble_eq_true rfl⟩ rfl ?_
  exact h1

set_option maxRecDepth 20000 in
theorem b_ycb_improve_50_55 (X : mm_X) (d : Nat) (f : Nat → Int32) (fl : Nat → Int64) (g : Nat → Nat → Int32) (gl : Nat → Nat → Int64) (hh : Nat → Nat → Option Nat) (v : Nat → Value) (tx : mm_W) (l1 : Int32) (l2 : Int32) (l3 : Int32) (l4 : Int32) (l5 : Int32) (l6 : Int32) (s0 : Int32)  (P : Option Value → mm_W → Prop)
    (h : (¬ (l4 < 0 ∨ 128 ≤ l4.toNatClampNeg)) ∧ WP X (d) 17 (0, [some (.ref 50), some (.int l6), some (.int ((g 52) l4.toNatClampNeg))], [], Wd f fl g gl hh v tx) (fun rv w2 => WP X (d + 1) 16 (70, [some (.ref 50), some (.int l1), some (.int l2), some (.int l3), some (.int l4), some (.int l5), some (.int l6), some (.int s0)], rv.toList ++ [], w2) P)) :
    WP X (d + 1) 16 (55, [some (.ref 50), some (.int l1), some (.int l2), some (.int l3), some (.int l4), some (.int l5), some (.int l6), none], [.int s0], Wd f fl g gl hh v tx) P := by
  refine WP.run hP_16 6 (c' := (66, [some (.ref 50), some (.int l1), some (.int l2), some (.int l3), some (.int l4), some (.int l5), some (.int l6), some (.int s0)], [.int l4, .ref 52, .int l6, .ref 50], Wd f fl g gl hh v tx)) rfl ?_
  refine WP.of (fun _ _ => Ex.iald hP_16 rfl (Wa_52 _ _ _ _ _ _ _) h.1) ?_
  have h1 := h.2
  refine WP.call hP_16 hP_17 (as := [.ref 50, .int l6, .int ((g 52) l4.toNatClampNeg)]) (pc' := 70) (L' := [some (.ref 50), some (.int l1), some (.int l2), some (.int l3), some (.int l4), some (.int l5), some (.int l6), some (.int s0)]) (st' := []) (w1 := Wd f fl g gl hh v tx) rfl ⟨Nat.le_of_ble_eq_true rfl, Nat.le_of_ble_eq_true rfl⟩ rfl ?_
  exact h1

set_option maxRecDepth 20000 in
theorem b_ycb_improve_50_70 (X : mm_X) (d : Nat) (f : Nat → Int32) (fl : Nat → Int64) (g : Nat → Nat → Int32) (gl : Nat → Nat → Int64) (hh : Nat → Nat → Option Nat) (v : Nat → Value) (tx : mm_W) (l1 : Int32) (l2 : Int32) (l3 : Int32) (l4 : Int32) (l5 : Int32) (l6 : Int32) (l7 : Int32) (s0 : Int32)  (P : Option Value → mm_W → Prop)
    (h : ((¬ s0 = 0) → ((¬ (l4 < 0 ∨ 128 ≤ l4.toNatClampNeg)) ∧ WP X (d) 19 (0, [some (.int l7)], [], Wd f fl g gl hh v tx) (fun rv w2 => WP X (d + 1) 16 (98, [some (.ref 50), some (.int l1), some (.int 1), some (.int l3), some (.int l4), some (.int l5), none, some (.int l7)], rv.toList ++ [.int ((g 52) l4.toNatClampNeg), .int l7, .ref 50], w2) P))) ∧
    ((s0 = 0) → (((l2 = 0) → ((¬ (l4 < 0 ∨ 128 ≤ l4.toNatClampNeg)) ∧ WP X (d) 19 (0, [some (.int l7)], [], Wd f fl g gl hh v tx) (fun rv w2 => WP X (d + 1) 16 (98, [some (.ref 50), some (.int l1), some (.int 0), some (.int l3), some (.int l4), some (.int l5), none, some (.int l7)], rv.toList ++ [.int ((g 52) l4.toNatClampNeg), .int l7, .ref 50], w2) P))) ∧
      ((¬ l2 = 0) → ((¬ (l4 < 0 ∨ 128 ≤ l4.toNatClampNeg)) ∧ WP X (d) 19 (0, [some (.int l7)], [], Wd f fl g gl hh v tx) (fun rv w2 => WP X (d + 1) 16 (98, [some (.ref 50), some (.int l1), some (.int 1), some (.int l3), some (.int l4), some (.int l5), none, some (.int l7)], rv.toList ++ [.int ((g 52) l4.toNatClampNeg), .int l7, .ref 50], w2) P)))))) :
    WP X (d + 1) 16 (70, [some (.ref 50), some (.int l1), some (.int l2), some (.int l3), some (.int l4), some (.int l5), some (.int l6), some (.int l7)], [.int s0], Wd f fl g gl hh v tx) P := by
  refine WP.br hP_16 (q := ¬ s0 = 0) (t := 77) (f := 73) (L := [some (.ref 50), some (.int l1), some (.int l2), some (.int l3), some (.int l4), some (.int l5), some (.int l6), some (.int l7)]) (st := []) (w := Wd f fl g gl hh v tx) rfl (fun c1 => ?_) (fun c1 => ?_)
  · have h2 := h.1 c1
    refine WP.run hP_16 2 (c' := (82, [some (.ref 50), some (.int l1), none, some (.int l3), some (.int l4), some (.int l5), none, some (.int l7)], [.int 1], Wd f fl g gl hh v tx)) rfl ?_
    refine WP.run hP_16 6 (c' := (92, [some (.ref 50), some (.int l1), some (.int 1), some (.int l3), some (.int l4), some (.int l5), none, some (.int l7)], [.int l4, .ref 52, .int l7, .ref 50], Wd f fl g gl hh v tx)) rfl ?_
    refine WP.of (fun _ _ => Ex.iald hP_16 rfl (Wa_52 _ _ _ _ _ _ _) h2.1) ?_
    have h3 := h2.2
    refine WP.run hP_16 1 (c' := (95, [some (.ref 50), some (.int l1), some (.int 1), some (.int l3), some (.int l4), some (.int l5), none, some (.int l7)], [.int l7, .int ((g 52) l4.toNatClampNeg), .int l7, .ref 50], Wd f fl g gl hh v tx)) rfl ?_
    refine WP.call hP_16 hP_19 (as := [.int l7]) (pc' := 98) (L' := [some (.ref 50), some (.int l1), some (.int 1), some (.int l3), some (.int l4), some (.int l5), none, some (.int l7)]) (st' := [.int ((g 52) l4.toNatClampNeg), .int l7, .ref 50]) (w1 := Wd f fl g gl hh v tx) rfl ⟨Nat.le_of_ble_eq_true rfl, Nat.le_of_ble_eq_true rfl⟩ rfl ?_
    exact h3
  · have h4 := h.2 (Classical.not_not.mp c1)
    refine WP.run hP_16 1 (c' := (74, [some (.ref 50), some (.int l1), some (.int l2), some (.int l3), some (.int l4), some (.int l5), some (.int l6), some (.int l7)], [.int l2], Wd f fl g gl hh v tx)) rfl ?_
    refine WP.br hP_16 (q := l2 = 0) (t := 81) (f := 77) (L := [some (.ref 50), some (.int l1), some (.int l2), some (.int l3), some (.int l4), some (.int l5), some (.int l6), some (.int l7)]) (st := []) (w := Wd f fl g gl hh v tx) rfl (fun c5 => ?_) (fun c5 => ?_)
    · have h6 := h4.1 c5
      refine WP.run hP_16 1 (c' := (82, [some (.ref 50), some (.int l1), none, some (.int l3), some (.int l4), some (.int l5), none, some (.int l7)], [.int 0], Wd f fl g gl hh v tx)) rfl ?_
      refine WP.run hP_16 6 (c' := (92, [some (.ref 50), some (.int l1), some (.int 0), some (.int l3), some (.int l4), some (.int l5), none, some (.int l7)], [.int l4, .ref 52, .int l7, .ref 50], Wd f fl g gl hh v tx)) rfl ?_
      refine WP.of (fun _ _ => Ex.iald hP_16 rfl (Wa_52 _ _ _ _ _ _ _) h6.1) ?_
      have h7 := h6.2
      refine WP.run hP_16 1 (c' := (95, [some (.ref 50), some (.int l1), some (.int 0), some (.int l3), some (.int l4), some (.int l5), none, some (.int l7)], [.int l7, .int ((g 52) l4.toNatClampNeg), .int l7, .ref 50], Wd f fl g gl hh v tx)) rfl ?_
      refine WP.call hP_16 hP_19 (as := [.int l7]) (pc' := 98) (L' := [some (.ref 50), some (.int l1), some (.int 0), some (.int l3), some (.int l4), some (.int l5), none, some (.int l7)]) (st' := [.int ((g 52) l4.toNatClampNeg), .int l7, .ref 50]) (w1 := Wd f fl g gl hh v tx) rfl ⟨Nat.le_of_ble_eq_true rfl, Nat.le_of_ble_eq_true rfl⟩ rfl ?_
      exact h7
    · have h8 := h4.2 c5
      refine WP.run hP_16 2 (c' := (82, [some (.ref 50), some (.int l1), none, some (.int l3), some (.int l4), some (.int l5), none, some (.int l7)], [.int 1], Wd f fl g gl hh v tx)) rfl ?_
      refine WP.run hP_16 6 (c' := (92, [some (.ref 50), some (.int l1), some (.int 1), some (.int l3), some (.int l4), some (.int l5), none, some (.int l7)], [.int l4, .ref 52, .int l7, .ref 50], Wd f fl g gl hh v tx)) rfl ?_
      refine WP.of (fun _ _ => Ex.iald hP_16 rfl (Wa_52 _ _ _ _ _ _ _) h8.1) ?_
      have h9 := h8.2
      refine WP.run hP_16 1 (c' := (95, [some (.ref 50), some (.int l1), some (.int 1), some (.int l3), some (.int l4), some (.int l5), none, some (.int l7)], [.int l7, .int ((g 52) l4.toNatClampNeg), .int l7, .ref 50], Wd f fl g gl hh v tx)) rfl ?_
      refine WP.call hP_16 hP_19 (as := [.int l7]) (pc' := 98) (L' := [some (.ref 50), some (.int l1), some (.int 1), some (.int l3), some (.int l4), some (.int l5), none, some (.int l7)]) (st' := [.int ((g 52) l4.toNatClampNeg), .int l7, .ref 50]) (w1 := Wd f fl g gl hh v tx) rfl ⟨Nat.le_of_ble_eq_true rfl, Nat.le_of_ble_eq_true rfl⟩ rfl ?_
      exact h9

set_option maxRecDepth 20000 in
theorem b_ycb_improve_50_98 (X : mm_X) (d : Nat) (f : Nat → Int32) (fl : Nat → Int64) (g : Nat → Nat → Int32) (gl : Nat → Nat → Int64) (hh : Nat → Nat → Option Nat) (v : Nat → Value) (tx : mm_W) (l1 : Int32) (l2 : Int32) (l3 : Int32) (l4 : Int32) (l5 : Int32) (l7 : Int32) (s0 : Int32) (s1 : Int32) (s2 : Int32)  (P : Option Value → mm_W → Prop)
    (h : WP X (d) 17 (0, [some (.ref 50), some (.int s2), some (.int (s1 + s0))], [], Wd f fl g gl hh v tx) (fun rv w2 => WP X (d + 1) 16 (102, [some (.ref 50), some (.int l1), some (.int l2), some (.int l3), some (.int l4), some (.int l5), none, some (.int l7)], rv.toList ++ [], w2) P)) :
    WP X (d + 1) 16 (98, [some (.ref 50), some (.int l1), some (.int l2), some (.int l3), some (.int l4), some (.int l5), none, some (.int l7)], [.int s0, .int s1, .int s2, .ref 50], Wd f fl g gl hh v tx) P := by
  refine WP.run hP_16 1 (c' := (99, [some (.ref 50), some (.int l1), some (.int l2), some (.int l3), some (.int l4), some (.int l5), none, some (.int l7)], [.int (s1 + s0), .int s2, .ref 50], Wd f fl g gl hh v tx)) rfl ?_
  refine WP.call hP_16 hP_17 (as := [.ref 50, .int s2, .int (s1 + s0)]) (pc' := 102) (L' := [some (.ref 50), some (.int l1), some (.int l2), some (.int l3), some (.int l4), some (.int l5), none, some (.int l7)]) (st' := []) (w1 := Wd f fl g gl hh v tx) rfl ⟨Nat.le_of_ble_eq_true rfl, Nat.le_of_ble_eq_true rfl⟩ rfl ?_
  exact h

set_option maxRecDepth 20000 in
theorem b_ycb_improve_50_102 (X : mm_X) (d : Nat) (f : Nat → Int32) (fl : Nat → Int64) (g : Nat → Nat → Int32) (gl : Nat → Nat → Int64) (hh : Nat → Nat → Option Nat) (v : Nat → Value) (tx : mm_W) (l1 : Int32) (l2 : Int32) (l3 : Int32) (l4 : Int32) (l5 : Int32) (l7 : Int32) (s0 : Int32)  (P : Option Value → mm_W → Prop)
    (h : ((¬ s0 = 0) → WP X (d) 16 (23, [some (.ref 50), some (.int l1), some (.int 1), some (.int l3), some (.int l4), some (.int (l5 + (1 : Int32))), none, none], [], Wd f fl g gl hh v tx) P) ∧
    ((s0 = 0) → (((l2 = 0) → WP X (d) 16 (23, [some (.ref 50), some (.int l1), some (.int 0), some (.int l3), some (.int l4), some (.int (l5 + (1 : Int32))), none, none], [], Wd f fl g gl hh v tx) P) ∧
      ((¬ l2 = 0) → WP X (d) 16 (23, [some (.ref 50), some (.int l1), some (.int 1), some (.int l3), some (.int l4), some (.int (l5 + (1 : Int32))), none, none], [], Wd f fl g gl hh v tx) P)))) :
    WP X (d) 16 (102, [some (.ref 50), some (.int l1), some (.int l2), some (.int l3), some (.int l4), some (.int l5), none, some (.int l7)], [.int s0], Wd f fl g gl hh v tx) P := by
  refine WP.br hP_16 (q := ¬ s0 = 0) (t := 109) (f := 105) (L := [some (.ref 50), some (.int l1), some (.int l2), some (.int l3), some (.int l4), some (.int l5), none, some (.int l7)]) (st := []) (w := Wd f fl g gl hh v tx) rfl (fun c1 => ?_) (fun c1 => ?_)
  · have h2 := h.1 c1
    refine WP.run hP_16 2 (c' := (114, [some (.ref 50), some (.int l1), none, some (.int l3), some (.int l4), some (.int l5), none, none], [.int 1], Wd f fl g gl hh v tx)) rfl ?_
    refine WP.run hP_16 1 (c' := (115, [some (.ref 50), some (.int l1), some (.int 1), some (.int l3), some (.int l4), some (.int l5), none, none], [], Wd f fl g gl hh v tx)) rfl ?_
    refine WP.run hP_16 2 (c' := (23, [some (.ref 50), some (.int l1), some (.int 1), some (.int l3), some (.int l4), some (.int (l5 + (1 : Int32))), none, none], [], Wd f fl g gl hh v tx)) rfl ?_
    exact h2
  · have h3 := h.2 (Classical.not_not.mp c1)
    refine WP.run hP_16 1 (c' := (106, [some (.ref 50), some (.int l1), some (.int l2), some (.int l3), some (.int l4), some (.int l5), none, some (.int l7)], [.int l2], Wd f fl g gl hh v tx)) rfl ?_
    refine WP.br hP_16 (q := l2 = 0) (t := 113) (f := 109) (L := [some (.ref 50), some (.int l1), some (.int l2), some (.int l3), some (.int l4), some (.int l5), none, some (.int l7)]) (st := []) (w := Wd f fl g gl hh v tx) rfl (fun c4 => ?_) (fun c4 => ?_)
    · have h5 := h3.1 c4
      refine WP.run hP_16 1 (c' := (114, [some (.ref 50), some (.int l1), none, some (.int l3), some (.int l4), some (.int l5), none, none], [.int 0], Wd f fl g gl hh v tx)) rfl ?_
      refine WP.run hP_16 1 (c' := (115, [some (.ref 50), some (.int l1), some (.int 0), some (.int l3), some (.int l4), some (.int l5), none, none], [], Wd f fl g gl hh v tx)) rfl ?_
      refine WP.run hP_16 2 (c' := (23, [some (.ref 50), some (.int l1), some (.int 0), some (.int l3), some (.int l4), some (.int (l5 + (1 : Int32))), none, none], [], Wd f fl g gl hh v tx)) rfl ?_
      exact h5
    · have h6 := h3.2 c4
      refine WP.run hP_16 2 (c' := (114, [some (.ref 50), some (.int l1), none, some (.int l3), some (.int l4), some (.int l5), none, none], [.int 1], Wd f fl g gl hh v tx)) rfl ?_
      refine WP.run hP_16 1 (c' := (115, [some (.ref 50), some (.int l1), some (.int 1), some (.int l3), some (.int l4), some (.int l5), none, none], [], Wd f fl g gl hh v tx)) rfl ?_
      refine WP.run hP_16 2 (c' := (23, [some (.ref 50), some (.int l1), some (.int 1), some (.int l3), some (.int l4), some (.int (l5 + (1 : Int32))), none, none], [], Wd f fl g gl hh v tx)) rfl ?_
      exact h6

set_option maxRecDepth 20000 in
theorem b_ycb_fewest_50_1_0 (X : mm_X) (d : Nat) (f : Nat → Int32) (fl : Nat → Int64) (g : Nat → Nat → Int32) (gl : Nat → Nat → Int64) (hh : Nat → Nat → Option Nat) (v : Nat → Value) (tx : mm_W) (p0 : Int32)  (P : Option Value → mm_W → Prop)
    (h : WP X (d) 15 (5, [some (.ref 50), some (.ref 1), some (.int p0), some (.int 0), some (.int 0), none, none], [], Wd f fl g gl hh v tx) P) :
    WP X (d) 15 (0, [some (.ref 50), some (.ref 1), some (.int p0), none, none, none, none], [], Wd f fl g gl hh v tx) P := by
  refine WP.run hP_15 3 (c' := (3, [some (.ref 50), some (.ref 1), some (.int p0), some (.int 0), none, none, none], [.int 0], Wd f fl g gl hh v tx)) rfl ?_
  refine WP.run hP_15 1 (c' := (5, [some (.ref 50), some (.ref 1), some (.int p0), some (.int 0), some (.int 0), none, none], [], Wd f fl g gl hh v tx)) rfl ?_
  exact h

set_option maxRecDepth 20000 in
theorem b_ycb_fewest_50_1_5 (X : mm_X) (d : Nat) (f : Nat → Int32) (fl : Nat → Int64) (g : Nat → Nat → Int32) (gl : Nat → Nat → Int64) (hh : Nat → Nat → Option Nat) (v : Nat → Value) (tx : mm_W) (l2 : Int32) (l3 : Int32) (l4 : Int32)  (P : Option Value → mm_W → Prop)
    (h : (((f 64) ≤ l4) → WP X (d) 258 (0, [some (.ref 52), some (.int 1000000), none, none], [], Wd f fl g gl hh v tx) (fun rv w2 => WP X (d + 1) 15 (67, [some (.ref 50), none, none, some (.int l3), none, none, none], rv.toList ++ [], w2) P)) ∧
    ((¬ ((f 64) ≤ l4)) → (((¬ (((l2 >>> (l4 &&& (31 : Int32))) : Int32) &&& (1 : Int32)) = 1) → WP X (d + 1) 15 (5, [some (.ref 50), some (.ref 1), some (.int l2), some (.int l3), some (.int (l4 + (1 : Int32))), none, none], [], Wd f fl g gl hh v tx) P) ∧
      (((((l2 >>> (l4 &&& (31 : Int32))) : Int32) &&& (1 : Int32)) = 1) → ((¬ (l4 < 0 ∨ 8 ≤ l4.toNatClampNeg)) ∧ ((¬ (l4 < 0 ∨ 8 ≤ l4.toNatClampNeg)) ∧ ((¬ (l3 < 0 ∨ 8 ≤ l3.toNatClampNeg)) ∧ WP X (d + 1) 15 (5, [some (.ref 50), some (.ref 1), some (.int l2), some (.int (l3 + (1 : Int32))), some (.int (l4 + (1 : Int32))), none, none], [], Wd f fl (va_up g 51 (upd (g 51) (l3.toNatClampNeg) ((((1 : Int32) <<< (((2 : Int32) * ((g 3) l4.toNatClampNeg)) &&& (31 : Int32))) : Int32) ||| ((g 2) l4.toNatClampNeg)))) gl hh v tx) P))))))) :
    WP X (d + 1) 15 (5, [some (.ref 50), some (.ref 1), some (.int l2), some (.int l3), some (.int l4), none, none], [], Wd f fl g gl hh v tx) P := by
  refine WP.run hP_15 3 (c' := (11, [some (.ref 50), some (.ref 1), some (.int l2), some (.int l3), some (.int l4), none, none], [.int (f 64), .int l4], Wd f fl g gl hh v tx)) rfl ?_
  refine WP.br hP_15 (q := (f 64) ≤ l4) (t := 58) (f := 14) (L := [some (.ref 50), some (.ref 1), some (.int l2), some (.int l3), some (.int l4), none, none]) (st := []) (w := Wd f fl g gl hh v tx) rfl (fun c1 => ?_) (fun c1 => ?_)
  · have h2 := h.1 c1
    refine WP.run hP_15 3 (c' := (64, [some (.ref 50), none, none, some (.int l3), none, none, none], [.int 1000000, .ref 52], Wd f fl g gl hh v tx)) rfl ?_
    refine WP.call hP_15 hP_258 (as := [.ref 52, .int 1000000]) (pc' := 67) (L' := [some (.ref 50), none, none, some (.int l3), none, none, none]) (st' := []) (w1 := Wd f fl g gl hh v tx) rfl ⟨Nat.le_of_ble_eq_true rfl, Nat.le_of_ble_eq_true rfl⟩ rfl ?_
    exact h2
  · have h3 := h.2 c1
    refine WP.run hP_15 6 (c' := (21, [some (.ref 50), some (.ref 1), some (.int l2), some (.int l3), some (.int l4), none, none], [.int 1, .int (((l2 >>> (l4 &&& (31 : Int32))) : Int32) &&& (1 : Int32))], Wd f fl g gl hh v tx)) rfl ?_
    refine WP.br hP_15 (q := ¬ (((l2 >>> (l4 &&& (31 : Int32))) : Int32) &&& (1 : Int32)) = 1) (t := 52) (f := 24) (L := [some (.ref 50), some (.ref 1), some (.int l2), some (.int l3), some (.int l4), none, none]) (st := []) (w := Wd f fl g gl hh v tx) rfl (fun c4 => ?_) (fun c4 => ?_)
    · have h5 := h3.1 c4
      refine WP.run hP_15 2 (c' := (5, [some (.ref 50), some (.ref 1), some (.int l2), some (.int l3), some (.int (l4 + (1 : Int32))), none, none], [], Wd f fl g gl hh v tx)) rfl ?_
      exact h5
    · have h6 := h3.2 (Classical.not_not.mp c4)
      refine WP.run hP_15 8 (c' := (37, [some (.ref 50), some (.ref 1), some (.int l2), some (.int l3), some (.int l4), none, none], [.int l4, .ref 3, .int 2, .int 1, .int l3, .ref 51], Wd f fl g gl hh v tx)) rfl ?_
      refine WP.of (fun _ _ => Ex.iald hP_15 rfl (Wa_3 _ _ _ _ _ _ _) h6.1) ?_
      have h7 := h6.2
      refine WP.run hP_15 5 (c' := (46, [some (.ref 50), some (.ref 1), some (.int l2), some (.int l3), some (.int l4), none, none], [.int l4, .ref 2, .int (((1 : Int32) <<< (((2 : Int32) * ((g 3) l4.toNatClampNeg)) &&& (31 : Int32))) : Int32), .int l3, .ref 51], Wd f fl g gl hh v tx)) rfl ?_
      refine WP.of (fun _ _ => Ex.iald hP_15 rfl (Wa_2 _ _ _ _ _ _ _) h7.1) ?_
      have h8 := h7.2
      refine WP.run hP_15 1 (c' := (48, [some (.ref 50), some (.ref 1), some (.int l2), some (.int l3), some (.int l4), none, none], [.int ((((1 : Int32) <<< (((2 : Int32) * ((g 3) l4.toNatClampNeg)) &&& (31 : Int32))) : Int32) ||| ((g 2) l4.toNatClampNeg)), .int l3, .ref 51], Wd f fl g gl hh v tx)) rfl ?_
      refine WP.of (fun _ _ => Ex.iast hP_15 (w2 := Wd f fl (va_up g 51 (upd (g 51) (l3.toNatClampNeg) ((((1 : Int32) <<< (((2 : Int32) * ((g 3) l4.toNatClampNeg)) &&& (31 : Int32))) : Int32) ||| ((g 2) l4.toNatClampNeg)))) gl hh v tx) rfl (Wa_51 _ _ _ _ _ _ _) h8.1 (Ws_51 _ _ _ _ _ _ _ _)) ?_
      have h9 := h8.2
      refine WP.run hP_15 1 (c' := (52, [some (.ref 50), some (.ref 1), some (.int l2), some (.int (l3 + (1 : Int32))), some (.int l4), none, none], [], Wd f fl (va_up g 51 (upd (g 51) (l3.toNatClampNeg) ((((1 : Int32) <<< (((2 : Int32) * ((g 3) l4.toNatClampNeg)) &&& (31 : Int32))) : Int32) ||| ((g 2) l4.toNatClampNeg)))) gl hh v tx)) rfl ?_
      refine WP.run hP_15 2 (c' := (5, [some (.ref 50), some (.ref 1), some (.int l2), some (.int (l3 + (1 : Int32))), some (.int (l4 + (1 : Int32))), none, none], [], Wd f fl (va_up g 51 (upd (g 51) (l3.toNatClampNeg) ((((1 : Int32) <<< (((2 : Int32) * ((g 3) l4.toNatClampNeg)) &&& (31 : Int32))) : Int32) ||| ((g 2) l4.toNatClampNeg)))) gl hh v tx)) rfl ?_
      exact h9

set_option maxRecDepth 20000 in
theorem b_ycb_fewest_50_1_67 (X : mm_X) (d : Nat) (f : Nat → Int32) (fl : Nat → Int64) (g : Nat → Nat → Int32) (gl : Nat → Nat → Int64) (hh : Nat → Nat → Option Nat) (v : Nat → Value) (tx : mm_W) (l3 : Int32)  (P : Option Value → mm_W → Prop)
    (h : WP X (d) 15 (75, [some (.ref 50), none, none, some (.int l3), some (.int 0), none, none], [], Wd (va_up f 3203 0) fl g gl hh v tx) P) :
    WP X (d) 15 (67, [some (.ref 50), none, none, some (.int l3), none, none, none], [], Wd f fl g gl hh v tx) P := by
  refine WP.run hP_15 5 (c' := (75, [some (.ref 50), none, none, some (.int l3), some (.int 0), none, none], [], Wd (va_up f 3203 0) fl g gl hh v tx)) rfl ?_
  exact h

set_option maxRecDepth 20000 in
theorem b_ycb_fewest_50_1_75 (X : mm_X) (d : Nat) (f : Nat → Int32) (fl : Nat → Int64) (g : Nat → Nat → Int32) (gl : Nat → Nat → Int64) (hh : Nat → Nat → Option Nat) (v : Nat → Value) (tx : mm_W) (l3 : Int32) (l4 : Int32)  (P : Option Value → mm_W → Prop)
    (h : ((l3 ≤ l4) → ((((f 3203) ≤ 0) → WP X (d) 15 (151, [some (.ref 50), none, none, some (.int l3), some (.int 0), some (.int 0), none], [], Wd f fl g gl hh v tx) P) ∧
      ((¬ ((f 3203) ≤ 0)) → WP X (d) 15 (151, [some (.ref 50), none, none, some (.int l3), some (.int 1), some (.int 0), none], [], Wd f fl g gl hh v tx) P))) ∧
    ((¬ (l3 ≤ l4)) → WP X (d) 15 (84, [some (.ref 50), none, none, some (.int l3), some (.int l4), some (.int 0), none], [], Wd f fl g gl hh v tx) P)) :
    WP X (d) 15 (75, [some (.ref 50), none, none, some (.int l3), some (.int l4), none, none], [], Wd f fl g gl hh v tx) P := by
  refine WP.run hP_15 2 (c' := (78, [some (.ref 50), none, none, some (.int l3), some (.int l4), none, none], [.int l3, .int l4], Wd f fl g gl hh v tx)) rfl ?_
  refine WP.br hP_15 (q := l3 ≤ l4) (t := 134) (f := 81) (L := [some (.ref 50), none, none, some (.int l3), some (.int l4), none, none]) (st := []) (w := Wd f fl g gl hh v tx) rfl (fun c1 => ?_) (fun c1 => ?_)
  · have h2 := h.1 c1
    refine WP.run hP_15 2 (c' := (138, [some (.ref 50), none, none, some (.int l3), none, none, none], [.int (f 3203)], Wd f fl g gl hh v tx)) rfl ?_
    refine WP.br hP_15 (q := (f 3203) ≤ 0) (t := 145) (f := 141) (L := [some (.ref 50), none, none, some (.int l3), none, none, none]) (st := []) (w := Wd f fl g gl hh v tx) rfl (fun c3 => ?_) (fun c3 => ?_)
    · have h4 := h2.1 c3
      refine WP.run hP_15 1 (c' := (146, [some (.ref 50), none, none, some (.int l3), none, none, none], [.int 0], Wd f fl g gl hh v tx)) rfl ?_
      refine WP.run hP_15 2 (c' := (149, [some (.ref 50), none, none, some (.int l3), some (.int 0), none, none], [.int 0], Wd f fl g gl hh v tx)) rfl ?_
      refine WP.run hP_15 1 (c' := (151, [some (.ref 50), none, none, some (.int l3), some (.int 0), some (.int 0), none], [], Wd f fl g gl hh v tx)) rfl ?_
      exact h4
    · have h5 := h2.2 c3
      refine WP.run hP_15 4 (c' := (149, [some (.ref 50), none, none, some (.int l3), some (.int 1), none, none], [.int 0], Wd f fl g gl hh v tx)) rfl ?_
      refine WP.run hP_15 1 (c' := (151, [some (.ref 50), none, none, some (.int l3), some (.int 1), some (.int 0), none], [], Wd f fl g gl hh v tx)) rfl ?_
      exact h5
  · have h6 := h.2 c1
    refine WP.run hP_15 2 (c' := (84, [some (.ref 50), none, none, some (.int l3), some (.int l4), some (.int 0), none], [], Wd f fl g gl hh v tx)) rfl ?_
    exact h6

set_option maxRecDepth 20000 in
theorem b_ycb_fewest_50_1_151 (X : mm_X) (d : Nat) (f : Nat → Int32) (fl : Nat → Int64) (g : Nat → Nat → Int32) (gl : Nat → Nat → Int64) (hh : Nat → Nat → Option Nat) (v : Nat → Value) (tx : mm_W) (l3 : Int32) (l4 : Int32) (l5 : Int32)  (P : Option Value → mm_W → Prop)
    (h : ((128 ≤ l5) → WP X (d + 1) 15 (186, [some (.ref 50), none, none, some (.int l3), none, some (.int 1000000), some (.int 0)], [], Wd f fl g gl hh v tx) P) ∧
    ((¬ (128 ≤ l5)) → (((l4 = 0) → WP X (d + 1) 15 (186, [some (.ref 50), none, none, some (.int l3), none, some (.int 1000000), some (.int 0)], [], Wd f fl g gl hh v tx) P) ∧
      ((¬ l4 = 0) → WP X (d) 16 (0, [some (.ref 50), some (.int l3), none, none, none, none, none, none], [], Wd f fl g gl hh v tx) (fun rv w2 => WP X (d + 1) 15 (171, [some (.ref 50), none, none, some (.int l3), some (.int l4), some (.int l5), none], rv.toList ++ [], w2) P))))) :
    WP X (d + 1) 15 (151, [some (.ref 50), none, none, some (.int l3), some (.int l4), some (.int l5), none], [], Wd f fl g gl hh v tx) P := by
  refine WP.run hP_15 4 (c' := (158, [some (.ref 50), none, none, some (.int l3), some (.int l4), some (.int l5), none], [.int 128, .int l5], Wd f fl g gl hh v tx)) rfl ?_
  refine WP.br hP_15 (q := 128 ≤ l5) (t := 179) (f := 161) (L := [some (.ref 50), none, none, some (.int l3), some (.int l4), some (.int l5), none]) (st := []) (w := Wd f fl g gl hh v tx) rfl (fun c1 => ?_) (fun c1 => ?_)
  · have h2 := h.1 c1
    refine WP.run hP_15 1 (c' := (181, [some (.ref 50), none, none, some (.int l3), none, none, none], [.int 1000000], Wd f fl g gl hh v tx)) rfl ?_
    refine WP.run hP_15 2 (c' := (184, [some (.ref 50), none, none, some (.int l3), none, some (.int 1000000), none], [.int 0], Wd f fl g gl hh v tx)) rfl ?_
    refine WP.run hP_15 1 (c' := (186, [some (.ref 50), none, none, some (.int l3), none, some (.int 1000000), some (.int 0)], [], Wd f fl g gl hh v tx)) rfl ?_
    exact h2
  · have h3 := h.2 c1
    refine WP.run hP_15 1 (c' := (163, [some (.ref 50), none, none, some (.int l3), some (.int l4), some (.int l5), none], [.int l4], Wd f fl g gl hh v tx)) rfl ?_
    refine WP.br hP_15 (q := l4 = 0) (t := 179) (f := 166) (L := [some (.ref 50), none, none, some (.int l3), some (.int l4), some (.int l5), none]) (st := []) (w := Wd f fl g gl hh v tx) rfl (fun c4 => ?_) (fun c4 => ?_)
    · have h5 := h3.1 c4
      refine WP.run hP_15 1 (c' := (181, [some (.ref 50), none, none, some (.int l3), none, none, none], [.int 1000000], Wd f fl g gl hh v tx)) rfl ?_
      refine WP.run hP_15 2 (c' := (184, [some (.ref 50), none, none, some (.int l3), none, some (.int 1000000), none], [.int 0], Wd f fl g gl hh v tx)) rfl ?_
      refine WP.run hP_15 1 (c' := (186, [some (.ref 50), none, none, some (.int l3), none, some (.int 1000000), some (.int 0)], [], Wd f fl g gl hh v tx)) rfl ?_
      exact h5
    · have h6 := h3.2 c4
      refine WP.run hP_15 2 (c' := (168, [some (.ref 50), none, none, some (.int l3), some (.int l4), some (.int l5), none], [.int l3, .ref 50], Wd f fl g gl hh v tx)) rfl ?_
      refine WP.call hP_15 hP_16 (as := [.ref 50, .int l3]) (pc' := 171) (L' := [some (.ref 50), none, none, some (.int l3), some (.int l4), some (.int l5), none]) (st' := []) (w1 := Wd f fl g gl hh v tx) rfl ⟨Nat.le_of_ble_eq_true rfl, Nat.le_of_ble_eq_true rfl⟩ rfl ?_
      exact h6

set_option maxRecDepth 20000 in
theorem b_ycb_fewest_50_1_84 (X : mm_X) (d : Nat) (f : Nat → Int32) (fl : Nat → Int64) (g : Nat → Nat → Int32) (gl : Nat → Nat → Int64) (hh : Nat → Nat → Option Nat) (v : Nat → Value) (tx : mm_W) (l3 : Int32) (l4 : Int32) (l5 : Int32)  (P : Option Value → mm_W → Prop)
    (h : ((l3 ≤ l5) → WP X (d + 1) 15 (75, [some (.ref 50), none, none, some (.int l3), some (.int (l4 + (1 : Int32))), none, none], [], Wd f fl g gl hh v tx) P) ∧
    ((¬ (l3 ≤ l5)) → ((¬ (l4 < 0 ∨ 8 ≤ l4.toNatClampNeg)) ∧ ((¬ (l5 < 0 ∨ 8 ≤ l5.toNatClampNeg)) ∧ WP X (d) 18 (0, [some (.int ((g 51) l4.toNatClampNeg)), some (.int ((g 51) l5.toNatClampNeg)), none], [], Wd f fl g gl hh v tx) (fun rv w2 => WP X (d + 1) 15 (108, [some (.ref 50), none, none, some (.int l3), some (.int l4), some (.int l5), none], rv.toList ++ [.ref 50], w2) P))))) :
    WP X (d + 1) 15 (84, [some (.ref 50), none, none, some (.int l3), some (.int l4), some (.int l5), none], [], Wd f fl g gl hh v tx) P := by
  refine WP.run hP_15 2 (c' := (87, [some (.ref 50), none, none, some (.int l3), some (.int l4), some (.int l5), none], [.int l3, .int l5], Wd f fl g gl hh v tx)) rfl ?_
  refine WP.br hP_15 (q := l3 ≤ l5) (t := 128) (f := 90) (L := [some (.ref 50), none, none, some (.int l3), some (.int l4), some (.int l5), none]) (st := []) (w := Wd f fl g gl hh v tx) rfl (fun c1 => ?_) (fun c1 => ?_)
  · have h2 := h.1 c1
    refine WP.run hP_15 2 (c' := (75, [some (.ref 50), none, none, some (.int l3), some (.int (l4 + (1 : Int32))), none, none], [], Wd f fl g gl hh v tx)) rfl ?_
    exact h2
  · have h3 := h.2 c1
    refine WP.run hP_15 4 (c' := (97, [some (.ref 50), none, none, some (.int l3), some (.int l4), some (.int l5), none], [.int l4, .ref 51, .ref 50], Wd f fl g gl hh v tx)) rfl ?_
    refine WP.of (fun _ _ => Ex.iald hP_15 rfl (Wa_51 _ _ _ _ _ _ _) h3.1) ?_
    have h4 := h3.2
    refine WP.run hP_15 3 (c' := (104, [some (.ref 50), none, none, some (.int l3), some (.int l4), some (.int l5), none], [.int l5, .ref 51, .int ((g 51) l4.toNatClampNeg), .ref 50], Wd f fl g gl hh v tx)) rfl ?_
    refine WP.of (fun _ _ => Ex.iald hP_15 rfl (Wa_51 _ _ _ _ _ _ _) h4.1) ?_
    have h5 := h4.2
    refine WP.call hP_15 hP_18 (as := [.int ((g 51) l4.toNatClampNeg), .int ((g 51) l5.toNatClampNeg)]) (pc' := 108) (L' := [some (.ref 50), none, none, some (.int l3), some (.int l4), some (.int l5), none]) (st' := [.ref 50]) (w1 := Wd f fl g gl hh v tx) rfl ⟨Nat.le_of_ble_eq_true rfl, Nat.le_of_ble_eq_true rfl⟩ rfl ?_
    exact h5

set_option maxRecDepth 20000 in
theorem b_ycb_fewest_50_1_186 (X : mm_X) (d : Nat) (f : Nat → Int32) (fl : Nat → Int64) (g : Nat → Nat → Int32) (gl : Nat → Nat → Int64) (hh : Nat → Nat → Option Nat) (v : Nat → Value) (tx : mm_W) (l3 : Int32) (l5 : Int32) (l6 : Int32)  (P : Option Value → mm_W → Prop)
    (h : ((l3 ≤ l6) → P (some (.int l5)) (Wd f fl g gl hh v tx)) ∧
    ((¬ (l3 ≤ l6)) → ((¬ (l6 < 0 ∨ 8 ≤ l6.toNatClampNeg)) ∧ (((128 ≤ ((g 51) l6.toNatClampNeg)) → WP X (d) 15 (186, [some (.ref 50), none, none, some (.int l3), none, some (.int (if 1000000 < l5 then 1000000 else l5)), some (.int (l6 + (1 : Int32)))], [], Wd f fl g gl hh v tx) P) ∧
      ((¬ (128 ≤ ((g 51) l6.toNatClampNeg))) → ((¬ (l6 < 0 ∨ 8 ≤ l6.toNatClampNeg)) ∧ ((¬ (((g 51) l6.toNatClampNeg) < 0 ∨ 128 ≤ ((g 51) l6.toNatClampNeg).toNatClampNeg)) ∧ WP X (d) 15 (186, [some (.ref 50), none, none, some (.int l3), none, some (.int (if ((g 52) ((g 51) l6.toNatClampNeg).toNatClampNeg) < l5 then ((g 52) ((g 51) l6.toNatClampNeg).toNatClampNeg) else l5)), some (.int (l6 + (1 : Int32)))], [], Wd f fl g gl hh v tx) P))))))) :
    WP X (d) 15 (186, [some (.ref 50), none, none, some (.int l3), none, some (.int l5), some (.int l6)], [], Wd f fl g gl hh v tx) P := by
  refine WP.run hP_15 2 (c' := (189, [some (.ref 50), none, none, some (.int l3), none, some (.int l5), some (.int l6)], [.int l3, .int l6], Wd f fl g gl hh v tx)) rfl ?_
  refine WP.br hP_15 (q := l3 ≤ l6) (t := 237) (f := 192) (L := [some (.ref 50), none, none, some (.int l3), none, some (.int l5), some (.int l6)]) (st := []) (w := Wd f fl g gl hh v tx) rfl (fun c1 => ?_) (fun c1 => ?_)
  · have h2 := h.1 c1
    refine WP.run hP_15 1 (c' := (239, [none, none, none, none, none, some (.int l5), none], [.int l5], Wd f fl g gl hh v tx)) rfl ?_
    exact WP.retI hP_15 rfl rfl h2
  · have h3 := h.2 c1
    refine WP.run hP_15 4 (c' := (200, [some (.ref 50), none, none, some (.int l3), none, some (.int l5), some (.int l6)], [.int l6, .ref 51, .int l5], Wd f fl g gl hh v tx)) rfl ?_
    refine WP.of (fun _ _ => Ex.iald hP_15 rfl (Wa_51 _ _ _ _ _ _ _) h3.1) ?_
    have h4 := h3.2
    refine WP.run hP_15 3 (c' := (206, [some (.ref 50), none, none, some (.int l3), none, some (.int l5), some (.int l6)], [.int 128, .int ((g 51) l6.toNatClampNeg), .int l5], Wd f fl g gl hh v tx)) rfl ?_
    refine WP.br hP_15 (q := 128 ≤ ((g 51) l6.toNatClampNeg)) (t := 224) (f := 209) (L := [some (.ref 50), none, none, some (.int l3), none, some (.int l5), some (.int l6)]) (st := [.int l5]) (w := Wd f fl g gl hh v tx) rfl (fun c5 => ?_) (fun c5 => ?_)
    · have h6 := h4.1 c5
      refine WP.run hP_15 1 (c' := (226, [some (.ref 50), none, none, some (.int l3), none, none, some (.int l6)], [.int 1000000, .int l5], Wd f fl g gl hh v tx)) rfl ?_
      refine WP.run hP_15 1 (c' := (229, [some (.ref 50), none, none, some (.int l3), none, none, some (.int l6)], [.int (if 1000000 < l5 then 1000000 else l5)], Wd f fl g gl hh v tx)) rfl ?_
      refine WP.run hP_15 1 (c' := (231, [some (.ref 50), none, none, some (.int l3), none, some (.int (if 1000000 < l5 then 1000000 else l5)), some (.int l6)], [], Wd f fl g gl hh v tx)) rfl ?_
      refine WP.run hP_15 2 (c' := (186, [some (.ref 50), none, none, some (.int l3), none, some (.int (if 1000000 < l5 then 1000000 else l5)), some (.int (l6 + (1 : Int32)))], [], Wd f fl g gl hh v tx)) rfl ?_
      exact h6
    · have h7 := h4.2 c5
      refine WP.run hP_15 5 (c' := (219, [some (.ref 50), none, none, some (.int l3), none, some (.int l5), some (.int l6)], [.int l6, .ref 51, .ref 52, .int l5], Wd f fl g gl hh v tx)) rfl ?_
      refine WP.of (fun _ _ => Ex.iald hP_15 rfl (Wa_51 _ _ _ _ _ _ _) h7.1) ?_
      have h8 := h7.2
      refine WP.of (fun _ _ => Ex.iald hP_15 rfl (Wa_52 _ _ _ _ _ _ _) h8.1) ?_
      have h9 := h8.2
      refine WP.run hP_15 2 (c' := (229, [some (.ref 50), none, none, some (.int l3), none, none, some (.int l6)], [.int (if ((g 52) ((g 51) l6.toNatClampNeg).toNatClampNeg) < l5 then ((g 52) ((g 51) l6.toNatClampNeg).toNatClampNeg) else l5)], Wd f fl g gl hh v tx)) rfl ?_
      refine WP.run hP_15 1 (c' := (231, [some (.ref 50), none, none, some (.int l3), none, some (.int (if ((g 52) ((g 51) l6.toNatClampNeg).toNatClampNeg) < l5 then ((g 52) ((g 51) l6.toNatClampNeg).toNatClampNeg) else l5)), some (.int l6)], [], Wd f fl g gl hh v tx)) rfl ?_
      refine WP.run hP_15 2 (c' := (186, [some (.ref 50), none, none, some (.int l3), none, some (.int (if ((g 52) ((g 51) l6.toNatClampNeg).toNatClampNeg) < l5 then ((g 52) ((g 51) l6.toNatClampNeg).toNatClampNeg) else l5)), some (.int (l6 + (1 : Int32)))], [], Wd f fl g gl hh v tx)) rfl ?_
      exact h9

set_option maxRecDepth 20000 in
theorem b_ycb_fewest_50_1_171 (X : mm_X) (d : Nat) (f : Nat → Int32) (fl : Nat → Int64) (g : Nat → Nat → Int32) (gl : Nat → Nat → Int64) (hh : Nat → Nat → Option Nat) (v : Nat → Value) (tx : mm_W) (l3 : Int32) (l4 : Int32) (l5 : Int32) (s0 : Int32)  (P : Option Value → mm_W → Prop)
    (h : WP X (d) 15 (151, [some (.ref 50), none, none, some (.int l3), some (.int s0), some (.int (l5 + (1 : Int32))), none], [], Wd f fl g gl hh v tx) P) :
    WP X (d) 15 (171, [some (.ref 50), none, none, some (.int l3), some (.int l4), some (.int l5), none], [.int s0], Wd f fl g gl hh v tx) P := by
  refine WP.run hP_15 1 (c' := (173, [some (.ref 50), none, none, some (.int l3), some (.int s0), some (.int l5), none], [], Wd f fl g gl hh v tx)) rfl ?_
  refine WP.run hP_15 2 (c' := (151, [some (.ref 50), none, none, some (.int l3), some (.int s0), some (.int (l5 + (1 : Int32))), none], [], Wd f fl g gl hh v tx)) rfl ?_
  exact h

set_option maxRecDepth 20000 in
theorem b_ycb_fewest_50_1_108 (X : mm_X) (d : Nat) (f : Nat → Int32) (fl : Nat → Int64) (g : Nat → Nat → Int32) (gl : Nat → Nat → Int64) (hh : Nat → Nat → Option Nat) (v : Nat → Value) (tx : mm_W) (l3 : Int32) (l4 : Int32) (l5 : Int32) (s0 : Int32)  (P : Option Value → mm_W → Prop)
    (h : (¬ (l5 < 0 ∨ 8 ≤ l5.toNatClampNeg)) ∧ WP X (d) 19 (0, [some (.int ((g 51) l5.toNatClampNeg))], [], Wd f fl g gl hh v tx) (fun rv w2 => WP X (d + 1) 15 (118, [some (.ref 50), none, none, some (.int l3), some (.int l4), some (.int l5), none], rv.toList ++ [.int s0, .ref 50], w2) P)) :
    WP X (d + 1) 15 (108, [some (.ref 50), none, none, some (.int l3), some (.int l4), some (.int l5), none], [.int s0, .ref 50], Wd f fl g gl hh v tx) P := by
  refine WP.run hP_15 3 (c' := (114, [some (.ref 50), none, none, some (.int l3), some (.int l4), some (.int l5), none], [.int l5, .ref 51, .int s0, .ref 50], Wd f fl g gl hh v tx)) rfl ?_
  refine WP.of (fun _ _ => Ex.iald hP_15 rfl (Wa_51 _ _ _ _ _ _ _) h.1) ?_
  have h1 := h.2
  refine WP.call hP_15 hP_19 (as := [.int ((g 51) l5.toNatClampNeg)]) (pc' := 118) (L' := [some (.ref 50), none, none, some (.int l3), some (.int l4), some (.int l5), none]) (st' := [.int s0, .ref 50]) (w1 := Wd f fl g gl hh v tx) rfl ⟨Nat.le_of_ble_eq_true rfl, Nat.le_of_ble_eq_true rfl⟩ rfl ?_
  exact h1

set_option maxRecDepth 20000 in
theorem b_ycb_fewest_50_1_118 (X : mm_X) (d : Nat) (f : Nat → Int32) (fl : Nat → Int64) (g : Nat → Nat → Int32) (gl : Nat → Nat → Int64) (hh : Nat → Nat → Option Nat) (v : Nat → Value) (tx : mm_W) (l3 : Int32) (l4 : Int32) (l5 : Int32) (s0 : Int32) (s1 : Int32)  (P : Option Value → mm_W → Prop)
    (h : WP X (d) 17 (0, [some (.ref 50), some (.int s1), some (.int s0)], [], Wd f fl g gl hh v tx) (fun rv w2 => WP X (d + 1) 15 (121, [some (.ref 50), none, none, some (.int l3), some (.int l4), some (.int l5), none], rv.toList ++ [], w2) P)) :
    WP X (d + 1) 15 (118, [some (.ref 50), none, none, some (.int l3), some (.int l4), some (.int l5), none], [.int s0, .int s1, .ref 50], Wd f fl g gl hh v tx) P := by
  refine WP.call hP_15 hP_17 (as := [.ref 50, .int s1, .int s0]) (pc' := 121) (L' := [some (.ref 50), none, none, some (.int l3), some (.int l4), some (.int l5), none]) (st' := []) (w1 := Wd f fl g gl hh v tx) rfl ⟨Nat.le_of_ble_eq_true rfl, Nat.le_of_ble_eq_true rfl⟩ rfl ?_
  exact h

set_option maxRecDepth 20000 in
theorem b_ycb_fewest_50_1_121 (X : mm_X) (d : Nat) (f : Nat → Int32) (fl : Nat → Int64) (g : Nat → Nat → Int32) (gl : Nat → Nat → Int64) (hh : Nat → Nat → Option Nat) (v : Nat → Value) (tx : mm_W) (l3 : Int32) (l4 : Int32) (l5 : Int32) (s0 : Int32)  (P : Option Value → mm_W → Prop)
    (h : WP X (d) 15 (84, [some (.ref 50), none, none, some (.int l3), some (.int l4), some (.int (l5 + (1 : Int32))), none], [], Wd f fl g gl hh v tx) P) :
    WP X (d) 15 (121, [some (.ref 50), none, none, some (.int l3), some (.int l4), some (.int l5), none], [.int s0], Wd f fl g gl hh v tx) P := by
  refine WP.run hP_15 3 (c' := (84, [some (.ref 50), none, none, some (.int l3), some (.int l4), some (.int (l5 + (1 : Int32))), none], [], Wd f fl g gl hh v tx)) rfl ?_
  exact h

set_option maxRecDepth 20000 in
theorem b_x_twofold_0 (X : mm_X) (d : Nat) (f : Nat → Int32) (fl : Nat → Int64) (g : Nat → Nat → Int32) (gl : Nat → Nat → Int64) (hh : Nat → Nat → Option Nat) (v : Nat → Value) (tx : mm_W)   (P : Option Value → mm_W → Prop)
    (h : WP X (d) 15 (0, [some (.ref 50), some (.ref 1), some (.int ((((1 : Int32) <<< ((f 64) &&& (31 : Int32))) : Int32) - (1 : Int32))), none, none, none, none], [], Wd f fl g gl hh v tx) (fun rv w2 => WP X (d + 1) 85 (22, [some (.ref 0), none], rv.toList ++ [], w2) P)) :
    WP X (d + 1) 85 (0, [some (.ref 0), none], [], Wd f fl g gl hh v tx) P := by
  refine WP.run hP_85 11 (c' := (19, [some (.ref 0), none], [.int ((((1 : Int32) <<< ((f 64) &&& (31 : Int32))) : Int32) - (1 : Int32)), .ref 1, .ref 50], Wd f fl g gl hh v tx)) rfl ?_
  refine WP.call hP_85 hP_15 (as := [.ref 50, .ref 1, .int ((((1 : Int32) <<< ((f 64) &&& (31 : Int32))) : Int32) - (1 : Int32))]) (pc' := 22) (L' := [some (.ref 0), none]) (st' := []) (w1 := Wd f fl g gl hh v tx) rfl ⟨Nat.le_of_ble_eq_true rfl, Nat.le_of_ble_eq_true rfl⟩ rfl ?_
  exact h

set_option maxRecDepth 20000 in
theorem b_x_twofold_22 (X : mm_X) (d : Nat) (f : Nat → Int32) (fl : Nat → Int64) (g : Nat → Nat → Int32) (gl : Nat → Nat → Int64) (hh : Nat → Nat → Option Nat) (v : Nat → Value) (tx : mm_W) (s0 : Int32)  (P : Option Value → mm_W → Prop)
    (h : ((1000000 ≤ s0) → P (some (.int (-1))) (Wd f fl g gl hh v tx)) ∧
    ((¬ (1000000 ≤ s0)) → P (some (.int s0)) (Wd f fl g gl hh v tx))) :
    WP X (d) 85 (22, [some (.ref 0), none], [.int s0], Wd f fl g gl hh v tx) P := by
  refine WP.run hP_85 3 (c' := (27, [some (.ref 0), some (.int s0)], [.int 1000000, .int s0], Wd f fl g gl hh v tx)) rfl ?_
  refine WP.br hP_85 (q := 1000000 ≤ s0) (t := 34) (f := 30) (L := [some (.ref 0), some (.int s0)]) (st := []) (w := Wd f fl g gl hh v tx) rfl (fun c1 => ?_) (fun c1 => ?_)
  · have h2 := h.1 c1
    refine WP.run hP_85 1 (c' := (35, [none, none], [.int (-1)], Wd f fl g gl hh v tx)) rfl ?_
    exact WP.retI hP_85 rfl rfl h2
  · have h3 := h.2 c1
    refine WP.run hP_85 2 (c' := (35, [some (.ref 0), some (.int s0)], [.int s0], Wd f fl g gl hh v tx)) rfl ?_
    exact WP.retI hP_85 rfl rfl h3

set_option maxRecDepth 20000 in
theorem b_x_struck_0 (X : mm_X) (d : Nat) (f : Nat → Int32) (fl : Nat → Int64) (g : Nat → Nat → Int32) (gl : Nat → Nat → Int64) (hh : Nat → Nat → Option Nat) (v : Nat → Value) (tx : mm_W) (p0 : Int32)  (P : Option Value → mm_W → Prop)
    (h : ((p0 = 0) → WP X (d) 86 (25, [some (.ref 0), some (.int p0), some (.int ((((1 : Int32) <<< ((f 64) &&& (31 : Int32))) : Int32) - (1 : Int32))), some (.int 0), none], [], Wd f fl g gl hh v tx) P) ∧
    ((¬ p0 = 0) → (((p0 = 1) → WP X (d) 86 (25, [some (.ref 0), some (.int p0), some (.int ((((1 : Int32) <<< ((f 64) &&& (31 : Int32))) : Int32) - (1 : Int32))), some (.int 0), none], [], Wd f fl g gl hh v tx) P) ∧
      ((¬ p0 = 1) → P (some (.int (-1))) (Wd f fl g gl hh v tx))))) :
    WP X (d) 86 (0, [some (.ref 0), some (.int p0), none, none, none], [], Wd f fl g gl hh v tx) P := by
  refine WP.run hP_86 1 (c' := (1, [some (.ref 0), some (.int p0), none, none, none], [.int p0], Wd f fl g gl hh v tx)) rfl ?_
  refine WP.br hP_86 (q := p0 = 0) (t := 11) (f := 4) (L := [some (.ref 0), some (.int p0), none, none, none]) (st := []) (w := Wd f fl g gl hh v tx) rfl (fun c1 => ?_) (fun c1 => ?_)
  · have h2 := h.1 c1
    refine WP.run hP_86 7 (c' := (22, [some (.ref 0), some (.int p0), none, none, none], [.int ((((1 : Int32) <<< ((f 64) &&& (31 : Int32))) : Int32) - (1 : Int32))], Wd f fl g gl hh v tx)) rfl ?_
    refine WP.run hP_86 2 (c' := (24, [some (.ref 0), some (.int p0), some (.int ((((1 : Int32) <<< ((f 64) &&& (31 : Int32))) : Int32) - (1 : Int32))), none, none], [.int 0], Wd f fl g gl hh v tx)) rfl ?_
    refine WP.run hP_86 1 (c' := (25, [some (.ref 0), some (.int p0), some (.int ((((1 : Int32) <<< ((f 64) &&& (31 : Int32))) : Int32) - (1 : Int32))), some (.int 0), none], [], Wd f fl g gl hh v tx)) rfl ?_
    exact h2
  · have h3 := h.2 c1
    refine WP.run hP_86 2 (c' := (6, [some (.ref 0), some (.int p0), none, none, none], [.int 1, .int p0], Wd f fl g gl hh v tx)) rfl ?_
    refine WP.br hP_86 (q := p0 = 1) (t := 11) (f := 9) (L := [some (.ref 0), some (.int p0), none, none, none]) (st := []) (w := Wd f fl g gl hh v tx) rfl (fun c4 => ?_) (fun c4 => ?_)
    · have h5 := h3.1 c4
      refine WP.run hP_86 7 (c' := (22, [some (.ref 0), some (.int p0), none, none, none], [.int ((((1 : Int32) <<< ((f 64) &&& (31 : Int32))) : Int32) - (1 : Int32))], Wd f fl g gl hh v tx)) rfl ?_
      refine WP.run hP_86 2 (c' := (24, [some (.ref 0), some (.int p0), some (.int ((((1 : Int32) <<< ((f 64) &&& (31 : Int32))) : Int32) - (1 : Int32))), none, none], [.int 0], Wd f fl g gl hh v tx)) rfl ?_
      refine WP.run hP_86 1 (c' := (25, [some (.ref 0), some (.int p0), some (.int ((((1 : Int32) <<< ((f 64) &&& (31 : Int32))) : Int32) - (1 : Int32))), some (.int 0), none], [], Wd f fl g gl hh v tx)) rfl ?_
      exact h5
    · have h6 := h3.2 c4
      refine WP.run hP_86 1 (c' := (10, [some (.ref 0), some (.int p0), none, none, none], [.int (-1)], Wd f fl g gl hh v tx)) rfl ?_
      exact WP.retI hP_86 rfl rfl h6

set_option maxRecDepth 20000 in
theorem b_x_struck_25 (X : mm_X) (d : Nat) (f : Nat → Int32) (fl : Nat → Int64) (g : Nat → Nat → Int32) (gl : Nat → Nat → Int64) (hh : Nat → Nat → Option Nat) (v : Nat → Value) (tx : mm_W) (l1 : Int32) (l2 : Int32) (l3 : Int32)  (P : Option Value → mm_W → Prop)
    (h : (((f 64) < l3) → P (some (.int (-1))) (Wd f fl g gl hh v tx)) ∧
    ((¬ ((f 64) < l3)) → WP X (d) 86 (39, [some (.ref 0), some (.int l1), some (.int l2), some (.int l3), some (.int 0)], [], Wd f fl g gl hh v tx) P)) :
    WP X (d) 86 (25, [some (.ref 0), some (.int l1), some (.int l2), some (.int l3), none], [], Wd f fl g gl hh v tx) P := by
  refine WP.run hP_86 4 (c' := (33, [some (.ref 0), some (.int l1), some (.int l2), some (.int l3), none], [.int (f 64), .int l3], Wd f fl g gl hh v tx)) rfl ?_
  refine WP.br hP_86 (q := (f 64) < l3) (t := 100) (f := 36) (L := [some (.ref 0), some (.int l1), some (.int l2), some (.int l3), none]) (st := []) (w := Wd f fl g gl hh v tx) rfl (fun c1 => ?_) (fun c1 => ?_)
  · have h2 := h.1 c1
    refine WP.run hP_86 1 (c' := (101, [none, none, none, none, none], [.int (-1)], Wd f fl g gl hh v tx)) rfl ?_
    exact WP.retI hP_86 rfl rfl h2
  · have h3 := h.2 c1
    refine WP.run hP_86 2 (c' := (39, [some (.ref 0), some (.int l1), some (.int l2), some (.int l3), some (.int 0)], [], Wd f fl g gl hh v tx)) rfl ?_
    exact h3

set_option maxRecDepth 20000 in
theorem b_x_struck_39 (X : mm_X) (d : Nat) (f : Nat → Int32) (fl : Nat → Int64) (g : Nat → Nat → Int32) (gl : Nat → Nat → Int64) (hh : Nat → Nat → Option Nat) (v : Nat → Value) (tx : mm_W) (l1 : Int32) (l2 : Int32) (l3 : Int32) (l4 : Int32)  (P : Option Value → mm_W → Prop)
    (h : ((l2 < l4) → WP X (d + 1) 86 (25, [some (.ref 0), some (.int l1), some (.int l2), some (.int (l3 + (1 : Int32))), none], [], Wd f fl g gl hh v tx) P) ∧
    ((¬ (l2 < l4)) → WP X (d) 256 (0, [some (.int l4)], [], Wd f fl g gl hh v tx) (fun rv w2 => WP X (d + 1) 86 (50, [some (.ref 0), some (.int l1), some (.int l2), some (.int l3), some (.int l4)], rv.toList ++ [], w2) P))) :
    WP X (d + 1) 86 (39, [some (.ref 0), some (.int l1), some (.int l2), some (.int l3), some (.int l4)], [], Wd f fl g gl hh v tx) P := by
  refine WP.run hP_86 2 (c' := (42, [some (.ref 0), some (.int l1), some (.int l2), some (.int l3), some (.int l4)], [.int l2, .int l4], Wd f fl g gl hh v tx)) rfl ?_
  refine WP.br hP_86 (q := l2 < l4) (t := 94) (f := 45) (L := [some (.ref 0), some (.int l1), some (.int l2), some (.int l3), some (.int l4)]) (st := []) (w := Wd f fl g gl hh v tx) rfl (fun c1 => ?_) (fun c1 => ?_)
  · have h2 := h.1 c1
    refine WP.run hP_86 2 (c' := (25, [some (.ref 0), some (.int l1), some (.int l2), some (.int (l3 + (1 : Int32))), none], [], Wd f fl g gl hh v tx)) rfl ?_
    exact h2
  · have h3 := h.2 c1
    refine WP.run hP_86 1 (c' := (47, [some (.ref 0), some (.int l1), some (.int l2), some (.int l3), some (.int l4)], [.int l4], Wd f fl g gl hh v tx)) rfl ?_
    refine WP.call hP_86 hP_256 (as := [.int l4]) (pc' := 50) (L' := [some (.ref 0), some (.int l1), some (.int l2), some (.int l3), some (.int l4)]) (st' := []) (w1 := Wd f fl g gl hh v tx) rfl ⟨Nat.le_of_ble_eq_true rfl, Nat.le_of_ble_eq_true rfl⟩ rfl ?_
    exact h3

set_option maxRecDepth 20000 in
theorem b_x_struck_50 (X : mm_X) (d : Nat) (f : Nat → Int32) (fl : Nat → Int64) (g : Nat → Nat → Int32) (gl : Nat → Nat → Int64) (hh : Nat → Nat → Option Nat) (v : Nat → Value) (tx : mm_W) (l1 : Int32) (l2 : Int32) (l3 : Int32) (l4 : Int32) (s0 : Int32)  (P : Option Value → mm_W → Prop)
    (h : ((¬ s0 = l3) → WP X (d + 1) 86 (39, [some (.ref 0), some (.int l1), some (.int l2), some (.int l3), some (.int (l4 + (1 : Int32)))], [], Wd f fl g gl hh v tx) P) ∧
    ((s0 = l3) → WP X (d) 15 (0, [some (.ref 50), some (.ref 1), some (.int (l2 &&& (l4 ^^^ (-1 : Int32)))), none, none, none, none], [], Wd f fl g gl hh v tx) (fun rv w2 => WP X (d + 1) 86 (71, [some (.ref 0), some (.int l1), some (.int l2), some (.int l3), some (.int l4)], rv.toList ++ [], w2) P))) :
    WP X (d + 1) 86 (50, [some (.ref 0), some (.int l1), some (.int l2), some (.int l3), some (.int l4)], [.int s0], Wd f fl g gl hh v tx) P := by
  refine WP.run hP_86 1 (c' := (51, [some (.ref 0), some (.int l1), some (.int l2), some (.int l3), some (.int l4)], [.int l3, .int s0], Wd f fl g gl hh v tx)) rfl ?_
  refine WP.br hP_86 (q := ¬ s0 = l3) (t := 88) (f := 54) (L := [some (.ref 0), some (.int l1), some (.int l2), some (.int l3), some (.int l4)]) (st := []) (w := Wd f fl g gl hh v tx) rfl (fun c1 => ?_) (fun c1 => ?_)
  · have h2 := h.1 c1
    refine WP.run hP_86 2 (c' := (39, [some (.ref 0), some (.int l1), some (.int l2), some (.int l3), some (.int (l4 + (1 : Int32)))], [], Wd f fl g gl hh v tx)) rfl ?_
    exact h2
  · have h3 := h.2 (Classical.not_not.mp c1)
    refine WP.run hP_86 9 (c' := (68, [some (.ref 0), some (.int l1), some (.int l2), some (.int l3), some (.int l4)], [.int (l2 &&& (l4 ^^^ (-1 : Int32))), .ref 1, .ref 50], Wd f fl g gl hh v tx)) rfl ?_
    refine WP.call hP_86 hP_15 (as := [.ref 50, .ref 1, .int (l2 &&& (l4 ^^^ (-1 : Int32)))]) (pc' := 71) (L' := [some (.ref 0), some (.int l1), some (.int l2), some (.int l3), some (.int l4)]) (st' := []) (w1 := Wd f fl g gl hh v tx) rfl ⟨Nat.le_of_ble_eq_true rfl, Nat.le_of_ble_eq_true rfl⟩ rfl ?_
    exact h3

set_option maxRecDepth 20000 in
theorem b_x_struck_71 (X : mm_X) (d : Nat) (f : Nat → Int32) (fl : Nat → Int64) (g : Nat → Nat → Int32) (gl : Nat → Nat → Int64) (hh : Nat → Nat → Option Nat) (v : Nat → Value) (tx : mm_W) (l1 : Int32) (l2 : Int32) (l3 : Int32) (l4 : Int32) (s0 : Int32)  (P : Option Value → mm_W → Prop)
    (h : ((s0 < 1000000) → WP X (d) 86 (39, [some (.ref 0), some (.int l1), some (.int l2), some (.int l3), some (.int (l4 + (1 : Int32)))], [], Wd f fl g gl hh v tx) P) ∧
    ((¬ (s0 < 1000000)) → (((¬ l1 = 0) → P (some (.int l4)) (Wd f fl g gl hh v tx)) ∧
      ((l1 = 0) → P (some (.int l3)) (Wd f fl g gl hh v tx))))) :
    WP X (d) 86 (71, [some (.ref 0), some (.int l1), some (.int l2), some (.int l3), some (.int l4)], [.int s0], Wd f fl g gl hh v tx) P := by
  refine WP.run hP_86 1 (c' := (74, [some (.ref 0), some (.int l1), some (.int l2), some (.int l3), some (.int l4)], [.int 1000000, .int s0], Wd f fl g gl hh v tx)) rfl ?_
  refine WP.br hP_86 (q := s0 < 1000000) (t := 88) (f := 77) (L := [some (.ref 0), some (.int l1), some (.int l2), some (.int l3), some (.int l4)]) (st := []) (w := Wd f fl g gl hh v tx) rfl (fun c1 => ?_) (fun c1 => ?_)
  · have h2 := h.1 c1
    refine WP.run hP_86 2 (c' := (39, [some (.ref 0), some (.int l1), some (.int l2), some (.int l3), some (.int (l4 + (1 : Int32)))], [], Wd f fl g gl hh v tx)) rfl ?_
    exact h2
  · have h3 := h.2 c1
    refine WP.run hP_86 1 (c' := (78, [some (.ref 0), some (.int l1), some (.int l2), some (.int l3), some (.int l4)], [.int l1], Wd f fl g gl hh v tx)) rfl ?_
    refine WP.br hP_86 (q := ¬ l1 = 0) (t := 85) (f := 81) (L := [some (.ref 0), some (.int l1), some (.int l2), some (.int l3), some (.int l4)]) (st := []) (w := Wd f fl g gl hh v tx) rfl (fun c4 => ?_) (fun c4 => ?_)
    · have h5 := h3.1 c4
      refine WP.run hP_86 1 (c' := (87, [none, none, none, none, some (.int l4)], [.int l4], Wd f fl g gl hh v tx)) rfl ?_
      exact WP.retI hP_86 rfl rfl h5
    · have h6 := h3.2 (Classical.not_not.mp c4)
      refine WP.run hP_86 2 (c' := (87, [some (.ref 0), some (.int l1), some (.int l2), some (.int l3), some (.int l4)], [.int l3], Wd f fl g gl hh v tx)) rfl ?_
      exact WP.retI hP_86 rfl rfl h6

set_option maxRecDepth 20000 in
theorem b_m_isIn_0 (X : mm_X) (d : Nat) (f : Nat → Int32) (fl : Nat → Int64) (g : Nat → Nat → Int32) (gl : Nat → Nat → Int64) (hh : Nat → Nat → Option Nat) (v : Nat → Value) (tx : mm_W) (p0 : Int32) (p1 : Int32)  (P : Option Value → mm_W → Prop)
    (h : ((¬ (((p0 >>> (p1 &&& (31 : Int32))) : Int32) &&& (1 : Int32)) = 1) → P (some (.int 0)) (Wd f fl g gl hh v tx)) ∧
    (((((p0 >>> (p1 &&& (31 : Int32))) : Int32) &&& (1 : Int32)) = 1) → P (some (.int 1)) (Wd f fl g gl hh v tx))) :
    WP X (d) 122 (0, [some (.int p0), some (.int p1)], [], Wd f fl g gl hh v tx) P := by
  refine WP.run hP_122 6 (c' := (6, [some (.int p0), some (.int p1)], [.int 1, .int (((p0 >>> (p1 &&& (31 : Int32))) : Int32) &&& (1 : Int32))], Wd f fl g gl hh v tx)) rfl ?_
  refine WP.br hP_122 (q := ¬ (((p0 >>> (p1 &&& (31 : Int32))) : Int32) &&& (1 : Int32)) = 1) (t := 13) (f := 9) (L := [some (.int p0), some (.int p1)]) (st := []) (w := Wd f fl g gl hh v tx) rfl (fun c1 => ?_) (fun c1 => ?_)
  · have h2 := h.1 c1
    refine WP.run hP_122 1 (c' := (14, [none, none], [.int 0], Wd f fl g gl hh v tx)) rfl ?_
    exact WP.ret hP_122 (r := some (.int 0)) (w' := Wd f fl g gl hh v tx) rfl h2
  · have h3 := h.2 (Classical.not_not.mp c1)
    refine WP.run hP_122 2 (c' := (14, [some (.int p0), some (.int p1)], [.int 1], Wd f fl g gl hh v tx)) rfl ?_
    exact WP.ret hP_122 (r := some (.int 1)) (w' := Wd f fl g gl hh v tx) rfl h3

set_option maxRecDepth 20000 in
theorem b_m_ones_0 (X : mm_X) (d : Nat) (f : Nat → Int32) (fl : Nat → Int64) (g : Nat → Nat → Int32) (gl : Nat → Nat → Int64) (hh : Nat → Nat → Option Nat) (v : Nat → Value) (tx : mm_W) (p0 : Int32)  (P : Option Value → mm_W → Prop)
    (h : WP X (d) 123 (4, [some (.int p0), some (.int 0), some (.int 0)], [], Wd f fl g gl hh v tx) P) :
    WP X (d) 123 (0, [some (.int p0), none, none], [], Wd f fl g gl hh v tx) P := by
  refine WP.run hP_123 3 (c' := (3, [some (.int p0), some (.int 0), none], [.int 0], Wd f fl g gl hh v tx)) rfl ?_
  refine WP.run hP_123 1 (c' := (4, [some (.int p0), some (.int 0), some (.int 0)], [], Wd f fl g gl hh v tx)) rfl ?_
  exact h

set_option maxRecDepth 20000 in
theorem b_m_ones_4 (X : mm_X) (d : Nat) (f : Nat → Int32) (fl : Nat → Int64) (g : Nat → Nat → Int32) (gl : Nat → Nat → Int64) (hh : Nat → Nat → Option Nat) (v : Nat → Value) (tx : mm_W) (l0 : Int32) (l1 : Int32) (l2 : Int32)  (P : Option Value → mm_W → Prop)
    (h : ((8 ≤ l2) → P (some (.int l1)) (Wd f fl g gl hh v tx)) ∧
    ((¬ (8 ≤ l2)) → WP X (d) 123 (4, [some (.int l0), some (.int (l1 + (((l0 >>> (l2 &&& (31 : Int32))) : Int32) &&& (1 : Int32)))), some (.int (l2 + (1 : Int32)))], [], Wd f fl g gl hh v tx) P)) :
    WP X (d) 123 (4, [some (.int l0), some (.int l1), some (.int l2)], [], Wd f fl g gl hh v tx) P := by
  refine WP.run hP_123 2 (c' := (7, [some (.int l0), some (.int l1), some (.int l2)], [.int 8, .int l2], Wd f fl g gl hh v tx)) rfl ?_
  refine WP.br hP_123 (q := 8 ≤ l2) (t := 24) (f := 10) (L := [some (.int l0), some (.int l1), some (.int l2)]) (st := []) (w := Wd f fl g gl hh v tx) rfl (fun c1 => ?_) (fun c1 => ?_)
  · have h2 := h.1 c1
    refine WP.run hP_123 1 (c' := (25, [none, some (.int l1), none], [.int l1], Wd f fl g gl hh v tx)) rfl ?_
    exact WP.retI hP_123 rfl rfl h2
  · have h3 := h.2 c1
    refine WP.run hP_123 8 (c' := (18, [some (.int l0), some (.int (l1 + (((l0 >>> (l2 &&& (31 : Int32))) : Int32) &&& (1 : Int32)))), some (.int l2)], [], Wd f fl g gl hh v tx)) rfl ?_
    refine WP.run hP_123 2 (c' := (4, [some (.int l0), some (.int (l1 + (((l0 >>> (l2 &&& (31 : Int32))) : Int32) &&& (1 : Int32)))), some (.int (l2 + (1 : Int32)))], [], Wd f fl g gl hh v tx)) rfl ?_
    exact h3

set_option maxRecDepth 20000 in
theorem b_m_restOf_0 (X : mm_X) (d : Nat) (f : Nat → Int32) (fl : Nat → Int64) (g : Nat → Nat → Int32) (gl : Nat → Nat → Int64) (hh : Nat → Nat → Option Nat) (v : Nat → Value) (tx : mm_W) (p0 : Int32) (p1 : Int32)  (P : Option Value → mm_W → Prop)
    (h : WP X (d) 216 (5, [some (.ref 74), some (.int p0), none, some (.int 0), some (.int p1)], [], Wd f fl g gl hh v tx) P) :
    WP X (d) 216 (0, [some (.ref 74), some (.int p0), some (.int p1), none, none], [], Wd f fl g gl hh v tx) P := by
  refine WP.run hP_216 3 (c' := (3, [some (.ref 74), some (.int p0), some (.int p1), some (.int 0), none], [.int p1], Wd f fl g gl hh v tx)) rfl ?_
  refine WP.run hP_216 1 (c' := (5, [some (.ref 74), some (.int p0), some (.int p1), some (.int 0), some (.int p1)], [], Wd f fl g gl hh v tx)) rfl ?_
  refine WP.clr hP_216 (pc := 5) rfl ?_
  exact h

set_option maxRecDepth 20000 in
theorem b_m_restOf_5 (X : mm_X) (d : Nat) (f : Nat → Int32) (fl : Nat → Int64) (g : Nat → Nat → Int32) (gl : Nat → Nat → Int64) (hh : Nat → Nat → Option Nat) (v : Nat → Value) (tx : mm_W) (l1 : Int32) (l3 : Int32) (l4 : Int32)  (P : Option Value → mm_W → Prop)
    (h : (¬ (((31 : Int32) + l1) < 0 ∨ 5667 ≤ ((31 : Int32) + l1).toNatClampNeg)) ∧ (((((g 76) ((31 : Int32) + l1).toNatClampNeg) ≤ l4) → P (some (.int l3)) (Wd f fl g gl hh v tx)) ∧
    ((¬ (((g 76) ((31 : Int32) + l1).toNatClampNeg) ≤ l4)) → WP X (d) 137 (0, [some (.ref 74), some (.int l1), some (.int l4), none, none], [], Wd f fl g gl hh v tx) (fun rv w2 => WP X (d + 1) 216 (29, [some (.ref 74), some (.int l1), none, some (.int l3), some (.int l4)], rv.toList ++ [.int ((5 : Int32) * l3)], w2) P)))) :
    WP X (d + 1) 216 (5, [some (.ref 74), some (.int l1), none, some (.int l3), some (.int l4)], [], Wd f fl g gl hh v tx) P := by
  refine WP.run hP_216 6 (c' := (15, [some (.ref 74), some (.int l1), none, some (.int l3), some (.int l4)], [.int ((31 : Int32) + l1), .ref 76, .int l4], Wd f fl g gl hh v tx)) rfl ?_
  refine WP.of (fun _ _ => Ex.iald hP_216 rfl (Wa_76 _ _ _ _ _ _ _) h.1) ?_
  have h1 := h.2
  refine WP.br hP_216 (q := ((g 76) ((31 : Int32) + l1).toNatClampNeg) ≤ l4) (t := 39) (f := 19) (L := [some (.ref 74), some (.int l1), none, some (.int l3), some (.int l4)]) (st := []) (w := Wd f fl g gl hh v tx) rfl (fun c2 => ?_) (fun c2 => ?_)
  · have h3 := h1.1 c2
    refine WP.run hP_216 1 (c' := (40, [none, none, none, some (.int l3), none], [.int l3], Wd f fl g gl hh v tx)) rfl ?_
    exact WP.retI hP_216 rfl rfl h3
  · have h4 := h1.2 c2
    refine WP.run hP_216 6 (c' := (26, [some (.ref 74), some (.int l1), none, some (.int l3), some (.int l4)], [.int l4, .int l1, .ref 74, .int ((5 : Int32) * l3)], Wd f fl g gl hh v tx)) rfl ?_
    refine WP.call hP_216 hP_137 (as := [.ref 74, .int l1, .int l4]) (pc' := 29) (L' := [some (.ref 74), some (.int l1), none, some (.int l3), some (.int l4)]) (st' := [.int ((5 : Int32) * l3)]) (w1 := Wd f fl g gl hh v tx) rfl ⟨Nat.le_of_ble_eq_true rfl, Nat.le_of_ble_eq_true rfl⟩ rfl ?_
    exact h4

set_option maxRecDepth 20000 in
theorem b_m_restOf_29 (X : mm_X) (d : Nat) (f : Nat → Int32) (fl : Nat → Int64) (g : Nat → Nat → Int32) (gl : Nat → Nat → Int64) (hh : Nat → Nat → Option Nat) (v : Nat → Value) (tx : mm_W) (l1 : Int32) (l3 : Int32) (l4 : Int32) (s0 : Int32) (s1 : Int32)  (P : Option Value → mm_W → Prop)
    (h : WP X (d) 216 (5, [some (.ref 74), some (.int l1), none, some (.int ((s1 + s0) + (1 : Int32))), some (.int (l4 + (1 : Int32)))], [], Wd f fl g gl hh v tx) P) :
    WP X (d) 216 (29, [some (.ref 74), some (.int l1), none, some (.int l3), some (.int l4)], [.int s0, .int s1], Wd f fl g gl hh v tx) P := by
  refine WP.run hP_216 4 (c' := (33, [some (.ref 74), some (.int l1), none, some (.int ((s1 + s0) + (1 : Int32))), some (.int l4)], [], Wd f fl g gl hh v tx)) rfl ?_
  refine WP.run hP_216 2 (c' := (5, [some (.ref 74), some (.int l1), none, some (.int ((s1 + s0) + (1 : Int32))), some (.int (l4 + (1 : Int32)))], [], Wd f fl g gl hh v tx)) rfl ?_
  exact h

set_option maxRecDepth 20000 in
theorem b_m_longFive_0 (X : mm_X) (d : Nat) (f : Nat → Int32) (fl : Nat → Int64) (g : Nat → Nat → Int32) (gl : Nat → Nat → Int64) (hh : Nat → Nat → Option Nat) (v : Nat → Value) (tx : mm_W) (p0 : Int32)  (P : Option Value → mm_W → Prop)
    (h : WP X (d) 217 (4, [none, some (.int 0), some (.int p0)], [], Wd f fl g gl hh v tx) P) :
    WP X (d) 217 (0, [some (.int p0), none, none], [], Wd f fl g gl hh v tx) P := by
  refine WP.run hP_217 3 (c' := (3, [some (.int p0), some (.int 0), none], [.int p0], Wd f fl g gl hh v tx)) rfl ?_
  refine WP.run hP_217 1 (c' := (4, [some (.int p0), some (.int 0), some (.int p0)], [], Wd f fl g gl hh v tx)) rfl ?_
  refine WP.clr hP_217 (pc := 4) rfl ?_
  exact h

set_option maxRecDepth 20000 in
theorem b_m_longFive_4 (X : mm_X) (d : Nat) (f : Nat → Int32) (fl : Nat → Int64) (g : Nat → Nat → Int32) (gl : Nat → Nat → Int64) (hh : Nat → Nat → Option Nat) (v : Nat → Value) (tx : mm_W) (l1 : Int32) (l2 : Int32)  (P : Option Value → mm_W → Prop)
    (h : ((l2 ≤ 0) → P (some (.int l1)) (Wd f fl g gl hh v tx)) ∧
    ((¬ (l2 ≤ 0)) → WP X (d) 217 (4, [none, some (.int (l1 + (1 : Int32))), some (.int (l2 / (5 : Int32)))], [], Wd f fl g gl hh v tx) P)) :
    WP X (d) 217 (4, [none, some (.int l1), some (.int l2)], [], Wd f fl g gl hh v tx) P := by
  refine WP.run hP_217 1 (c' := (5, [none, some (.int l1), some (.int l2)], [.int l2], Wd f fl g gl hh v tx)) rfl ?_
  refine WP.br hP_217 (q := l2 ≤ 0) (t := 18) (f := 8) (L := [none, some (.int l1), some (.int l2)]) (st := []) (w := Wd f fl g gl hh v tx) rfl (fun c1 => ?_) (fun c1 => ?_)
  · have h2 := h.1 c1
    refine WP.run hP_217 1 (c' := (19, [none, some (.int l1), none], [.int l1], Wd f fl g gl hh v tx)) rfl ?_
    exact WP.retI hP_217 rfl rfl h2
  · have h3 := h.2 c1
    refine WP.run hP_217 4 (c' := (14, [none, some (.int (l1 + (1 : Int32))), some (.int l2)], [.int (l2 / (5 : Int32))], Wd f fl g gl hh v tx)) rfl ?_
    refine WP.run hP_217 2 (c' := (4, [none, some (.int (l1 + (1 : Int32))), some (.int (l2 / (5 : Int32)))], [], Wd f fl g gl hh v tx)) rfl ?_
    exact h3

set_option maxRecDepth 20000 in
theorem b_m_digitOf_0 (X : mm_X) (d : Nat) (f : Nat → Int32) (fl : Nat → Int64) (g : Nat → Nat → Int32) (gl : Nat → Nat → Int64) (hh : Nat → Nat → Option Nat) (v : Nat → Value) (tx : mm_W) (p0 : Int32) (p1 : Int32) (p2 : Int32)  (P : Option Value → mm_W → Prop)
    (h : WP X (d) 218 (7, [none, none, some (.int p2), some (.int p0), some (.int (p1 - (1 : Int32)))], [], Wd f fl g gl hh v tx) P) :
    WP X (d) 218 (0, [some (.int p0), some (.int p1), some (.int p2), none, none], [], Wd f fl g gl hh v tx) P := by
  refine WP.run hP_218 5 (c' := (5, [some (.int p0), some (.int p1), some (.int p2), some (.int p0), none], [.int (p1 - (1 : Int32))], Wd f fl g gl hh v tx)) rfl ?_
  refine WP.run hP_218 1 (c' := (7, [some (.int p0), some (.int p1), some (.int p2), some (.int p0), some (.int (p1 - (1 : Int32)))], [], Wd f fl g gl hh v tx)) rfl ?_
  refine WP.clr hP_218 (pc := 7) rfl ?_
  exact h

set_option maxRecDepth 20000 in
theorem b_m_digitOf_7 (X : mm_X) (d : Nat) (f : Nat → Int32) (fl : Nat → Int64) (g : Nat → Nat → Int32) (gl : Nat → Nat → Int64) (hh : Nat → Nat → Option Nat) (v : Nat → Value) (tx : mm_W) (l2 : Int32) (l3 : Int32) (l4 : Int32)  (P : Option Value → mm_W → Prop)
    (h : ((l4 ≤ l2) → P (some (.int (l3 - (l3 / (5 : Int32)) * (5 : Int32)))) (Wd f fl g gl hh v tx)) ∧
    ((¬ (l4 ≤ l2)) → WP X (d) 218 (7, [none, none, some (.int l2), some (.int (l3 / (5 : Int32))), some (.int (l4 + (-1 : Int32)))], [], Wd f fl g gl hh v tx) P)) :
    WP X (d) 218 (7, [none, none, some (.int l2), some (.int l3), some (.int l4)], [], Wd f fl g gl hh v tx) P := by
  refine WP.run hP_218 2 (c' := (10, [none, none, some (.int l2), some (.int l3), some (.int l4)], [.int l2, .int l4], Wd f fl g gl hh v tx)) rfl ?_
  refine WP.br hP_218 (q := l4 ≤ l2) (t := 23) (f := 13) (L := [none, none, some (.int l2), some (.int l3), some (.int l4)]) (st := []) (w := Wd f fl g gl hh v tx) rfl (fun c1 => ?_) (fun c1 => ?_)
  · have h2 := h.1 c1
    refine WP.run hP_218 3 (c' := (26, [none, none, none, some (.int l3), none], [.int (l3 - (l3 / (5 : Int32)) * (5 : Int32))], Wd f fl g gl hh v tx)) rfl ?_
    exact WP.retI hP_218 rfl rfl h2
  · have h3 := h.2 c1
    refine WP.run hP_218 4 (c' := (17, [none, none, some (.int l2), some (.int (l3 / (5 : Int32))), some (.int l4)], [], Wd f fl g gl hh v tx)) rfl ?_
    refine WP.run hP_218 2 (c' := (7, [none, none, some (.int l2), some (.int (l3 / (5 : Int32))), some (.int (l4 + (-1 : Int32)))], [], Wd f fl g gl hh v tx)) rfl ?_
    exact h3

set_option maxRecDepth 20000 in
theorem b_m_areAlike_0 (X : mm_X) (d : Nat) (f : Nat → Int32) (fl : Nat → Int64) (g : Nat → Nat → Int32) (gl : Nat → Nat → Int64) (hh : Nat → Nat → Option Nat) (v : Nat → Value) (tx : mm_W) (p0 : Int32) (p1 : Int32)  (P : Option Value → mm_W → Prop)
    (h : WP X (d) 217 (0, [some (.int p0), none, none], [], Wd f fl g gl hh v tx) (fun rv w2 => WP X (d + 1) 219 (4, [some (.ref 74), some (.int p0), some (.int p1), none, none, none], rv.toList ++ [], w2) P)) :
    WP X (d + 1) 219 (0, [some (.ref 74), some (.int p0), some (.int p1), none, none, none], [], Wd f fl g gl hh v tx) P := by
  refine WP.run hP_219 1 (c' := (1, [some (.ref 74), some (.int p0), some (.int p1), none, none, none], [.int p0], Wd f fl g gl hh v tx)) rfl ?_
  refine WP.call hP_219 hP_217 (as := [.int p0]) (pc' := 4) (L' := [some (.ref 74), some (.int p0), some (.int p1), none, none, none]) (st' := []) (w1 := Wd f fl g gl hh v tx) rfl ⟨Nat.le_of_ble_eq_true rfl, Nat.le_of_ble_eq_true rfl⟩ rfl ?_
  exact h

set_option maxRecDepth 20000 in
theorem b_m_areAlike_4 (X : mm_X) (d : Nat) (f : Nat → Int32) (fl : Nat → Int64) (g : Nat → Nat → Int32) (gl : Nat → Nat → Int64) (hh : Nat → Nat → Option Nat) (v : Nat → Value) (tx : mm_W) (l1 : Int32) (l2 : Int32) (s0 : Int32)  (P : Option Value → mm_W → Prop)
    (h : WP X (d) 219 (11, [some (.ref 74), some (.int l1), some (.int l2), some (.int s0), some (.int 1), some (.int 0)], [], Wd f fl g gl hh v tx) P) :
    WP X (d) 219 (4, [some (.ref 74), some (.int l1), some (.int l2), none, none, none], [.int s0], Wd f fl g gl hh v tx) P := by
  refine WP.run hP_219 2 (c' := (6, [some (.ref 74), some (.int l1), some (.int l2), some (.int s0), none, none], [.int 1], Wd f fl g gl hh v tx)) rfl ?_
  refine WP.run hP_219 2 (c' := (9, [some (.ref 74), some (.int l1), some (.int l2), some (.int s0), some (.int 1), none], [.int 0], Wd f fl g gl hh v tx)) rfl ?_
  refine WP.run hP_219 1 (c' := (11, [some (.ref 74), some (.int l1), some (.int l2), some (.int s0), some (.int 1), some (.int 0)], [], Wd f fl g gl hh v tx)) rfl ?_
  exact h

set_option maxRecDepth 20000 in
theorem b_m_areAlike_11 (X : mm_X) (d : Nat) (f : Nat → Int32) (fl : Nat → Int64) (g : Nat → Nat → Int32) (gl : Nat → Nat → Int64) (hh : Nat → Nat → Option Nat) (v : Nat → Value) (tx : mm_W) (l1 : Int32) (l2 : Int32) (l3 : Int32) (l4 : Int32) (l5 : Int32)  (P : Option Value → mm_W → Prop)
    (h : ((l3 ≤ l5) → ((l4 = 0 ∨ l4 = 1) ∧ P (some (.int l4)) (Wd f fl g gl hh v tx))) ∧
    ((¬ (l3 ≤ l5)) → ((¬ (((31 : Int32) + l2) < 0 ∨ 5667 ≤ ((31 : Int32) + l2).toNatClampNeg)) ∧ (((((g 76) ((31 : Int32) + l2).toNatClampNeg) ≤ l5) → ((l4 = 0 ∨ l4 = 1) ∧ P (some (.int l4)) (Wd f fl g gl hh v tx))) ∧
      ((¬ (((g 76) ((31 : Int32) + l2).toNatClampNeg) ≤ l5)) → (((l4 = 0) → WP X (d + 1) 219 (11, [some (.ref 74), some (.int l1), some (.int l2), some (.int l3), some (.int 0), some (.int (l5 + (1 : Int32)))], [], Wd f fl g gl hh v tx) P) ∧
        ((¬ l4 = 0) → WP X (d) 218 (0, [some (.int l1), some (.int l3), some (.int l5), none, none], [], Wd f fl g gl hh v tx) (fun rv w2 => WP X (d + 1) 219 (43, [some (.ref 74), some (.int l1), some (.int l2), some (.int l3), some (.int l4), some (.int l5)], rv.toList ++ [], w2) P)))))))) :
    WP X (d + 1) 219 (11, [some (.ref 74), some (.int l1), some (.int l2), some (.int l3), some (.int l4), some (.int l5)], [], Wd f fl g gl hh v tx) P := by
  refine WP.run hP_219 2 (c' := (14, [some (.ref 74), some (.int l1), some (.int l2), some (.int l3), some (.int l4), some (.int l5)], [.int l3, .int l5], Wd f fl g gl hh v tx)) rfl ?_
  refine WP.br hP_219 (q := l3 ≤ l5) (t := 68) (f := 17) (L := [some (.ref 74), some (.int l1), some (.int l2), some (.int l3), some (.int l4), some (.int l5)]) (st := []) (w := Wd f fl g gl hh v tx) rfl (fun c1 => ?_) (fun c1 => ?_)
  · have h2 := h.1 c1
    refine WP.run hP_219 1 (c' := (70, [none, none, none, none, some (.int l4), none], [.int l4], Wd f fl g gl hh v tx)) rfl ?_
    exact WP.retZ hP_219 rfl rfl h2.1 h2.2
  · have h3 := h.2 c1
    refine WP.run hP_219 6 (c' := (27, [some (.ref 74), some (.int l1), some (.int l2), some (.int l3), some (.int l4), some (.int l5)], [.int ((31 : Int32) + l2), .ref 76, .int l5], Wd f fl g gl hh v tx)) rfl ?_
    refine WP.of (fun _ _ => Ex.iald hP_219 rfl (Wa_76 _ _ _ _ _ _ _) h3.1) ?_
    have h4 := h3.2
    refine WP.br hP_219 (q := ((g 76) ((31 : Int32) + l2).toNatClampNeg) ≤ l5) (t := 68) (f := 31) (L := [some (.ref 74), some (.int l1), some (.int l2), some (.int l3), some (.int l4), some (.int l5)]) (st := []) (w := Wd f fl g gl hh v tx) rfl (fun c5 => ?_) (fun c5 => ?_)
    · have h6 := h4.1 c5
      refine WP.run hP_219 1 (c' := (70, [none, none, none, none, some (.int l4), none], [.int l4], Wd f fl g gl hh v tx)) rfl ?_
      exact WP.retZ hP_219 rfl rfl h6.1 h6.2
    · have h7 := h4.2 c5
      refine WP.run hP_219 1 (c' := (33, [some (.ref 74), some (.int l1), some (.int l2), some (.int l3), some (.int l4), some (.int l5)], [.int l4], Wd f fl g gl hh v tx)) rfl ?_
      refine WP.br hP_219 (q := l4 = 0) (t := 59) (f := 36) (L := [some (.ref 74), some (.int l1), some (.int l2), some (.int l3), some (.int l4), some (.int l5)]) (st := []) (w := Wd f fl g gl hh v tx) rfl (fun c8 => ?_) (fun c8 => ?_)
      · have h9 := h7.1 c8
        refine WP.run hP_219 1 (c' := (60, [some (.ref 74), some (.int l1), some (.int l2), some (.int l3), none, some (.int l5)], [.int 0], Wd f fl g gl hh v tx)) rfl ?_
        refine WP.run hP_219 1 (c' := (62, [some (.ref 74), some (.int l1), some (.int l2), some (.int l3), some (.int 0), some (.int l5)], [], Wd f fl g gl hh v tx)) rfl ?_
        refine WP.run hP_219 2 (c' := (11, [some (.ref 74), some (.int l1), some (.int l2), some (.int l3), some (.int 0), some (.int (l5 + (1 : Int32)))], [], Wd f fl g gl hh v tx)) rfl ?_
        exact h9
      · have h10 := h7.2 c8
        refine WP.run hP_219 3 (c' := (40, [some (.ref 74), some (.int l1), some (.int l2), some (.int l3), some (.int l4), some (.int l5)], [.int l5, .int l3, .int l1], Wd f fl g gl hh v tx)) rfl ?_
        refine WP.call hP_219 hP_218 (as := [.int l1, .int l3, .int l5]) (pc' := 43) (L' := [some (.ref 74), some (.int l1), some (.int l2), some (.int l3), some (.int l4), some (.int l5)]) (st' := []) (w1 := Wd f fl g gl hh v tx) rfl ⟨Nat.le_of_ble_eq_true rfl, Nat.le_of_ble_eq_true rfl⟩ rfl ?_
        exact h10

set_option maxRecDepth 20000 in
theorem b_m_areAlike_43 (X : mm_X) (d : Nat) (f : Nat → Int32) (fl : Nat → Int64) (g : Nat → Nat → Int32) (gl : Nat → Nat → Int64) (hh : Nat → Nat → Option Nat) (v : Nat → Value) (tx : mm_W) (l1 : Int32) (l2 : Int32) (l3 : Int32) (l4 : Int32) (l5 : Int32) (s0 : Int32)  (P : Option Value → mm_W → Prop)
    (h : WP X (d) 137 (0, [some (.ref 74), some (.int l2), some (.int l5), none, none], [], Wd f fl g gl hh v tx) (fun rv w2 => WP X (d + 1) 219 (50, [some (.ref 74), some (.int l1), some (.int l2), some (.int l3), some (.int l4), some (.int l5)], rv.toList ++ [.int s0], w2) P)) :
    WP X (d + 1) 219 (43, [some (.ref 74), some (.int l1), some (.int l2), some (.int l3), some (.int l4), some (.int l5)], [.int s0], Wd f fl g gl hh v tx) P := by
  refine WP.run hP_219 3 (c' := (47, [some (.ref 74), some (.int l1), some (.int l2), some (.int l3), some (.int l4), some (.int l5)], [.int l5, .int l2, .ref 74, .int s0], Wd f fl g gl hh v tx)) rfl ?_
  refine WP.call hP_219 hP_137 (as := [.ref 74, .int l2, .int l5]) (pc' := 50) (L' := [some (.ref 74), some (.int l1), some (.int l2), some (.int l3), some (.int l4), some (.int l5)]) (st' := [.int s0]) (w1 := Wd f fl g gl hh v tx) rfl ⟨Nat.le_of_ble_eq_true rfl, Nat.le_of_ble_eq_true rfl⟩ rfl ?_
  exact h

set_option maxRecDepth 20000 in
theorem b_m_areAlike_50 (X : mm_X) (d : Nat) (f : Nat → Int32) (fl : Nat → Int64) (g : Nat → Nat → Int32) (gl : Nat → Nat → Int64) (hh : Nat → Nat → Option Nat) (v : Nat → Value) (tx : mm_W) (l1 : Int32) (l2 : Int32) (l3 : Int32) (l4 : Int32) (l5 : Int32) (s0 : Int32) (s1 : Int32)  (P : Option Value → mm_W → Prop)
    (h : ((¬ s1 = (s0 + (1 : Int32))) → WP X (d) 219 (11, [some (.ref 74), some (.int l1), some (.int l2), some (.int l3), some (.int 0), some (.int (l5 + (1 : Int32)))], [], Wd f fl g gl hh v tx) P) ∧
    ((s1 = (s0 + (1 : Int32))) → WP X (d) 219 (11, [some (.ref 74), some (.int l1), some (.int l2), some (.int l3), some (.int 1), some (.int (l5 + (1 : Int32)))], [], Wd f fl g gl hh v tx) P)) :
    WP X (d) 219 (50, [some (.ref 74), some (.int l1), some (.int l2), some (.int l3), some (.int l4), some (.int l5)], [.int s0, .int s1], Wd f fl g gl hh v tx) P := by
  refine WP.run hP_219 2 (c' := (52, [some (.ref 74), some (.int l1), some (.int l2), some (.int l3), some (.int l4), some (.int l5)], [.int (s0 + (1 : Int32)), .int s1], Wd f fl g gl hh v tx)) rfl ?_
  refine WP.br hP_219 (q := ¬ s1 = (s0 + (1 : Int32))) (t := 59) (f := 55) (L := [some (.ref 74), some (.int l1), some (.int l2), some (.int l3), some (.int l4), some (.int l5)]) (st := []) (w := Wd f fl g gl hh v tx) rfl (fun c1 => ?_) (fun c1 => ?_)
  · have h2 := h.1 c1
    refine WP.run hP_219 1 (c' := (60, [some (.ref 74), some (.int l1), some (.int l2), some (.int l3), none, some (.int l5)], [.int 0], Wd f fl g gl hh v tx)) rfl ?_
    refine WP.run hP_219 1 (c' := (62, [some (.ref 74), some (.int l1), some (.int l2), some (.int l3), some (.int 0), some (.int l5)], [], Wd f fl g gl hh v tx)) rfl ?_
    refine WP.run hP_219 2 (c' := (11, [some (.ref 74), some (.int l1), some (.int l2), some (.int l3), some (.int 0), some (.int (l5 + (1 : Int32)))], [], Wd f fl g gl hh v tx)) rfl ?_
    exact h2
  · have h3 := h.2 (Classical.not_not.mp c1)
    refine WP.run hP_219 3 (c' := (62, [some (.ref 74), some (.int l1), some (.int l2), some (.int l3), some (.int 1), some (.int l5)], [], Wd f fl g gl hh v tx)) rfl ?_
    refine WP.run hP_219 2 (c' := (11, [some (.ref 74), some (.int l1), some (.int l2), some (.int l3), some (.int 1), some (.int (l5 + (1 : Int32)))], [], Wd f fl g gl hh v tx)) rfl ?_
    exact h3

set_option maxRecDepth 20000 in
theorem b_m_without_0 (X : mm_X) (d : Nat) (f : Nat → Int32) (fl : Nat → Int64) (g : Nat → Nat → Int32) (gl : Nat → Nat → Int64) (hh : Nat → Nat → Option Nat) (v : Nat → Value) (tx : mm_W) (p0 : Int32) (p1 : Int32) (p2 : Int32)  (P : Option Value → mm_W → Prop)
    (h : WP X (d) 220 (5, [some (.int p0), some (.int p1), none, some (.int 0), some (.int p2)], [], Wd f fl g gl hh v tx) P) :
    WP X (d) 220 (0, [some (.int p0), some (.int p1), some (.int p2), none, none], [], Wd f fl g gl hh v tx) P := by
  refine WP.run hP_220 3 (c' := (3, [some (.int p0), some (.int p1), some (.int p2), some (.int 0), none], [.int p2], Wd f fl g gl hh v tx)) rfl ?_
  refine WP.run hP_220 1 (c' := (5, [some (.int p0), some (.int p1), some (.int p2), some (.int 0), some (.int p2)], [], Wd f fl g gl hh v tx)) rfl ?_
  refine WP.clr hP_220 (pc := 5) rfl ?_
  exact h

set_option maxRecDepth 20000 in
theorem b_m_without_5 (X : mm_X) (d : Nat) (f : Nat → Int32) (fl : Nat → Int64) (g : Nat → Nat → Int32) (gl : Nat → Nat → Int64) (hh : Nat → Nat → Option Nat) (v : Nat → Value) (tx : mm_W) (l0 : Int32) (l1 : Int32) (l3 : Int32) (l4 : Int32)  (P : Option Value → mm_W → Prop)
    (h : ((l1 ≤ l4) → P (some (.int l3)) (Wd f fl g gl hh v tx)) ∧
    ((¬ (l1 ≤ l4)) → WP X (d) 218 (0, [some (.int l0), some (.int l1), some (.int l4), none, none], [], Wd f fl g gl hh v tx) (fun rv w2 => WP X (d + 1) 220 (21, [some (.int l0), some (.int l1), none, some (.int l3), some (.int l4)], rv.toList ++ [.int ((5 : Int32) * l3)], w2) P))) :
    WP X (d + 1) 220 (5, [some (.int l0), some (.int l1), none, some (.int l3), some (.int l4)], [], Wd f fl g gl hh v tx) P := by
  refine WP.run hP_220 2 (c' := (8, [some (.int l0), some (.int l1), none, some (.int l3), some (.int l4)], [.int l1, .int l4], Wd f fl g gl hh v tx)) rfl ?_
  refine WP.br hP_220 (q := l1 ≤ l4) (t := 29) (f := 11) (L := [some (.int l0), some (.int l1), none, some (.int l3), some (.int l4)]) (st := []) (w := Wd f fl g gl hh v tx) rfl (fun c1 => ?_) (fun c1 => ?_)
  · have h2 := h.1 c1
    refine WP.run hP_220 1 (c' := (30, [none, none, none, some (.int l3), none], [.int l3], Wd f fl g gl hh v tx)) rfl ?_
    exact WP.retI hP_220 rfl rfl h2
  · have h3 := h.2 c1
    refine WP.run hP_220 6 (c' := (18, [some (.int l0), some (.int l1), none, some (.int l3), some (.int l4)], [.int l4, .int l1, .int l0, .int ((5 : Int32) * l3)], Wd f fl g gl hh v tx)) rfl ?_
    refine WP.call hP_220 hP_218 (as := [.int l0, .int l1, .int l4]) (pc' := 21) (L' := [some (.int l0), some (.int l1), none, some (.int l3), some (.int l4)]) (st' := [.int ((5 : Int32) * l3)]) (w1 := Wd f fl g gl hh v tx) rfl ⟨Nat.le_of_ble_eq_true rfl, Nat.le_of_ble_eq_true rfl⟩ rfl ?_
    exact h3

set_option maxRecDepth 20000 in
theorem b_m_without_21 (X : mm_X) (d : Nat) (f : Nat → Int32) (fl : Nat → Int64) (g : Nat → Nat → Int32) (gl : Nat → Nat → Int64) (hh : Nat → Nat → Option Nat) (v : Nat → Value) (tx : mm_W) (l0 : Int32) (l1 : Int32) (l3 : Int32) (l4 : Int32) (s0 : Int32) (s1 : Int32)  (P : Option Value → mm_W → Prop)
    (h : WP X (d) 220 (5, [some (.int l0), some (.int l1), none, some (.int (s1 + s0)), some (.int (l4 + (1 : Int32)))], [], Wd f fl g gl hh v tx) P) :
    WP X (d) 220 (21, [some (.int l0), some (.int l1), none, some (.int l3), some (.int l4)], [.int s0, .int s1], Wd f fl g gl hh v tx) P := by
  refine WP.run hP_220 2 (c' := (23, [some (.int l0), some (.int l1), none, some (.int (s1 + s0)), some (.int l4)], [], Wd f fl g gl hh v tx)) rfl ?_
  refine WP.run hP_220 2 (c' := (5, [some (.int l0), some (.int l1), none, some (.int (s1 + s0)), some (.int (l4 + (1 : Int32)))], [], Wd f fl g gl hh v tx)) rfl ?_
  exact h

set_option maxRecDepth 20000 in
theorem b_m_comesNear_0 (X : mm_X) (d : Nat) (f : Nat → Int32) (fl : Nat → Int64) (g : Nat → Nat → Int32) (gl : Nat → Nat → Int64) (hh : Nat → Nat → Option Nat) (v : Nat → Value) (tx : mm_W) (p0 : Int32) (p1 : Int32)  (P : Option Value → mm_W → Prop)
    (h : (¬ (p0 < 0 ∨ 125 ≤ p0.toNatClampNeg)) ∧ (((((g 93) p0.toNatClampNeg) ≤ p1) → ((¬ (p0 < 0 ∨ 125 ≤ p0.toNatClampNeg)) ∧ (((p1 ≤ ((g 93) p0.toNatClampNeg)) → ((¬ (p0 < 0 ∨ 125 ≤ p0.toNatClampNeg)) ∧ P (some (.int 0)) (Wd f fl (va_up g 93 (upd (g 93) (p0.toNatClampNeg) p1)) gl hh v tx))) ∧
      ((¬ (p1 ≤ ((g 93) p0.toNatClampNeg))) → ((¬ (p0 < 0 ∨ 125 ≤ p0.toNatClampNeg)) ∧ P (some (.int 0)) (Wd f fl (va_up g 93 (upd (g 93) (p0.toNatClampNeg) ((g 93) p0.toNatClampNeg))) gl hh v tx)))))) ∧
    ((¬ (((g 93) p0.toNatClampNeg) ≤ p1)) → ((¬ (p0 < 0 ∨ 125 ≤ p0.toNatClampNeg)) ∧ (((p1 ≤ ((g 93) p0.toNatClampNeg)) → ((¬ (p0 < 0 ∨ 125 ≤ p0.toNatClampNeg)) ∧ P (some (.int 1)) (Wd f fl (va_up g 93 (upd (g 93) (p0.toNatClampNeg) p1)) gl hh v tx))) ∧
      ((¬ (p1 ≤ ((g 93) p0.toNatClampNeg))) → ((¬ (p0 < 0 ∨ 125 ≤ p0.toNatClampNeg)) ∧ P (some (.int 1)) (Wd f fl (va_up g 93 (upd (g 93) (p0.toNatClampNeg) ((g 93) p0.toNatClampNeg))) gl hh v tx)))))))) :
    WP X (d + 1) 221 (0, [some (.ref 74), some (.int p0), some (.int p1), none], [], Wd f fl g gl hh v tx) P := by
  refine WP.run hP_221 4 (c' := (6, [some (.ref 74), some (.int p0), some (.int p1), none], [.int p0, .ref 93, .int p1], Wd f fl g gl hh v tx)) rfl ?_
  refine WP.of (fun _ _ => Ex.iald hP_221 rfl (Wa_93 _ _ _ _ _ _ _) h.1) ?_
  have h1 := h.2
  refine WP.br hP_221 (q := ((g 93) p0.toNatClampNeg) ≤ p1) (t := 14) (f := 10) (L := [some (.ref 74), some (.int p0), some (.int p1), none]) (st := []) (w := Wd f fl g gl hh v tx) rfl (fun c2 => ?_) (fun c2 => ?_)
  · have h3 := h1.1 c2
    refine WP.run hP_221 1 (c' := (15, [some (.ref 74), some (.int p0), some (.int p1), none], [.int 0], Wd f fl g gl hh v tx)) rfl ?_
    refine WP.run hP_221 7 (c' := (26, [some (.ref 74), some (.int p0), some (.int p1), some (.int 0)], [.int p0, .ref 93, .int p0, .ref 93], Wd f fl g gl hh v tx)) rfl ?_
    refine WP.of (fun _ _ => Ex.iald hP_221 rfl (Wa_93 _ _ _ _ _ _ _) h3.1) ?_
    have h4 := h3.2
    refine WP.run hP_221 1 (c' := (28, [some (.ref 74), some (.int p0), some (.int p1), some (.int 0)], [.int p1, .int ((g 93) p0.toNatClampNeg), .int p0, .ref 93], Wd f fl g gl hh v tx)) rfl ?_
    refine WP.call hP_221 hP_117 (as := [.int ((g 93) p0.toNatClampNeg), .int p1]) (pc' := 31) (L' := [some (.ref 74), some (.int p0), some (.int p1), some (.int 0)]) (st' := [.int p0, .ref 93]) (w1 := Wd f fl g gl hh v tx) rfl ⟨Nat.le_of_ble_eq_true rfl, Nat.le_of_ble_eq_true rfl⟩ rfl (b_m_lesser_0 X (d) f fl g gl hh v tx ((g 93) p0.toNatClampNeg) p1 _ ?_)
    refine ⟨fun c5 => ?_, fun c5 => ?_⟩
    · have h6 := h4.1 c5
      refine WP.of (fun _ _ => Ex.iast hP_221 (w2 := Wd f fl (va_up g 93 (upd (g 93) (p0.toNatClampNeg) p1)) gl hh v tx) rfl (Wa_93 _ _ _ _ _ _ _) h6.1 (Ws_93 _ _ _ _ _ _ _ _)) ?_
      have h7 := h6.2
      refine WP.run hP_221 1 (c' := (33, [some (.ref 74), some (.int p0), some (.int p1), some (.int 0)], [.int 0], Wd f fl (va_up g 93 (upd (g 93) (p0.toNatClampNeg) p1)) gl hh v tx)) rfl ?_
      exact WP.ret hP_221 (r := some (.int 0)) (w' := Wd f fl (va_up g 93 (upd (g 93) (p0.toNatClampNeg) p1)) gl hh v tx) rfl h7
    · have h8 := h4.2 c5
      refine WP.of (fun _ _ => Ex.iast hP_221 (w2 := Wd f fl (va_up g 93 (upd (g 93) (p0.toNatClampNeg) ((g 93) p0.toNatClampNeg))) gl hh v tx) rfl (Wa_93 _ _ _ _ _ _ _) h8.1 (Ws_93 _ _ _ _ _ _ _ _)) ?_
      have h9 := h8.2
      refine WP.run hP_221 1 (c' := (33, [some (.ref 74), some (.int p0), some (.int p1), some (.int 0)], [.int 0], Wd f fl (va_up g 93 (upd (g 93) (p0.toNatClampNeg) ((g 93) p0.toNatClampNeg))) gl hh v tx)) rfl ?_
      exact WP.ret hP_221 (r := some (.int 0)) (w' := Wd f fl (va_up g 93 (upd (g 93) (p0.toNatClampNeg) ((g 93) p0.toNatClampNeg))) gl hh v tx) rfl h9
  · have h10 := h1.2 c2
    refine WP.run hP_221 9 (c' := (26, [some (.ref 74), some (.int p0), some (.int p1), some (.int 1)], [.int p0, .ref 93, .int p0, .ref 93], Wd f fl g gl hh v tx)) rfl ?_
    refine WP.of (fun _ _ => Ex.iald hP_221 rfl (Wa_93 _ _ _ _ _ _ _) h10.1) ?_
    have h11 := h10.2
    refine WP.run hP_221 1 (c' := (28, [some (.ref 74), some (.int p0), some (.int p1), some (.int 1)], [.int p1, .int ((g 93) p0.toNatClampNeg), .int p0, .ref 93], Wd f fl g gl hh v tx)) rfl ?_
    refine WP.call hP_221 hP_117 (as := [.int ((g 93) p0.toNatClampNeg), .int p1]) (pc' := 31) (L' := [some (.ref 74), some (.int p0), some (.int p1), some (.int 1)]) (st' := [.int p0, .ref 93]) (w1 := Wd f fl g gl hh v tx) rfl ⟨Nat.le_of_ble_eq_true rfl, Nat.le_of_ble_eq_true rfl⟩ rfl (b_m_lesser_0 X (d) f fl g gl hh v tx ((g 93) p0.toNatClampNeg) p1 _ ?_)
    refine ⟨fun c12 => ?_, fun c12 => ?_⟩
    · have h13 := h11.1 c12
      refine WP.of (fun _ _ => Ex.iast hP_221 (w2 := Wd f fl (va_up g 93 (upd (g 93) (p0.toNatClampNeg) p1)) gl hh v tx) rfl (Wa_93 _ _ _ _ _ _ _) h13.1 (Ws_93 _ _ _ _ _ _ _ _)) ?_
      have h14 := h13.2
      refine WP.run hP_221 1 (c' := (33, [some (.ref 74), some (.int p0), some (.int p1), some (.int 1)], [.int 1], Wd f fl (va_up g 93 (upd (g 93) (p0.toNatClampNeg) p1)) gl hh v tx)) rfl ?_
      exact WP.ret hP_221 (r := some (.int 1)) (w' := Wd f fl (va_up g 93 (upd (g 93) (p0.toNatClampNeg) p1)) gl hh v tx) rfl h14
    · have h15 := h11.2 c12
      refine WP.of (fun _ _ => Ex.iast hP_221 (w2 := Wd f fl (va_up g 93 (upd (g 93) (p0.toNatClampNeg) ((g 93) p0.toNatClampNeg))) gl hh v tx) rfl (Wa_93 _ _ _ _ _ _ _) h15.1 (Ws_93 _ _ _ _ _ _ _ _)) ?_
      have h16 := h15.2
      refine WP.run hP_221 1 (c' := (33, [some (.ref 74), some (.int p0), some (.int p1), some (.int 1)], [.int 1], Wd f fl (va_up g 93 (upd (g 93) (p0.toNatClampNeg) ((g 93) p0.toNatClampNeg))) gl hh v tx)) rfl ?_
      exact WP.ret hP_221 (r := some (.int 1)) (w' := Wd f fl (va_up g 93 (upd (g 93) (p0.toNatClampNeg) ((g 93) p0.toNatClampNeg))) gl hh v tx) rfl h16

set_option maxRecDepth 20000 in
theorem b_m_begins_0 (X : mm_X) (d : Nat) (f : Nat → Int32) (fl : Nat → Int64) (g : Nat → Nat → Int32) (gl : Nat → Nat → Int64) (hh : Nat → Nat → Option Nat) (v : Nat → Value) (tx : mm_W) (p0 : Int32)  (P : Option Value → mm_W → Prop)
    (h : WP X (d) 222 (2, [some (.ref 74), some (.int p0), some (.int 0), none], [], Wd f fl g gl hh v tx) P) :
    WP X (d) 222 (0, [some (.ref 74), some (.int p0), none, none], [], Wd f fl g gl hh v tx) P := by
  refine WP.run hP_222 2 (c' := (2, [some (.ref 74), some (.int p0), some (.int 0), none], [], Wd f fl g gl hh v tx)) rfl ?_
  exact h

set_option maxRecDepth 20000 in
theorem b_m_begins_2 (X : mm_X) (d : Nat) (f : Nat → Int32) (fl : Nat → Int64) (g : Nat → Nat → Int32) (gl : Nat → Nat → Int64) (hh : Nat → Nat → Option Nat) (v : Nat → Value) (tx : mm_W) (l1 : Int32) (l2 : Int32)  (P : Option Value → mm_W → Prop)
    (h : ((125 ≤ l2) → WP X (d) 222 (24, [some (.ref 74), some (.int l1), some (.int 0), none], [], Wd f fl g gl hh v tx) P) ∧
    ((¬ (125 ≤ l2)) → ((¬ (l2 < 0 ∨ 125 ≤ l2.toNatClampNeg)) ∧ WP X (d) 222 (2, [some (.ref 74), some (.int l1), some (.int (l2 + (1 : Int32))), none], [], Wd f fl (va_up g 93 (upd (g 93) (l2.toNatClampNeg) 1000000)) gl hh v tx) P))) :
    WP X (d) 222 (2, [some (.ref 74), some (.int l1), some (.int l2), none], [], Wd f fl g gl hh v tx) P := by
  refine WP.run hP_222 2 (c' := (5, [some (.ref 74), some (.int l1), some (.int l2), none], [.int 125, .int l2], Wd f fl g gl hh v tx)) rfl ?_
  refine WP.br hP_222 (q := 125 ≤ l2) (t := 22) (f := 8) (L := [some (.ref 74), some (.int l1), some (.int l2), none]) (st := []) (w := Wd f fl g gl hh v tx) rfl (fun c1 => ?_) (fun c1 => ?_)
  · have h2 := h.1 c1
    refine WP.run hP_222 1 (c' := (23, [some (.ref 74), some (.int l1), none, none], [.int 0], Wd f fl g gl hh v tx)) rfl ?_
    refine WP.run hP_222 1 (c' := (24, [some (.ref 74), some (.int l1), some (.int 0), none], [], Wd f fl g gl hh v tx)) rfl ?_
    exact h2
  · have h3 := h.2 c1
    refine WP.run hP_222 4 (c' := (15, [some (.ref 74), some (.int l1), some (.int l2), none], [.int 1000000, .int l2, .ref 93], Wd f fl g gl hh v tx)) rfl ?_
    refine WP.of (fun _ _ => Ex.iast hP_222 (w2 := Wd f fl (va_up g 93 (upd (g 93) (l2.toNatClampNeg) 1000000)) gl hh v tx) rfl (Wa_93 _ _ _ _ _ _ _) h3.1 (Ws_93 _ _ _ _ _ _ _ _)) ?_
    have h4 := h3.2
    refine WP.run hP_222 2 (c' := (2, [some (.ref 74), some (.int l1), some (.int (l2 + (1 : Int32))), none], [], Wd f fl (va_up g 93 (upd (g 93) (l2.toNatClampNeg) 1000000)) gl hh v tx)) rfl ?_
    exact h4

set_option maxRecDepth 20000 in
theorem b_m_begins_24 (X : mm_X) (d : Nat) (f : Nat → Int32) (fl : Nat → Int64) (g : Nat → Nat → Int32) (gl : Nat → Nat → Int64) (hh : Nat → Nat → Option Nat) (v : Nat → Value) (tx : mm_W) (l1 : Int32) (l2 : Int32)  (P : Option Value → mm_W → Prop)
    (h : ((((g 76) 55) ≤ l2) → P none (Wd f fl g gl hh v tx)) ∧
    ((¬ (((g 76) 55) ≤ l2)) → WP X (d + 1) 222 (34, [some (.ref 74), some (.int l1), some (.int l2), some (.int 0)], [], Wd f fl g gl hh v tx) P)) :
    WP X (d + 1) 222 (24, [some (.ref 74), some (.int l1), some (.int l2), none], [], Wd f fl g gl hh v tx) P := by
  refine WP.run hP_222 2 (c' := (26, [some (.ref 74), some (.int l1), some (.int l2), none], [.ref 74, .int l2], Wd f fl g gl hh v tx)) rfl ?_
  refine WP.call hP_222 hP_129 (as := [.ref 74]) (pc' := 29) (L' := [some (.ref 74), some (.int l1), some (.int l2), none]) (st' := [.int l2]) (w1 := Wd f fl g gl hh v tx) rfl ⟨Nat.le_of_ble_eq_true rfl, Nat.le_of_ble_eq_true rfl⟩ rfl (b_m_signMany_0 X (d) f fl g gl hh v tx  _ ?_)
  refine WP.br hP_222 (q := ((g 76) 55) ≤ l2) (t := 141) (f := 32) (L := [some (.ref 74), some (.int l1), some (.int l2), none]) (st := []) (w := Wd f fl g gl hh v tx) rfl (fun c1 => ?_) (fun c1 => ?_)
  · have h2 := h.1 c1
    exact WP.ret hP_222 (r := none) (w' := Wd f fl g gl hh v tx) rfl h2
  · have h3 := h.2 c1
    refine WP.run hP_222 2 (c' := (34, [some (.ref 74), some (.int l1), some (.int l2), some (.int 0)], [], Wd f fl g gl hh v tx)) rfl ?_
    exact h3

set_option maxRecDepth 20000 in
theorem b_m_begins_34 (X : mm_X) (d : Nat) (f : Nat → Int32) (fl : Nat → Int64) (g : Nat → Nat → Int32) (gl : Nat → Nat → Int64) (hh : Nat → Nat → Option Nat) (v : Nat → Value) (tx : mm_W) (l1 : Int32) (l2 : Int32) (l3 : Int32)  (P : Option Value → mm_W → Prop)
    (h : ((((g 76) 55) ≤ l3) → WP X (d + 1) 222 (24, [some (.ref 74), some (.int l1), some (.int (l2 + (1 : Int32))), none], [], Wd f fl g gl hh v tx) P) ∧
    ((¬ (((g 76) 55) ≤ l3)) → (((l2 = l3) → WP X (d + 1) 222 (34, [some (.ref 74), some (.int l1), some (.int l2), some (.int (l3 + (1 : Int32)))], [], Wd f fl g gl hh v tx) P) ∧
      ((¬ l2 = l3) → (((¬ (((l1 >>> (l2 &&& (31 : Int32))) : Int32) &&& (1 : Int32)) = 1) → WP X (d + 1) 222 (34, [some (.ref 74), some (.int l1), some (.int l2), some (.int (l3 + (1 : Int32)))], [], Wd f fl g gl hh v tx) P) ∧
        (((((l1 >>> (l2 &&& (31 : Int32))) : Int32) &&& (1 : Int32)) = 1) → (((¬ (((l1 >>> (l3 &&& (31 : Int32))) : Int32) &&& (1 : Int32)) = 1) → WP X (d + 1) 222 (34, [some (.ref 74), some (.int l1), some (.int l2), some (.int (l3 + (1 : Int32)))], [], Wd f fl g gl hh v tx) P) ∧
          (((((l1 >>> (l3 &&& (31 : Int32))) : Int32) &&& (1 : Int32)) = 1) → ((¬ (((31 : Int32) + l2) < 0 ∨ 5667 ≤ ((31 : Int32) + l2).toNatClampNeg)) ∧ ((¬ (((31 : Int32) + l3) < 0 ∨ 5667 ≤ ((31 : Int32) + l3).toNatClampNeg)) ∧ (((((g 76) ((31 : Int32) + l3).toNatClampNeg) < ((g 76) ((31 : Int32) + l2).toNatClampNeg)) → WP X (d + 1) 222 (34, [some (.ref 74), some (.int l1), some (.int l2), some (.int (l3 + (1 : Int32)))], [], Wd f fl g gl hh v tx) P) ∧
            ((¬ (((g 76) ((31 : Int32) + l3).toNatClampNeg) < ((g 76) ((31 : Int32) + l2).toNatClampNeg))) → WP X (d) 216 (0, [some (.ref 74), some (.int l2), some (.int 0), none, none], [], Wd f fl g gl hh v tx) (fun rv w2 => WP X (d + 1) 222 (91, [some (.ref 74), some (.int l1), some (.int l2), some (.int l3)], rv.toList ++ [.ref 74], w2) P))))))))))))) :
    WP X (d + 1) 222 (34, [some (.ref 74), some (.int l1), some (.int l2), some (.int l3)], [], Wd f fl g gl hh v tx) P := by
  refine WP.run hP_222 2 (c' := (36, [some (.ref 74), some (.int l1), some (.int l2), some (.int l3)], [.ref 74, .int l3], Wd f fl g gl hh v tx)) rfl ?_
  refine WP.call hP_222 hP_129 (as := [.ref 74]) (pc' := 39) (L' := [some (.ref 74), some (.int l1), some (.int l2), some (.int l3)]) (st' := [.int l3]) (w1 := Wd f fl g gl hh v tx) rfl ⟨Nat.le_of_ble_eq_true rfl, Nat.le_of_ble_eq_true rfl⟩ rfl (b_m_signMany_0 X (d) f fl g gl hh v tx  _ ?_)
  refine WP.br hP_222 (q := ((g 76) 55) ≤ l3) (t := 135) (f := 42) (L := [some (.ref 74), some (.int l1), some (.int l2), some (.int l3)]) (st := []) (w := Wd f fl g gl hh v tx) rfl (fun c1 => ?_) (fun c1 => ?_)
  · have h2 := h.1 c1
    refine WP.run hP_222 2 (c' := (24, [some (.ref 74), some (.int l1), some (.int (l2 + (1 : Int32))), none], [], Wd f fl g gl hh v tx)) rfl ?_
    exact h2
  · have h3 := h.2 c1
    refine WP.run hP_222 2 (c' := (44, [some (.ref 74), some (.int l1), some (.int l2), some (.int l3)], [.int l3, .int l2], Wd f fl g gl hh v tx)) rfl ?_
    refine WP.br hP_222 (q := l2 = l3) (t := 129) (f := 47) (L := [some (.ref 74), some (.int l1), some (.int l2), some (.int l3)]) (st := []) (w := Wd f fl g gl hh v tx) rfl (fun c4 => ?_) (fun c4 => ?_)
    · have h5 := h3.1 c4
      refine WP.run hP_222 2 (c' := (34, [some (.ref 74), some (.int l1), some (.int l2), some (.int (l3 + (1 : Int32)))], [], Wd f fl g gl hh v tx)) rfl ?_
      exact h5
    · have h6 := h3.2 c4
      refine WP.run hP_222 2 (c' := (49, [some (.ref 74), some (.int l1), some (.int l2), some (.int l3)], [.int l2, .int l1], Wd f fl g gl hh v tx)) rfl ?_
      refine WP.call hP_222 hP_122 (as := [.int l1, .int l2]) (pc' := 52) (L' := [some (.ref 74), some (.int l1), some (.int l2), some (.int l3)]) (st' := []) (w1 := Wd f fl g gl hh v tx) rfl ⟨Nat.le_of_ble_eq_true rfl, Nat.le_of_ble_eq_true rfl⟩ rfl (b_m_isIn_0 X (d) f fl g gl hh v tx l1 l2 _ ?_)
      refine ⟨fun c7 => ?_, fun c7 => ?_⟩
      · have h8 := h6.1 c7
        refine WP.run hP_222 3 (c' := (34, [some (.ref 74), some (.int l1), some (.int l2), some (.int (l3 + (1 : Int32)))], [], Wd f fl g gl hh v tx)) rfl ?_
        exact h8
      · have h9 := h6.2 c7
        refine WP.run hP_222 3 (c' := (57, [some (.ref 74), some (.int l1), some (.int l2), some (.int l3)], [.int l3, .int l1], Wd f fl g gl hh v tx)) rfl ?_
        refine WP.call hP_222 hP_122 (as := [.int l1, .int l3]) (pc' := 60) (L' := [some (.ref 74), some (.int l1), some (.int l2), some (.int l3)]) (st' := []) (w1 := Wd f fl g gl hh v tx) rfl ⟨Nat.le_of_ble_eq_true rfl, Nat.le_of_ble_eq_true rfl⟩ rfl (b_m_isIn_0 X (d) f fl g gl hh v tx l1 l3 _ ?_)
        refine ⟨fun c10 => ?_, fun c10 => ?_⟩
        · have h11 := h9.1 c10
          refine WP.run hP_222 3 (c' := (34, [some (.ref 74), some (.int l1), some (.int l2), some (.int (l3 + (1 : Int32)))], [], Wd f fl g gl hh v tx)) rfl ?_
          exact h11
        · have h12 := h9.2 c10
          refine WP.run hP_222 6 (c' := (71, [some (.ref 74), some (.int l1), some (.int l2), some (.int l3)], [.int ((31 : Int32) + l2), .ref 76], Wd f fl g gl hh v tx)) rfl ?_
          refine WP.of (fun _ _ => Ex.iald hP_222 rfl (Wa_76 _ _ _ _ _ _ _) h12.1) ?_
          have h13 := h12.2
          refine WP.run hP_222 5 (c' := (80, [some (.ref 74), some (.int l1), some (.int l2), some (.int l3)], [.int ((31 : Int32) + l3), .ref 76, .int ((g 76) ((31 : Int32) + l2).toNatClampNeg)], Wd f fl g gl hh v tx)) rfl ?_
          refine WP.of (fun _ _ => Ex.iald hP_222 rfl (Wa_76 _ _ _ _ _ _ _) h13.1) ?_
          have h14 := h13.2
          refine WP.br hP_222 (q := ((g 76) ((31 : Int32) + l3).toNatClampNeg) < ((g 76) ((31 : Int32) + l2).toNatClampNeg)) (t := 129) (f := 84) (L := [some (.ref 74), some (.int l1), some (.int l2), some (.int l3)]) (st := []) (w := Wd f fl g gl hh v tx) rfl (fun c15 => ?_) (fun c15 => ?_)
          · have h16 := h14.1 c15
            refine WP.run hP_222 2 (c' := (34, [some (.ref 74), some (.int l1), some (.int l2), some (.int (l3 + (1 : Int32)))], [], Wd f fl g gl hh v tx)) rfl ?_
            exact h16
          · have h17 := h14.2 c15
            refine WP.run hP_222 4 (c' := (88, [some (.ref 74), some (.int l1), some (.int l2), some (.int l3)], [.int 0, .int l2, .ref 74, .ref 74], Wd f fl g gl hh v tx)) rfl ?_
            refine WP.call hP_222 hP_216 (as := [.ref 74, .int l2, .int 0]) (pc' := 91) (L' := [some (.ref 74), some (.int l1), some (.int l2), some (.int l3)]) (st' := [.ref 74]) (w1 := Wd f fl g gl hh v tx) rfl ⟨Nat.le_of_ble_eq_true rfl, Nat.le_of_ble_eq_true rfl⟩ rfl ?_
            exact h17

set_option maxRecDepth 20000 in
theorem b_m_begins_91 (X : mm_X) (d : Nat) (f : Nat → Int32) (fl : Nat → Int64) (g : Nat → Nat → Int32) (gl : Nat → Nat → Int64) (hh : Nat → Nat → Option Nat) (v : Nat → Value) (tx : mm_W) (l1 : Int32) (l2 : Int32) (l3 : Int32) (s0 : Int32)  (P : Option Value → mm_W → Prop)
    (h : WP X (d) 219 (0, [some (.ref 74), some (.int s0), some (.int l3), none, none, none], [], Wd f fl g gl hh v tx) (fun rv w2 => WP X (d + 1) 222 (95, [some (.ref 74), some (.int l1), some (.int l2), some (.int l3)], rv.toList ++ [], w2) P)) :
    WP X (d + 1) 222 (91, [some (.ref 74), some (.int l1), some (.int l2), some (.int l3)], [.int s0, .ref 74], Wd f fl g gl hh v tx) P := by
  refine WP.run hP_222 1 (c' := (92, [some (.ref 74), some (.int l1), some (.int l2), some (.int l3)], [.int l3, .int s0, .ref 74], Wd f fl g gl hh v tx)) rfl ?_
  refine WP.call hP_222 hP_219 (as := [.ref 74, .int s0, .int l3]) (pc' := 95) (L' := [some (.ref 74), some (.int l1), some (.int l2), some (.int l3)]) (st' := []) (w1 := Wd f fl g gl hh v tx) rfl ⟨Nat.le_of_ble_eq_true rfl, Nat.le_of_ble_eq_true rfl⟩ rfl ?_
  exact h

set_option maxRecDepth 20000 in
theorem b_m_begins_95 (X : mm_X) (d : Nat) (f : Nat → Int32) (fl : Nat → Int64) (g : Nat → Nat → Int32) (gl : Nat → Nat → Int64) (hh : Nat → Nat → Option Nat) (v : Nat → Value) (tx : mm_W) (l1 : Int32) (l2 : Int32) (l3 : Int32) (s0 : Int32)  (P : Option Value → mm_W → Prop)
    (h : ((¬ s0 = 0) → ((¬ (((31 : Int32) + l2) < 0 ∨ 5667 ≤ ((31 : Int32) + l2).toNatClampNeg)) ∧ WP X (d) 216 (0, [some (.ref 74), some (.int l3), some (.int ((g 76) ((31 : Int32) + l2).toNatClampNeg)), none, none], [], Wd f fl g gl hh v tx) (fun rv w2 => WP X (d + 1) 222 (116, [some (.ref 74), some (.int l1), some (.int l2), some (.int l3)], rv.toList ++ [.ref 74], w2) P))) ∧
    ((s0 = 0) → WP X (d + 1) 222 (34, [some (.ref 74), some (.int l1), some (.int l2), some (.int (l3 + (1 : Int32)))], [], Wd f fl g gl hh v tx) P)) :
    WP X (d + 1) 222 (95, [some (.ref 74), some (.int l1), some (.int l2), some (.int l3)], [.int s0], Wd f fl g gl hh v tx) P := by
  refine WP.br hP_222 (q := ¬ s0 = 0) (t := 101) (f := 98) (L := [some (.ref 74), some (.int l1), some (.int l2), some (.int l3)]) (st := []) (w := Wd f fl g gl hh v tx) rfl (fun c1 => ?_) (fun c1 => ?_)
  · have h2 := h.1 c1
    refine WP.run hP_222 8 (c' := (112, [some (.ref 74), some (.int l1), some (.int l2), some (.int l3)], [.int ((31 : Int32) + l2), .ref 76, .int l3, .ref 74, .ref 74], Wd f fl g gl hh v tx)) rfl ?_
    refine WP.of (fun _ _ => Ex.iald hP_222 rfl (Wa_76 _ _ _ _ _ _ _) h2.1) ?_
    have h3 := h2.2
    refine WP.call hP_222 hP_216 (as := [.ref 74, .int l3, .int ((g 76) ((31 : Int32) + l2).toNatClampNeg)]) (pc' := 116) (L' := [some (.ref 74), some (.int l1), some (.int l2), some (.int l3)]) (st' := [.ref 74]) (w1 := Wd f fl g gl hh v tx) rfl ⟨Nat.le_of_ble_eq_true rfl, Nat.le_of_ble_eq_true rfl⟩ rfl ?_
    exact h3
  · have h4 := h.2 (Classical.not_not.mp c1)
    refine WP.run hP_222 3 (c' := (34, [some (.ref 74), some (.int l1), some (.int l2), some (.int (l3 + (1 : Int32)))], [], Wd f fl g gl hh v tx)) rfl ?_
    exact h4

set_option maxRecDepth 20000 in
theorem b_m_begins_116 (X : mm_X) (d : Nat) (f : Nat → Int32) (fl : Nat → Int64) (g : Nat → Nat → Int32) (gl : Nat → Nat → Int64) (hh : Nat → Nat → Option Nat) (v : Nat → Value) (tx : mm_W) (l1 : Int32) (l2 : Int32) (l3 : Int32) (s0 : Int32)  (P : Option Value → mm_W → Prop)
    (h : (¬ (((31 : Int32) + l3) < 0 ∨ 5667 ≤ ((31 : Int32) + l3).toNatClampNeg)) ∧ ((¬ (s0 < 0 ∨ 125 ≤ s0.toNatClampNeg)) ∧ (((((g 93) s0.toNatClampNeg) ≤ ((g 76) ((31 : Int32) + l3).toNatClampNeg)) → ((¬ (s0 < 0 ∨ 125 ≤ s0.toNatClampNeg)) ∧ (((((g 76) ((31 : Int32) + l3).toNatClampNeg) ≤ ((g 93) s0.toNatClampNeg)) → ((¬ (s0 < 0 ∨ 125 ≤ s0.toNatClampNeg)) ∧ WP X (d + 2) 222 (34, [some (.ref 74), some (.int l1), some (.int l2), some (.int (l3 + (1 : Int32)))], [], Wd f fl (va_up g 93 (upd (g 93) (s0.toNatClampNeg) ((g 76) ((31 : Int32) + l3).toNatClampNeg))) gl hh v tx) P)) ∧
      ((¬ (((g 76) ((31 : Int32) + l3).toNatClampNeg) ≤ ((g 93) s0.toNatClampNeg))) → ((¬ (s0 < 0 ∨ 125 ≤ s0.toNatClampNeg)) ∧ WP X (d + 2) 222 (34, [some (.ref 74), some (.int l1), some (.int l2), some (.int (l3 + (1 : Int32)))], [], Wd f fl (va_up g 93 (upd (g 93) (s0.toNatClampNeg) ((g 93) s0.toNatClampNeg))) gl hh v tx) P))))) ∧
    ((¬ (((g 93) s0.toNatClampNeg) ≤ ((g 76) ((31 : Int32) + l3).toNatClampNeg))) → ((¬ (s0 < 0 ∨ 125 ≤ s0.toNatClampNeg)) ∧ (((((g 76) ((31 : Int32) + l3).toNatClampNeg) ≤ ((g 93) s0.toNatClampNeg)) → ((¬ (s0 < 0 ∨ 125 ≤ s0.toNatClampNeg)) ∧ WP X (d + 2) 222 (34, [some (.ref 74), some (.int l1), some (.int l2), some (.int (l3 + (1 : Int32)))], [], Wd f fl (va_up g 93 (upd (g 93) (s0.toNatClampNeg) ((g 76) ((31 : Int32) + l3).toNatClampNeg))) gl hh v tx) P)) ∧
      ((¬ (((g 76) ((31 : Int32) + l3).toNatClampNeg) ≤ ((g 93) s0.toNatClampNeg))) → ((¬ (s0 < 0 ∨ 125 ≤ s0.toNatClampNeg)) ∧ WP X (d + 2) 222 (34, [some (.ref 74), some (.int l1), some (.int l2), some (.int (l3 + (1 : Int32)))], [], Wd f fl (va_up g 93 (upd (g 93) (s0.toNatClampNeg) ((g 93) s0.toNatClampNeg))) gl hh v tx) P)))))))) :
    WP X (d + 2) 222 (116, [some (.ref 74), some (.int l1), some (.int l2), some (.int l3)], [.int s0, .ref 74], Wd f fl g gl hh v tx) P := by
  refine WP.run hP_222 5 (c' := (124, [some (.ref 74), some (.int l1), some (.int l2), some (.int l3)], [.int ((31 : Int32) + l3), .ref 76, .int s0, .ref 74], Wd f fl g gl hh v tx)) rfl ?_
  refine WP.of (fun _ _ => Ex.iald hP_222 rfl (Wa_76 _ _ _ _ _ _ _) h.1) ?_
  have h1 := h.2
  refine WP.call hP_222 hP_221 (as := [.ref 74, .int s0, .int ((g 76) ((31 : Int32) + l3).toNatClampNeg)]) (pc' := 128) (L' := [some (.ref 74), some (.int l1), some (.int l2), some (.int l3)]) (st' := []) (w1 := Wd f fl g gl hh v tx) rfl ⟨Nat.le_of_ble_eq_true rfl, Nat.le_of_ble_eq_true rfl⟩ rfl (b_m_comesNear_0 X (d) f fl g gl hh v tx s0 ((g 76) ((31 : Int32) + l3).toNatClampNeg) _ ?_)
  refine ⟨h1.1, ?_⟩
  have h2 := h1.2
  refine ⟨fun c3 => ?_, fun c3 => ?_⟩
  · have h4 := h2.1 c3
    refine ⟨h4.1, ?_⟩
    have h5 := h4.2
    refine ⟨fun c6 => ?_, fun c6 => ?_⟩
    · have h7 := h5.1 c6
      refine ⟨h7.1, ?_⟩
      have h8 := h7.2
      refine WP.run hP_222 3 (c' := (34, [some (.ref 74), some (.int l1), some (.int l2), some (.int (l3 + (1 : Int32)))], [], Wd f fl (va_up g 93 (upd (g 93) (s0.toNatClampNeg) ((g 76) ((31 : Int32) + l3).toNatClampNeg))) gl hh v tx)) rfl ?_
      exact h8
    · have h9 := h5.2 c6
      refine ⟨h9.1, ?_⟩
      have h10 := h9.2
      refine WP.run hP_222 3 (c' := (34, [some (.ref 74), some (.int l1), some (.int l2), some (.int (l3 + (1 : Int32)))], [], Wd f fl (va_up g 93 (upd (g 93) (s0.toNatClampNeg) ((g 93) s0.toNatClampNeg))) gl hh v tx)) rfl ?_
      exact h10
  · have h11 := h2.2 c3
    refine ⟨h11.1, ?_⟩
    have h12 := h11.2
    refine ⟨fun c13 => ?_, fun c13 => ?_⟩
    · have h14 := h12.1 c13
      refine ⟨h14.1, ?_⟩
      have h15 := h14.2
      refine WP.run hP_222 3 (c' := (34, [some (.ref 74), some (.int l1), some (.int l2), some (.int (l3 + (1 : Int32)))], [], Wd f fl (va_up g 93 (upd (g 93) (s0.toNatClampNeg) ((g 76) ((31 : Int32) + l3).toNatClampNeg))) gl hh v tx)) rfl ?_
      exact h15
    · have h16 := h12.2 c13
      refine ⟨h16.1, ?_⟩
      have h17 := h16.2
      refine WP.run hP_222 3 (c' := (34, [some (.ref 74), some (.int l1), some (.int l2), some (.int (l3 + (1 : Int32)))], [], Wd f fl (va_up g 93 (upd (g 93) (s0.toNatClampNeg) ((g 93) s0.toNatClampNeg))) gl hh v tx)) rfl ?_
      exact h17

set_option maxRecDepth 20000 in
theorem b_m_goesOnWith_0 (X : mm_X) (d : Nat) (f : Nat → Int32) (fl : Nat → Int64) (g : Nat → Nat → Int32) (gl : Nat → Nat → Int64) (hh : Nat → Nat → Option Nat) (v : Nat → Value) (tx : mm_W) (p0 : Int32) (p1 : Int32)  (P : Option Value → mm_W → Prop)
    (h : WP X (d) 217 (0, [some (.int p0), none, none], [], Wd f fl g gl hh v tx) (fun rv w2 => WP X (d + 1) 223 (4, [some (.ref 74), some (.int p0), some (.int p1), none], rv.toList ++ [], w2) P)) :
    WP X (d + 1) 223 (0, [some (.ref 74), some (.int p0), some (.int p1), none], [], Wd f fl g gl hh v tx) P := by
  refine WP.run hP_223 1 (c' := (1, [some (.ref 74), some (.int p0), some (.int p1), none], [.int p0], Wd f fl g gl hh v tx)) rfl ?_
  refine WP.call hP_223 hP_217 (as := [.int p0]) (pc' := 4) (L' := [some (.ref 74), some (.int p0), some (.int p1), none]) (st' := []) (w1 := Wd f fl g gl hh v tx) rfl ⟨Nat.le_of_ble_eq_true rfl, Nat.le_of_ble_eq_true rfl⟩ rfl ?_
  exact h

set_option maxRecDepth 20000 in
theorem b_m_goesOnWith_4 (X : mm_X) (d : Nat) (f : Nat → Int32) (fl : Nat → Int64) (g : Nat → Nat → Int32) (gl : Nat → Nat → Int64) (hh : Nat → Nat → Option Nat) (v : Nat → Value) (tx : mm_W) (l1 : Int32) (l2 : Int32) (s0 : Int32)  (P : Option Value → mm_W → Prop)
    (h : WP X (d) 219 (0, [some (.ref 74), some (.int l1), some (.int l2), none, none, none], [], Wd f fl g gl hh v tx) (fun rv w2 => WP X (d + 1) 223 (11, [some (.ref 74), some (.int l1), some (.int l2), some (.int s0)], rv.toList ++ [], w2) P)) :
    WP X (d + 1) 223 (4, [some (.ref 74), some (.int l1), some (.int l2), none], [.int s0], Wd f fl g gl hh v tx) P := by
  refine WP.run hP_223 4 (c' := (8, [some (.ref 74), some (.int l1), some (.int l2), some (.int s0)], [.int l2, .int l1, .ref 74], Wd f fl g gl hh v tx)) rfl ?_
  refine WP.call hP_223 hP_219 (as := [.ref 74, .int l1, .int l2]) (pc' := 11) (L' := [some (.ref 74), some (.int l1), some (.int l2), some (.int s0)]) (st' := []) (w1 := Wd f fl g gl hh v tx) rfl ⟨Nat.le_of_ble_eq_true rfl, Nat.le_of_ble_eq_true rfl⟩ rfl ?_
  exact h

set_option maxRecDepth 20000 in
theorem b_m_goesOnWith_11 (X : mm_X) (d : Nat) (f : Nat → Int32) (fl : Nat → Int64) (g : Nat → Nat → Int32) (gl : Nat → Nat → Int64) (hh : Nat → Nat → Option Nat) (v : Nat → Value) (tx : mm_W) (l1 : Int32) (l2 : Int32) (l3 : Int32) (s0 : Int32)  (P : Option Value → mm_W → Prop)
    (h : ((¬ s0 = 0) → ((¬ (((31 : Int32) + l2) < 0 ∨ 5667 ≤ ((31 : Int32) + l2).toNatClampNeg)) ∧ (((l3 < ((g 76) ((31 : Int32) + l2).toNatClampNeg)) → WP X (d) 216 (0, [some (.ref 74), some (.int l2), some (.int l3), none, none], [], Wd f fl g gl hh v tx) (fun rv w2 => WP X (d + 1) 223 (61, [some (.ref 74), some (.int l1), some (.int l2), some (.int l3)], rv.toList ++ [.ref 74], w2) P)) ∧
      ((¬ (l3 < ((g 76) ((31 : Int32) + l2).toNatClampNeg))) → ((¬ (((31 : Int32) + l2) < 0 ∨ 5667 ≤ ((31 : Int32) + l2).toNatClampNeg)) ∧ WP X (d) 220 (0, [some (.int l1), some (.int l3), some (.int ((g 76) ((31 : Int32) + l2).toNatClampNeg)), none, none], [], Wd f fl g gl hh v tx) (fun rv w2 => WP X (d + 1) 223 (44, [some (.ref 74), some (.int l1), some (.int l2), some (.int l3)], rv.toList ++ [.ref 74], w2) P)))))) ∧
    ((s0 = 0) → P (some (.int 0)) (Wd f fl g gl hh v tx))) :
    WP X (d + 1) 223 (11, [some (.ref 74), some (.int l1), some (.int l2), some (.int l3)], [.int s0], Wd f fl g gl hh v tx) P := by
  refine WP.br hP_223 (q := ¬ s0 = 0) (t := 16) (f := 14) (L := [some (.ref 74), some (.int l1), some (.int l2), some (.int l3)]) (st := []) (w := Wd f fl g gl hh v tx) rfl (fun c1 => ?_) (fun c1 => ?_)
  · have h2 := h.1 c1
    refine WP.run hP_223 5 (c' := (24, [some (.ref 74), some (.int l1), some (.int l2), some (.int l3)], [.int ((31 : Int32) + l2), .ref 76], Wd f fl g gl hh v tx)) rfl ?_
    refine WP.of (fun _ _ => Ex.iald hP_223 rfl (Wa_76 _ _ _ _ _ _ _) h2.1) ?_
    have h3 := h2.2
    refine WP.run hP_223 1 (c' := (26, [some (.ref 74), some (.int l1), some (.int l2), some (.int l3)], [.int l3, .int ((g 76) ((31 : Int32) + l2).toNatClampNeg)], Wd f fl g gl hh v tx)) rfl ?_
    refine WP.br hP_223 (q := l3 < ((g 76) ((31 : Int32) + l2).toNatClampNeg)) (t := 54) (f := 29) (L := [some (.ref 74), some (.int l1), some (.int l2), some (.int l3)]) (st := []) (w := Wd f fl g gl hh v tx) rfl (fun c4 => ?_) (fun c4 => ?_)
    · have h5 := h3.1 c4
      refine WP.run hP_223 4 (c' := (58, [some (.ref 74), some (.int l1), some (.int l2), some (.int l3)], [.int l3, .int l2, .ref 74, .ref 74], Wd f fl g gl hh v tx)) rfl ?_
      refine WP.call hP_223 hP_216 (as := [.ref 74, .int l2, .int l3]) (pc' := 61) (L' := [some (.ref 74), some (.int l1), some (.int l2), some (.int l3)]) (st' := [.ref 74]) (w1 := Wd f fl g gl hh v tx) rfl ⟨Nat.le_of_ble_eq_true rfl, Nat.le_of_ble_eq_true rfl⟩ rfl ?_
      exact h5
    · have h6 := h3.2 c4
      refine WP.run hP_223 8 (c' := (40, [some (.ref 74), some (.int l1), some (.int l2), some (.int l3)], [.int ((31 : Int32) + l2), .ref 76, .int l3, .int l1, .ref 74], Wd f fl g gl hh v tx)) rfl ?_
      refine WP.of (fun _ _ => Ex.iald hP_223 rfl (Wa_76 _ _ _ _ _ _ _) h6.1) ?_
      have h7 := h6.2
      refine WP.call hP_223 hP_220 (as := [.int l1, .int l3, .int ((g 76) ((31 : Int32) + l2).toNatClampNeg)]) (pc' := 44) (L' := [some (.ref 74), some (.int l1), some (.int l2), some (.int l3)]) (st' := [.ref 74]) (w1 := Wd f fl g gl hh v tx) rfl ⟨Nat.le_of_ble_eq_true rfl, Nat.le_of_ble_eq_true rfl⟩ rfl ?_
      exact h7
  · have h8 := h.2 (Classical.not_not.mp c1)
    refine WP.run hP_223 1 (c' := (15, [some (.ref 74), some (.int l1), some (.int l2), some (.int l3)], [.int 0], Wd f fl g gl hh v tx)) rfl ?_
    exact WP.ret hP_223 (r := some (.int 0)) (w' := Wd f fl g gl hh v tx) rfl h8

set_option maxRecDepth 20000 in
theorem b_m_goesOnWith_61 (X : mm_X) (d : Nat) (f : Nat → Int32) (fl : Nat → Int64) (g : Nat → Nat → Int32) (gl : Nat → Nat → Int64) (hh : Nat → Nat → Option Nat) (v : Nat → Value) (tx : mm_W) (l1 : Int32) (l2 : Int32) (l3 : Int32) (s0 : Int32)  (P : Option Value → mm_W → Prop)
    (h : (¬ (l1 < 0 ∨ 125 ≤ l1.toNatClampNeg)) ∧ ((¬ (((31 : Int32) + l2) < 0 ∨ 5667 ≤ ((31 : Int32) + l2).toNatClampNeg)) ∧ ((¬ (s0 < 0 ∨ 125 ≤ s0.toNatClampNeg)) ∧ (((((g 93) s0.toNatClampNeg) ≤ ((((g 93) l1.toNatClampNeg) + ((g 76) ((31 : Int32) + l2).toNatClampNeg)) - l3)) → ((¬ (s0 < 0 ∨ 125 ≤ s0.toNatClampNeg)) ∧ (((((((g 93) l1.toNatClampNeg) + ((g 76) ((31 : Int32) + l2).toNatClampNeg)) - l3) ≤ ((g 93) s0.toNatClampNeg)) → ((¬ (s0 < 0 ∨ 125 ≤ s0.toNatClampNeg)) ∧ P (some (.int 0)) (Wd f fl (va_up g 93 (upd (g 93) (s0.toNatClampNeg) ((((g 93) l1.toNatClampNeg) + ((g 76) ((31 : Int32) + l2).toNatClampNeg)) - l3))) gl hh v tx))) ∧
      ((¬ (((((g 93) l1.toNatClampNeg) + ((g 76) ((31 : Int32) + l2).toNatClampNeg)) - l3) ≤ ((g 93) s0.toNatClampNeg))) → ((¬ (s0 < 0 ∨ 125 ≤ s0.toNatClampNeg)) ∧ P (some (.int 0)) (Wd f fl (va_up g 93 (upd (g 93) (s0.toNatClampNeg) ((g 93) s0.toNatClampNeg))) gl hh v tx)))))) ∧
    ((¬ (((g 93) s0.toNatClampNeg) ≤ ((((g 93) l1.toNatClampNeg) + ((g 76) ((31 : Int32) + l2).toNatClampNeg)) - l3))) → ((¬ (s0 < 0 ∨ 125 ≤ s0.toNatClampNeg)) ∧ (((((((g 93) l1.toNatClampNeg) + ((g 76) ((31 : Int32) + l2).toNatClampNeg)) - l3) ≤ ((g 93) s0.toNatClampNeg)) → ((¬ (s0 < 0 ∨ 125 ≤ s0.toNatClampNeg)) ∧ P (some (.int 1)) (Wd f fl (va_up g 93 (upd (g 93) (s0.toNatClampNeg) ((((g 93) l1.toNatClampNeg) + ((g 76) ((31 : Int32) + l2).toNatClampNeg)) - l3))) gl hh v tx))) ∧
      ((¬ (((((g 93) l1.toNatClampNeg) + ((g 76) ((31 : Int32) + l2).toNatClampNeg)) - l3) ≤ ((g 93) s0.toNatClampNeg))) → ((¬ (s0 < 0 ∨ 125 ≤ s0.toNatClampNeg)) ∧ P (some (.int 1)) (Wd f fl (va_up g 93 (upd (g 93) (s0.toNatClampNeg) ((g 93) s0.toNatClampNeg))) gl hh v tx)))))))))) :
    WP X (d + 2) 223 (61, [some (.ref 74), some (.int l1), some (.int l2), some (.int l3)], [.int s0, .ref 74], Wd f fl g gl hh v tx) P := by
  refine WP.run hP_223 3 (c' := (66, [some (.ref 74), some (.int l1), some (.int l2), some (.int l3)], [.int l1, .ref 93, .int s0, .ref 74], Wd f fl g gl hh v tx)) rfl ?_
  refine WP.of (fun _ _ => Ex.iald hP_223 rfl (Wa_93 _ _ _ _ _ _ _) h.1) ?_
  have h1 := h.2
  refine WP.run hP_223 5 (c' := (75, [some (.ref 74), some (.int l1), some (.int l2), some (.int l3)], [.int ((31 : Int32) + l2), .ref 76, .int ((g 93) l1.toNatClampNeg), .int s0, .ref 74], Wd f fl g gl hh v tx)) rfl ?_
  refine WP.of (fun _ _ => Ex.iald hP_223 rfl (Wa_76 _ _ _ _ _ _ _) h1.1) ?_
  have h2 := h1.2
  refine WP.run hP_223 3 (c' := (79, [some (.ref 74), some (.int l1), some (.int l2), some (.int l3)], [.int ((((g 93) l1.toNatClampNeg) + ((g 76) ((31 : Int32) + l2).toNatClampNeg)) - l3), .int s0, .ref 74], Wd f fl g gl hh v tx)) rfl ?_
  refine WP.call hP_223 hP_221 (as := [.ref 74, .int s0, .int ((((g 93) l1.toNatClampNeg) + ((g 76) ((31 : Int32) + l2).toNatClampNeg)) - l3)]) (pc' := 82) (L' := [some (.ref 74), some (.int l1), some (.int l2), some (.int l3)]) (st' := []) (w1 := Wd f fl g gl hh v tx) rfl ⟨Nat.le_of_ble_eq_true rfl, Nat.le_of_ble_eq_true rfl⟩ rfl (b_m_comesNear_0 X (d) f fl g gl hh v tx s0 ((((g 93) l1.toNatClampNeg) + ((g 76) ((31 : Int32) + l2).toNatClampNeg)) - l3) _ ?_)
  refine ⟨h2.1, ?_⟩
  have h3 := h2.2
  refine ⟨fun c4 => ?_, fun c4 => ?_⟩
  · have h5 := h3.1 c4
    refine ⟨h5.1, ?_⟩
    have h6 := h5.2
    refine ⟨fun c7 => ?_, fun c7 => ?_⟩
    · have h8 := h6.1 c7
      refine ⟨h8.1, ?_⟩
      have h9 := h8.2
      exact WP.ret hP_223 (r := some (.int 0)) (w' := Wd f fl (va_up g 93 (upd (g 93) (s0.toNatClampNeg) ((((g 93) l1.toNatClampNeg) + ((g 76) ((31 : Int32) + l2).toNatClampNeg)) - l3))) gl hh v tx) rfl h9
    · have h10 := h6.2 c7
      refine ⟨h10.1, ?_⟩
      have h11 := h10.2
      exact WP.ret hP_223 (r := some (.int 0)) (w' := Wd f fl (va_up g 93 (upd (g 93) (s0.toNatClampNeg) ((g 93) s0.toNatClampNeg))) gl hh v tx) rfl h11
  · have h12 := h3.2 c4
    refine ⟨h12.1, ?_⟩
    have h13 := h12.2
    refine ⟨fun c14 => ?_, fun c14 => ?_⟩
    · have h15 := h13.1 c14
      refine ⟨h15.1, ?_⟩
      have h16 := h15.2
      exact WP.ret hP_223 (r := some (.int 1)) (w' := Wd f fl (va_up g 93 (upd (g 93) (s0.toNatClampNeg) ((((g 93) l1.toNatClampNeg) + ((g 76) ((31 : Int32) + l2).toNatClampNeg)) - l3))) gl hh v tx) rfl h16
    · have h17 := h13.2 c14
      refine ⟨h17.1, ?_⟩
      have h18 := h17.2
      exact WP.ret hP_223 (r := some (.int 1)) (w' := Wd f fl (va_up g 93 (upd (g 93) (s0.toNatClampNeg) ((g 93) s0.toNatClampNeg))) gl hh v tx) rfl h18

set_option maxRecDepth 20000 in
theorem b_m_goesOnWith_44 (X : mm_X) (d : Nat) (f : Nat → Int32) (fl : Nat → Int64) (g : Nat → Nat → Int32) (gl : Nat → Nat → Int64) (hh : Nat → Nat → Option Nat) (v : Nat → Value) (tx : mm_W) (l1 : Int32) (l2 : Int32) (l3 : Int32) (s0 : Int32)  (P : Option Value → mm_W → Prop)
    (h : (¬ (l1 < 0 ∨ 125 ≤ l1.toNatClampNeg)) ∧ ((¬ (s0 < 0 ∨ 125 ≤ s0.toNatClampNeg)) ∧ (((((g 93) s0.toNatClampNeg) ≤ ((g 93) l1.toNatClampNeg)) → ((¬ (s0 < 0 ∨ 125 ≤ s0.toNatClampNeg)) ∧ (((((g 93) l1.toNatClampNeg) ≤ ((g 93) s0.toNatClampNeg)) → ((¬ (s0 < 0 ∨ 125 ≤ s0.toNatClampNeg)) ∧ P (some (.int 0)) (Wd f fl (va_up g 93 (upd (g 93) (s0.toNatClampNeg) ((g 93) l1.toNatClampNeg))) gl hh v tx))) ∧
      ((¬ (((g 93) l1.toNatClampNeg) ≤ ((g 93) s0.toNatClampNeg))) → ((¬ (s0 < 0 ∨ 125 ≤ s0.toNatClampNeg)) ∧ P (some (.int 0)) (Wd f fl (va_up g 93 (upd (g 93) (s0.toNatClampNeg) ((g 93) s0.toNatClampNeg))) gl hh v tx)))))) ∧
    ((¬ (((g 93) s0.toNatClampNeg) ≤ ((g 93) l1.toNatClampNeg))) → ((¬ (s0 < 0 ∨ 125 ≤ s0.toNatClampNeg)) ∧ (((((g 93) l1.toNatClampNeg) ≤ ((g 93) s0.toNatClampNeg)) → ((¬ (s0 < 0 ∨ 125 ≤ s0.toNatClampNeg)) ∧ P (some (.int 1)) (Wd f fl (va_up g 93 (upd (g 93) (s0.toNatClampNeg) ((g 93) l1.toNatClampNeg))) gl hh v tx))) ∧
      ((¬ (((g 93) l1.toNatClampNeg) ≤ ((g 93) s0.toNatClampNeg))) → ((¬ (s0 < 0 ∨ 125 ≤ s0.toNatClampNeg)) ∧ P (some (.int 1)) (Wd f fl (va_up g 93 (upd (g 93) (s0.toNatClampNeg) ((g 93) s0.toNatClampNeg))) gl hh v tx))))))))) :
    WP X (d + 2) 223 (44, [some (.ref 74), some (.int l1), some (.int l2), some (.int l3)], [.int s0, .ref 74], Wd f fl g gl hh v tx) P := by
  refine WP.run hP_223 3 (c' := (49, [some (.ref 74), some (.int l1), some (.int l2), some (.int l3)], [.int l1, .ref 93, .int s0, .ref 74], Wd f fl g gl hh v tx)) rfl ?_
  refine WP.of (fun _ _ => Ex.iald hP_223 rfl (Wa_93 _ _ _ _ _ _ _) h.1) ?_
  have h1 := h.2
  refine WP.call hP_223 hP_221 (as := [.ref 74, .int s0, .int ((g 93) l1.toNatClampNeg)]) (pc' := 53) (L' := [some (.ref 74), some (.int l1), some (.int l2), some (.int l3)]) (st' := []) (w1 := Wd f fl g gl hh v tx) rfl ⟨Nat.le_of_ble_eq_true rfl, Nat.le_of_ble_eq_true rfl⟩ rfl (b_m_comesNear_0 X (d) f fl g gl hh v tx s0 ((g 93) l1.toNatClampNeg) _ ?_)
  refine ⟨h1.1, ?_⟩
  have h2 := h1.2
  refine ⟨fun c3 => ?_, fun c3 => ?_⟩
  · have h4 := h2.1 c3
    refine ⟨h4.1, ?_⟩
    have h5 := h4.2
    refine ⟨fun c6 => ?_, fun c6 => ?_⟩
    · have h7 := h5.1 c6
      refine ⟨h7.1, ?_⟩
      have h8 := h7.2
      exact WP.ret hP_223 (r := some (.int 0)) (w' := Wd f fl (va_up g 93 (upd (g 93) (s0.toNatClampNeg) ((g 93) l1.toNatClampNeg))) gl hh v tx) rfl h8
    · have h9 := h5.2 c6
      refine ⟨h9.1, ?_⟩
      have h10 := h9.2
      exact WP.ret hP_223 (r := some (.int 0)) (w' := Wd f fl (va_up g 93 (upd (g 93) (s0.toNatClampNeg) ((g 93) s0.toNatClampNeg))) gl hh v tx) rfl h10
  · have h11 := h2.2 c3
    refine ⟨h11.1, ?_⟩
    have h12 := h11.2
    refine ⟨fun c13 => ?_, fun c13 => ?_⟩
    · have h14 := h12.1 c13
      refine ⟨h14.1, ?_⟩
      have h15 := h14.2
      exact WP.ret hP_223 (r := some (.int 1)) (w' := Wd f fl (va_up g 93 (upd (g 93) (s0.toNatClampNeg) ((g 93) l1.toNatClampNeg))) gl hh v tx) rfl h15
    · have h16 := h12.2 c13
      refine ⟨h16.1, ?_⟩
      have h17 := h16.2
      exact WP.ret hP_223 (r := some (.int 1)) (w' := Wd f fl (va_up g 93 (upd (g 93) (s0.toNatClampNeg) ((g 93) s0.toNatClampNeg))) gl hh v tx) rfl h17

set_option maxRecDepth 20000 in
theorem b_m_twofoldOf_0 (X : mm_X) (d : Nat) (f : Nat → Int32) (fl : Nat → Int64) (g : Nat → Nat → Int32) (gl : Nat → Nat → Int64) (hh : Nat → Nat → Option Nat) (v : Nat → Value) (tx : mm_W) (p0 : Int32)  (P : Option Value → mm_W → Prop)
    (h : WP X (d) 222 (0, [some (.ref 74), some (.int p0), none, none], [], Wd f fl g gl hh v tx) (fun rv w2 => WP X (d + 1) 224 (5, [some (.ref 74), some (.int p0), none, none, none], rv.toList ++ [], w2) P)) :
    WP X (d + 1) 224 (0, [some (.ref 74), some (.int p0), none, none, none], [], Wd f fl g gl hh v tx) P := by
  refine WP.run hP_224 2 (c' := (2, [some (.ref 74), some (.int p0), none, none, none], [.int p0, .ref 74], Wd f fl g gl hh v tx)) rfl ?_
  refine WP.call hP_224 hP_222 (as := [.ref 74, .int p0]) (pc' := 5) (L' := [some (.ref 74), some (.int p0), none, none, none]) (st' := []) (w1 := Wd f fl g gl hh v tx) rfl ⟨Nat.le_of_ble_eq_true rfl, Nat.le_of_ble_eq_true rfl⟩ rfl ?_
  exact h

set_option maxRecDepth 20000 in
theorem b_m_twofoldOf_5 (X : mm_X) (d : Nat) (f : Nat → Int32) (fl : Nat → Int64) (g : Nat → Nat → Int32) (gl : Nat → Nat → Int64) (hh : Nat → Nat → Option Nat) (v : Nat → Value) (tx : mm_W) (l1 : Int32)  (P : Option Value → mm_W → Prop)
    (h : WP X (d) 224 (7, [some (.ref 74), some (.int l1), some (.int 1), none, none], [], Wd f fl g gl hh v tx) P) :
    WP X (d) 224 (5, [some (.ref 74), some (.int l1), none, none, none], [], Wd f fl g gl hh v tx) P := by
  refine WP.run hP_224 2 (c' := (7, [some (.ref 74), some (.int l1), some (.int 1), none, none], [], Wd f fl g gl hh v tx)) rfl ?_
  exact h

set_option maxRecDepth 20000 in
theorem b_m_twofoldOf_7 (X : mm_X) (d : Nat) (f : Nat → Int32) (fl : Nat → Int64) (g : Nat → Nat → Int32) (gl : Nat → Nat → Int64) (hh : Nat → Nat → Option Nat) (v : Nat → Value) (tx : mm_W) (l1 : Int32) (l2 : Int32)  (P : Option Value → mm_W → Prop)
    (h : ((l2 = 0) → P (some (.int ((g 93) 0))) (Wd f fl g gl hh v tx)) ∧
    ((¬ l2 = 0) → WP X (d) 224 (15, [some (.ref 74), some (.int l1), some (.int 0), some (.int 1), none], [], Wd f fl g gl hh v tx) P)) :
    WP X (d) 224 (7, [some (.ref 74), some (.int l1), some (.int l2), none, none], [], Wd f fl g gl hh v tx) P := by
  refine WP.run hP_224 1 (c' := (8, [some (.ref 74), some (.int l1), some (.int l2), none, none], [.int l2], Wd f fl g gl hh v tx)) rfl ?_
  refine WP.br hP_224 (q := l2 = 0) (t := 88) (f := 11) (L := [some (.ref 74), some (.int l1), some (.int l2), none, none]) (st := []) (w := Wd f fl g gl hh v tx) rfl (fun c1 => ?_) (fun c1 => ?_)
  · have h2 := h.1 c1
    refine WP.run hP_224 3 (c' := (93, [some (.ref 74), none, none, none, none], [.int 0, .ref 93], Wd f fl g gl hh v tx)) rfl ?_
    refine WP.of (fun _ _ => Ex.iald hP_224 rfl (Wa_93 _ _ _ _ _ _ _) (by decide)) ?_
    show WP X _ 224 (94, [some (.ref 74), none, none, none, none], [.int ((g 93) 0)], Wd f fl g gl hh v tx) P
    exact WP.retI hP_224 rfl rfl h2
  · have h3 := h.2 c1
    refine WP.run hP_224 3 (c' := (14, [some (.ref 74), some (.int l1), some (.int 0), none, none], [.int 1], Wd f fl g gl hh v tx)) rfl ?_
    refine WP.run hP_224 1 (c' := (15, [some (.ref 74), some (.int l1), some (.int 0), some (.int 1), none], [], Wd f fl g gl hh v tx)) rfl ?_
    exact h3

set_option maxRecDepth 20000 in
theorem b_m_twofoldOf_15 (X : mm_X) (d : Nat) (f : Nat → Int32) (fl : Nat → Int64) (g : Nat → Nat → Int32) (gl : Nat → Nat → Int64) (hh : Nat → Nat → Option Nat) (v : Nat → Value) (tx : mm_W) (l1 : Int32) (l2 : Int32) (l3 : Int32)  (P : Option Value → mm_W → Prop)
    (h : ((125 ≤ l3) → WP X (d) 224 (7, [some (.ref 74), some (.int l1), some (.int l2), none, none], [], Wd f fl g gl hh v tx) P) ∧
    ((¬ (125 ≤ l3)) → WP X (d) 224 (24, [some (.ref 74), some (.int l1), some (.int l2), some (.int l3), some (.int 0)], [], Wd f fl g gl hh v tx) P)) :
    WP X (d) 224 (15, [some (.ref 74), some (.int l1), some (.int l2), some (.int l3), none], [], Wd f fl g gl hh v tx) P := by
  refine WP.run hP_224 2 (c' := (18, [some (.ref 74), some (.int l1), some (.int l2), some (.int l3), none], [.int 125, .int l3], Wd f fl g gl hh v tx)) rfl ?_
  refine WP.br hP_224 (q := 125 ≤ l3) (t := 85) (f := 21) (L := [some (.ref 74), some (.int l1), some (.int l2), some (.int l3), none]) (st := []) (w := Wd f fl g gl hh v tx) rfl (fun c1 => ?_) (fun c1 => ?_)
  · have h2 := h.1 c1
    refine WP.run hP_224 1 (c' := (7, [some (.ref 74), some (.int l1), some (.int l2), none, none], [], Wd f fl g gl hh v tx)) rfl ?_
    exact h2
  · have h3 := h.2 c1
    refine WP.run hP_224 2 (c' := (24, [some (.ref 74), some (.int l1), some (.int l2), some (.int l3), some (.int 0)], [], Wd f fl g gl hh v tx)) rfl ?_
    exact h3

set_option maxRecDepth 20000 in
theorem b_m_twofoldOf_24 (X : mm_X) (d : Nat) (f : Nat → Int32) (fl : Nat → Int64) (g : Nat → Nat → Int32) (gl : Nat → Nat → Int64) (hh : Nat → Nat → Option Nat) (v : Nat → Value) (tx : mm_W) (l1 : Int32) (l2 : Int32) (l3 : Int32) (l4 : Int32)  (P : Option Value → mm_W → Prop)
    (h : ((((g 76) 55) ≤ l4) → WP X (d + 1) 224 (15, [some (.ref 74), some (.int l1), some (.int l2), some (.int (l3 + (1 : Int32))), none], [], Wd f fl g gl hh v tx) P) ∧
    ((¬ (((g 76) 55) ≤ l4)) → ((¬ (l3 < 0 ∨ 125 ≤ l3.toNatClampNeg)) ∧ (((1000000 ≤ ((g 93) l3.toNatClampNeg)) → WP X (d + 1) 224 (24, [some (.ref 74), some (.int l1), some (.int l2), some (.int l3), some (.int (l4 + (1 : Int32)))], [], Wd f fl g gl hh v tx) P) ∧
      ((¬ (1000000 ≤ ((g 93) l3.toNatClampNeg))) → (((¬ (((l1 >>> (l4 &&& (31 : Int32))) : Int32) &&& (1 : Int32)) = 1) → WP X (d + 1) 224 (24, [some (.ref 74), some (.int l1), some (.int l2), some (.int l3), some (.int (l4 + (1 : Int32)))], [], Wd f fl g gl hh v tx) P) ∧
        (((((l1 >>> (l4 &&& (31 : Int32))) : Int32) &&& (1 : Int32)) = 1) → WP X (d) 223 (0, [some (.ref 74), some (.int l3), some (.int l4), none], [], Wd f fl g gl hh v tx) (fun rv w2 => WP X (d + 1) 224 (60, [some (.ref 74), some (.int l1), some (.int l2), some (.int l3), some (.int l4)], rv.toList ++ [], w2) P)))))))) :
    WP X (d + 1) 224 (24, [some (.ref 74), some (.int l1), some (.int l2), some (.int l3), some (.int l4)], [], Wd f fl g gl hh v tx) P := by
  refine WP.run hP_224 2 (c' := (27, [some (.ref 74), some (.int l1), some (.int l2), some (.int l3), some (.int l4)], [.ref 74, .int l4], Wd f fl g gl hh v tx)) rfl ?_
  refine WP.call hP_224 hP_129 (as := [.ref 74]) (pc' := 30) (L' := [some (.ref 74), some (.int l1), some (.int l2), some (.int l3), some (.int l4)]) (st' := [.int l4]) (w1 := Wd f fl g gl hh v tx) rfl ⟨Nat.le_of_ble_eq_true rfl, Nat.le_of_ble_eq_true rfl⟩ rfl (b_m_signMany_0 X (d) f fl g gl hh v tx  _ ?_)
  refine WP.br hP_224 (q := ((g 76) 55) ≤ l4) (t := 79) (f := 33) (L := [some (.ref 74), some (.int l1), some (.int l2), some (.int l3), some (.int l4)]) (st := []) (w := Wd f fl g gl hh v tx) rfl (fun c1 => ?_) (fun c1 => ?_)
  · have h2 := h.1 c1
    refine WP.run hP_224 2 (c' := (15, [some (.ref 74), some (.int l1), some (.int l2), some (.int (l3 + (1 : Int32))), none], [], Wd f fl g gl hh v tx)) rfl ?_
    exact h2
  · have h3 := h.2 c1
    refine WP.run hP_224 3 (c' := (38, [some (.ref 74), some (.int l1), some (.int l2), some (.int l3), some (.int l4)], [.int l3, .ref 93], Wd f fl g gl hh v tx)) rfl ?_
    refine WP.of (fun _ _ => Ex.iald hP_224 rfl (Wa_93 _ _ _ _ _ _ _) h3.1) ?_
    have h4 := h3.2
    refine WP.run hP_224 1 (c' := (41, [some (.ref 74), some (.int l1), some (.int l2), some (.int l3), some (.int l4)], [.int 1000000, .int ((g 93) l3.toNatClampNeg)], Wd f fl g gl hh v tx)) rfl ?_
    refine WP.br hP_224 (q := 1000000 ≤ ((g 93) l3.toNatClampNeg)) (t := 73) (f := 44) (L := [some (.ref 74), some (.int l1), some (.int l2), some (.int l3), some (.int l4)]) (st := []) (w := Wd f fl g gl hh v tx) rfl (fun c5 => ?_) (fun c5 => ?_)
    · have h6 := h4.1 c5
      refine WP.run hP_224 2 (c' := (24, [some (.ref 74), some (.int l1), some (.int l2), some (.int l3), some (.int (l4 + (1 : Int32)))], [], Wd f fl g gl hh v tx)) rfl ?_
      exact h6
    · have h7 := h4.2 c5
      refine WP.run hP_224 2 (c' := (47, [some (.ref 74), some (.int l1), some (.int l2), some (.int l3), some (.int l4)], [.int l4, .int l1], Wd f fl g gl hh v tx)) rfl ?_
      refine WP.call hP_224 hP_122 (as := [.int l1, .int l4]) (pc' := 50) (L' := [some (.ref 74), some (.int l1), some (.int l2), some (.int l3), some (.int l4)]) (st' := []) (w1 := Wd f fl g gl hh v tx) rfl ⟨Nat.le_of_ble_eq_true rfl, Nat.le_of_ble_eq_true rfl⟩ rfl (b_m_isIn_0 X (d) f fl g gl hh v tx l1 l4 _ ?_)
      refine ⟨fun c8 => ?_, fun c8 => ?_⟩
      · have h9 := h7.1 c8
        refine WP.run hP_224 3 (c' := (24, [some (.ref 74), some (.int l1), some (.int l2), some (.int l3), some (.int (l4 + (1 : Int32)))], [], Wd f fl g gl hh v tx)) rfl ?_
        exact h9
      · have h10 := h7.2 c8
        refine WP.run hP_224 4 (c' := (57, [some (.ref 74), some (.int l1), some (.int l2), some (.int l3), some (.int l4)], [.int l4, .int l3, .ref 74], Wd f fl g gl hh v tx)) rfl ?_
        refine WP.call hP_224 hP_223 (as := [.ref 74, .int l3, .int l4]) (pc' := 60) (L' := [some (.ref 74), some (.int l1), some (.int l2), some (.int l3), some (.int l4)]) (st' := []) (w1 := Wd f fl g gl hh v tx) rfl ⟨Nat.le_of_ble_eq_true rfl, Nat.le_of_ble_eq_true rfl⟩ rfl ?_
        exact h10

set_option maxRecDepth 20000 in
theorem b_m_twofoldOf_60 (X : mm_X) (d : Nat) (f : Nat → Int32) (fl : Nat → Int64) (g : Nat → Nat → Int32) (gl : Nat → Nat → Int64) (hh : Nat → Nat → Option Nat) (v : Nat → Value) (tx : mm_W) (l1 : Int32) (l2 : Int32) (l3 : Int32) (l4 : Int32) (s0 : Int32)  (P : Option Value → mm_W → Prop)
    (h : ((¬ s0 = 0) → WP X (d) 224 (24, [some (.ref 74), some (.int l1), some (.int 1), some (.int l3), some (.int (l4 + (1 : Int32)))], [], Wd f fl g gl hh v tx) P) ∧
    ((s0 = 0) → (((l2 = 0) → WP X (d) 224 (24, [some (.ref 74), some (.int l1), some (.int 0), some (.int l3), some (.int (l4 + (1 : Int32)))], [], Wd f fl g gl hh v tx) P) ∧
      ((¬ l2 = 0) → WP X (d) 224 (24, [some (.ref 74), some (.int l1), some (.int 1), some (.int l3), some (.int (l4 + (1 : Int32)))], [], Wd f fl g gl hh v tx) P)))) :
    WP X (d) 224 (60, [some (.ref 74), some (.int l1), some (.int l2), some (.int l3), some (.int l4)], [.int s0], Wd f fl g gl hh v tx) P := by
  refine WP.br hP_224 (q := ¬ s0 = 0) (t := 67) (f := 63) (L := [some (.ref 74), some (.int l1), some (.int l2), some (.int l3), some (.int l4)]) (st := []) (w := Wd f fl g gl hh v tx) rfl (fun c1 => ?_) (fun c1 => ?_)
  · have h2 := h.1 c1
    refine WP.run hP_224 2 (c' := (72, [some (.ref 74), some (.int l1), none, some (.int l3), some (.int l4)], [.int 1], Wd f fl g gl hh v tx)) rfl ?_
    refine WP.run hP_224 1 (c' := (73, [some (.ref 74), some (.int l1), some (.int 1), some (.int l3), some (.int l4)], [], Wd f fl g gl hh v tx)) rfl ?_
    refine WP.run hP_224 2 (c' := (24, [some (.ref 74), some (.int l1), some (.int 1), some (.int l3), some (.int (l4 + (1 : Int32)))], [], Wd f fl g gl hh v tx)) rfl ?_
    exact h2
  · have h3 := h.2 (Classical.not_not.mp c1)
    refine WP.run hP_224 1 (c' := (64, [some (.ref 74), some (.int l1), some (.int l2), some (.int l3), some (.int l4)], [.int l2], Wd f fl g gl hh v tx)) rfl ?_
    refine WP.br hP_224 (q := l2 = 0) (t := 71) (f := 67) (L := [some (.ref 74), some (.int l1), some (.int l2), some (.int l3), some (.int l4)]) (st := []) (w := Wd f fl g gl hh v tx) rfl (fun c4 => ?_) (fun c4 => ?_)
    · have h5 := h3.1 c4
      refine WP.run hP_224 1 (c' := (72, [some (.ref 74), some (.int l1), none, some (.int l3), some (.int l4)], [.int 0], Wd f fl g gl hh v tx)) rfl ?_
      refine WP.run hP_224 1 (c' := (73, [some (.ref 74), some (.int l1), some (.int 0), some (.int l3), some (.int l4)], [], Wd f fl g gl hh v tx)) rfl ?_
      refine WP.run hP_224 2 (c' := (24, [some (.ref 74), some (.int l1), some (.int 0), some (.int l3), some (.int (l4 + (1 : Int32)))], [], Wd f fl g gl hh v tx)) rfl ?_
      exact h5
    · have h6 := h3.2 c4
      refine WP.run hP_224 2 (c' := (72, [some (.ref 74), some (.int l1), none, some (.int l3), some (.int l4)], [.int 1], Wd f fl g gl hh v tx)) rfl ?_
      refine WP.run hP_224 1 (c' := (73, [some (.ref 74), some (.int l1), some (.int 1), some (.int l3), some (.int l4)], [], Wd f fl g gl hh v tx)) rfl ?_
      refine WP.run hP_224 2 (c' := (24, [some (.ref 74), some (.int l1), some (.int 1), some (.int l3), some (.int (l4 + (1 : Int32)))], [], Wd f fl g gl hh v tx)) rfl ?_
      exact h6

set_option maxRecDepth 20000 in
theorem b_m_twofold_0 (X : mm_X) (d : Nat) (f : Nat → Int32) (fl : Nat → Int64) (g : Nat → Nat → Int32) (gl : Nat → Nat → Int64) (hh : Nat → Nat → Option Nat) (v : Nat → Value) (tx : mm_W)   (P : Option Value → mm_W → Prop)
    (h : WP X (d) 224 (0, [some (.ref 74), some (.int ((((1 : Int32) <<< (((g 76) 55) &&& (31 : Int32))) : Int32) - (1 : Int32))), none, none, none], [], Wd f fl g gl hh v tx) (fun rv w2 => WP X (d + 1) 225 (12, [some (.ref 74), none], rv.toList ++ [], w2) P)) :
    WP X (d + 1) 225 (0, [some (.ref 74), none], [], Wd f fl g gl hh v tx) P := by
  refine WP.run hP_225 3 (c' := (3, [some (.ref 74), none], [.ref 74, .int 1, .ref 74], Wd f fl g gl hh v tx)) rfl ?_
  refine WP.call hP_225 hP_129 (as := [.ref 74]) (pc' := 6) (L' := [some (.ref 74), none]) (st' := [.int 1, .ref 74]) (w1 := Wd f fl g gl hh v tx) rfl ⟨Nat.le_of_ble_eq_true rfl, Nat.le_of_ble_eq_true rfl⟩ rfl (b_m_signMany_0 X (d) f fl g gl hh v tx  _ ?_)
  refine WP.run hP_225 3 (c' := (9, [some (.ref 74), none], [.int ((((1 : Int32) <<< (((g 76) 55) &&& (31 : Int32))) : Int32) - (1 : Int32)), .ref 74], Wd f fl g gl hh v tx)) rfl ?_
  refine WP.call hP_225 hP_224 (as := [.ref 74, .int ((((1 : Int32) <<< (((g 76) 55) &&& (31 : Int32))) : Int32) - (1 : Int32))]) (pc' := 12) (L' := [some (.ref 74), none]) (st' := []) (w1 := Wd f fl g gl hh v tx) rfl ⟨Nat.le_of_ble_eq_true rfl, Nat.le_of_ble_eq_true rfl⟩ rfl ?_
  exact h

set_option maxRecDepth 20000 in
theorem b_m_twofold_12 (X : mm_X) (d : Nat) (f : Nat → Int32) (fl : Nat → Int64) (g : Nat → Nat → Int32) (gl : Nat → Nat → Int64) (hh : Nat → Nat → Option Nat) (v : Nat → Value) (tx : mm_W) (s0 : Int32)  (P : Option Value → mm_W → Prop)
    (h : ((¬ s0 = 1000000) → P (some (.int s0)) (Wd f fl g gl hh v tx)) ∧
    ((s0 = 1000000) → P (some (.int (-1))) (Wd f fl g gl hh v tx))) :
    WP X (d) 225 (12, [some (.ref 74), none], [.int s0], Wd f fl g gl hh v tx) P := by
  refine WP.run hP_225 3 (c' := (16, [some (.ref 74), some (.int s0)], [.int 1000000, .int s0], Wd f fl g gl hh v tx)) rfl ?_
  refine WP.br hP_225 (q := ¬ s0 = 1000000) (t := 23) (f := 19) (L := [some (.ref 74), some (.int s0)]) (st := []) (w := Wd f fl g gl hh v tx) rfl (fun c1 => ?_) (fun c1 => ?_)
  · have h2 := h.1 c1
    refine WP.run hP_225 1 (c' := (24, [none, some (.int s0)], [.int s0], Wd f fl g gl hh v tx)) rfl ?_
    exact WP.retI hP_225 rfl rfl h2
  · have h3 := h.2 (Classical.not_not.mp c1)
    refine WP.run hP_225 2 (c' := (24, [some (.ref 74), some (.int s0)], [.int (-1)], Wd f fl g gl hh v tx)) rfl ?_
    exact WP.retI hP_225 rfl rfl h3

set_option maxRecDepth 20000 in
theorem b_m_struck_0 (X : mm_X) (d : Nat) (f : Nat → Int32) (fl : Nat → Int64) (g : Nat → Nat → Int32) (gl : Nat → Nat → Int64) (hh : Nat → Nat → Option Nat) (v : Nat → Value) (tx : mm_W) (p0 : Int32)  (P : Option Value → mm_W → Prop)
    (h : (((0 : Int32) ≤ p0 ∧ p0 ≤ (1 : Int32)) → WP X (d + 1) 226 (25, [some (.ref 74), some (.int p0), some (.int ((((1 : Int32) <<< (((g 76) 55) &&& (31 : Int32))) : Int32) - (1 : Int32))), some (.int ((((1 : Int32) <<< (((g 76) 55) &&& (31 : Int32))) : Int32) - (1 : Int32))), some (.int 0)], [], Wd f fl g gl hh v tx) P) ∧
    ((¬ ((0 : Int32) ≤ p0 ∧ p0 ≤ (1 : Int32))) → P (some (.int (-1))) (Wd f fl g gl hh v tx))) :
    WP X (d + 1) 226 (0, [some (.ref 74), some (.int p0), none, none, none], [], Wd f fl g gl hh v tx) P := by
  refine WP.run hP_226 3 (c' := (3, [some (.ref 74), some (.int p0), none, none, none], [.int 1, .int 0, .int p0], Wd f fl g gl hh v tx)) rfl ?_
  refine WP.call hP_226 hP_116 (as := [.int p0, .int 0, .int 1]) (pc' := 6) (L' := [some (.ref 74), some (.int p0), none, none, none]) (st' := []) (w1 := Wd f fl g gl hh v tx) rfl ⟨Nat.le_of_ble_eq_true rfl, Nat.le_of_ble_eq_true rfl⟩ rfl (b_lies_m X (d) f fl g gl hh v tx p0 0 1 _ ?_)
  refine ⟨fun c1 => ?_, fun c1 => ?_⟩
  · have h2 := h.1 c1
    refine WP.run hP_226 3 (c' := (13, [some (.ref 74), some (.int p0), none, none, none], [.ref 74, .int 1], Wd f fl g gl hh v tx)) rfl ?_
    refine WP.call hP_226 hP_129 (as := [.ref 74]) (pc' := 16) (L' := [some (.ref 74), some (.int p0), none, none, none]) (st' := [.int 1]) (w1 := Wd f fl g gl hh v tx) rfl ⟨Nat.le_of_ble_eq_true rfl, Nat.le_of_ble_eq_true rfl⟩ rfl (b_m_signMany_0 X (d) f fl g gl hh v tx  _ ?_)
    refine WP.run hP_226 5 (c' := (21, [some (.ref 74), some (.int p0), some (.int ((((1 : Int32) <<< (((g 76) 55) &&& (31 : Int32))) : Int32) - (1 : Int32))), none, none], [.int ((((1 : Int32) <<< (((g 76) 55) &&& (31 : Int32))) : Int32) - (1 : Int32))], Wd f fl g gl hh v tx)) rfl ?_
    refine WP.run hP_226 2 (c' := (23, [some (.ref 74), some (.int p0), some (.int ((((1 : Int32) <<< (((g 76) 55) &&& (31 : Int32))) : Int32) - (1 : Int32))), some (.int ((((1 : Int32) <<< (((g 76) 55) &&& (31 : Int32))) : Int32) - (1 : Int32))), none], [.int 0], Wd f fl g gl hh v tx)) rfl ?_
    refine WP.run hP_226 1 (c' := (25, [some (.ref 74), some (.int p0), some (.int ((((1 : Int32) <<< (((g 76) 55) &&& (31 : Int32))) : Int32) - (1 : Int32))), some (.int ((((1 : Int32) <<< (((g 76) 55) &&& (31 : Int32))) : Int32) - (1 : Int32))), some (.int 0)], [], Wd f fl g gl hh v tx)) rfl ?_
    exact h2
  · have h3 := h.2 c1
    refine WP.run hP_226 2 (c' := (10, [some (.ref 74), some (.int p0), none, none, none], [.int (-1)], Wd f fl g gl hh v tx)) rfl ?_
    exact WP.retI hP_226 rfl rfl h3

set_option maxRecDepth 20000 in
theorem b_m_struck_25 (X : mm_X) (d : Nat) (f : Nat → Int32) (fl : Nat → Int64) (g : Nat → Nat → Int32) (gl : Nat → Nat → Int64) (hh : Nat → Nat → Option Nat) (v : Nat → Value) (tx : mm_W) (l1 : Int32) (l2 : Int32) (l3 : Int32) (l4 : Int32)  (P : Option Value → mm_W → Prop)
    (h : ((l2 ≤ l4) → (((¬ l1 = 0) → P (some (.int l3)) (Wd f fl g gl hh v tx)) ∧
      ((l1 = 0) → WP X (d) 123 (0, [some (.int l3), none, none], [], Wd f fl g gl hh v tx) (fun rv w2 => WP X (d + 1) 226 (73, [none, some (.int l1), none, some (.int l3), none], rv.toList ++ [], w2) P)))) ∧
    ((¬ (l2 ≤ l4)) → WP X (d) 123 (0, [some (.int l4), none, none], [], Wd f fl g gl hh v tx) (fun rv w2 => WP X (d + 1) 226 (36, [some (.ref 74), some (.int l1), some (.int l2), some (.int l3), some (.int l4)], rv.toList ++ [], w2) P))) :
    WP X (d + 1) 226 (25, [some (.ref 74), some (.int l1), some (.int l2), some (.int l3), some (.int l4)], [], Wd f fl g gl hh v tx) P := by
  refine WP.run hP_226 2 (c' := (28, [some (.ref 74), some (.int l1), some (.int l2), some (.int l3), some (.int l4)], [.int l2, .int l4], Wd f fl g gl hh v tx)) rfl ?_
  refine WP.br hP_226 (q := l2 ≤ l4) (t := 65) (f := 31) (L := [some (.ref 74), some (.int l1), some (.int l2), some (.int l3), some (.int l4)]) (st := []) (w := Wd f fl g gl hh v tx) rfl (fun c1 => ?_) (fun c1 => ?_)
  · have h2 := h.1 c1
    refine WP.run hP_226 1 (c' := (66, [none, some (.int l1), none, some (.int l3), none], [.int l1], Wd f fl g gl hh v tx)) rfl ?_
    refine WP.br hP_226 (q := ¬ l1 = 0) (t := 76) (f := 69) (L := [none, some (.int l1), none, some (.int l3), none]) (st := []) (w := Wd f fl g gl hh v tx) rfl (fun c3 => ?_) (fun c3 => ?_)
    · have h4 := h2.1 c3
      refine WP.run hP_226 1 (c' := (77, [none, none, none, some (.int l3), none], [.int l3], Wd f fl g gl hh v tx)) rfl ?_
      exact WP.retI hP_226 rfl rfl h4
    · have h5 := h2.2 (Classical.not_not.mp c3)
      refine WP.run hP_226 1 (c' := (70, [none, some (.int l1), none, some (.int l3), none], [.int l3], Wd f fl g gl hh v tx)) rfl ?_
      refine WP.call hP_226 hP_123 (as := [.int l3]) (pc' := 73) (L' := [none, some (.int l1), none, some (.int l3), none]) (st' := []) (w1 := Wd f fl g gl hh v tx) rfl ⟨Nat.le_of_ble_eq_true rfl, Nat.le_of_ble_eq_true rfl⟩ rfl ?_
      exact h5
  · have h6 := h.2 c1
    refine WP.run hP_226 1 (c' := (33, [some (.ref 74), some (.int l1), some (.int l2), some (.int l3), some (.int l4)], [.int l4], Wd f fl g gl hh v tx)) rfl ?_
    refine WP.call hP_226 hP_123 (as := [.int l4]) (pc' := 36) (L' := [some (.ref 74), some (.int l1), some (.int l2), some (.int l3), some (.int l4)]) (st' := []) (w1 := Wd f fl g gl hh v tx) rfl ⟨Nat.le_of_ble_eq_true rfl, Nat.le_of_ble_eq_true rfl⟩ rfl ?_
    exact h6

set_option maxRecDepth 20000 in
theorem b_m_struck_73 (X : mm_X) (d : Nat) (f : Nat → Int32) (fl : Nat → Int64) (g : Nat → Nat → Int32) (gl : Nat → Nat → Int64) (hh : Nat → Nat → Option Nat) (v : Nat → Value) (tx : mm_W) (l1 : Int32) (l3 : Int32) (s0 : Int32)  (P : Option Value → mm_W → Prop)
    (h : P (some (.int s0)) (Wd f fl g gl hh v tx)) :
    WP X (d) 226 (73, [none, some (.int l1), none, some (.int l3), none], [.int s0], Wd f fl g gl hh v tx) P := by
  refine WP.run hP_226 1 (c' := (77, [none, some (.int l1), none, some (.int l3), none], [.int s0], Wd f fl g gl hh v tx)) rfl ?_
  exact WP.retI hP_226 rfl rfl h

set_option maxRecDepth 20000 in
theorem b_m_struck_36 (X : mm_X) (d : Nat) (f : Nat → Int32) (fl : Nat → Int64) (g : Nat → Nat → Int32) (gl : Nat → Nat → Int64) (hh : Nat → Nat → Option Nat) (v : Nat → Value) (tx : mm_W) (l1 : Int32) (l2 : Int32) (l3 : Int32) (l4 : Int32) (s0 : Int32)  (P : Option Value → mm_W → Prop)
    (h : WP X (d) 123 (0, [some (.int l3), none, none], [], Wd f fl g gl hh v tx) (fun rv w2 => WP X (d + 1) 226 (40, [some (.ref 74), some (.int l1), some (.int l2), some (.int l3), some (.int l4)], rv.toList ++ [.int s0], w2) P)) :
    WP X (d + 1) 226 (36, [some (.ref 74), some (.int l1), some (.int l2), some (.int l3), some (.int l4)], [.int s0], Wd f fl g gl hh v tx) P := by
  refine WP.run hP_226 1 (c' := (37, [some (.ref 74), some (.int l1), some (.int l2), some (.int l3), some (.int l4)], [.int l3, .int s0], Wd f fl g gl hh v tx)) rfl ?_
  refine WP.call hP_226 hP_123 (as := [.int l3]) (pc' := 40) (L' := [some (.ref 74), some (.int l1), some (.int l2), some (.int l3), some (.int l4)]) (st' := [.int s0]) (w1 := Wd f fl g gl hh v tx) rfl ⟨Nat.le_of_ble_eq_true rfl, Nat.le_of_ble_eq_true rfl⟩ rfl ?_
  exact h

set_option maxRecDepth 20000 in
theorem b_m_struck_40 (X : mm_X) (d : Nat) (f : Nat → Int32) (fl : Nat → Int64) (g : Nat → Nat → Int32) (gl : Nat → Nat → Int64) (hh : Nat → Nat → Option Nat) (v : Nat → Value) (tx : mm_W) (l1 : Int32) (l2 : Int32) (l3 : Int32) (l4 : Int32) (s0 : Int32) (s1 : Int32)  (P : Option Value → mm_W → Prop)
    (h : ((s0 ≤ s1) → WP X (d + 1) 226 (25, [some (.ref 74), some (.int l1), some (.int l2), some (.int l3), some (.int (l4 + (1 : Int32)))], [], Wd f fl g gl hh v tx) P) ∧
    ((¬ (s0 ≤ s1)) → WP X (d) 224 (0, [some (.ref 74), some (.int (l2 ^^^ l4)), none, none, none], [], Wd f fl g gl hh v tx) (fun rv w2 => WP X (d + 1) 226 (51, [some (.ref 74), some (.int l1), some (.int l2), some (.int l3), some (.int l4)], rv.toList ++ [], w2) P))) :
    WP X (d + 1) 226 (40, [some (.ref 74), some (.int l1), some (.int l2), some (.int l3), some (.int l4)], [.int s0, .int s1], Wd f fl g gl hh v tx) P := by
  refine WP.br hP_226 (q := s0 ≤ s1) (t := 59) (f := 43) (L := [some (.ref 74), some (.int l1), some (.int l2), some (.int l3), some (.int l4)]) (st := []) (w := Wd f fl g gl hh v tx) rfl (fun c1 => ?_) (fun c1 => ?_)
  · have h2 := h.1 c1
    refine WP.run hP_226 2 (c' := (25, [some (.ref 74), some (.int l1), some (.int l2), some (.int l3), some (.int (l4 + (1 : Int32)))], [], Wd f fl g gl hh v tx)) rfl ?_
    exact h2
  · have h3 := h.2 c1
    refine WP.run hP_226 4 (c' := (48, [some (.ref 74), some (.int l1), some (.int l2), some (.int l3), some (.int l4)], [.int (l2 ^^^ l4), .ref 74], Wd f fl g gl hh v tx)) rfl ?_
    refine WP.call hP_226 hP_224 (as := [.ref 74, .int (l2 ^^^ l4)]) (pc' := 51) (L' := [some (.ref 74), some (.int l1), some (.int l2), some (.int l3), some (.int l4)]) (st' := []) (w1 := Wd f fl g gl hh v tx) rfl ⟨Nat.le_of_ble_eq_true rfl, Nat.le_of_ble_eq_true rfl⟩ rfl ?_
    exact h3

set_option maxRecDepth 20000 in
theorem b_m_struck_51 (X : mm_X) (d : Nat) (f : Nat → Int32) (fl : Nat → Int64) (g : Nat → Nat → Int32) (gl : Nat → Nat → Int64) (hh : Nat → Nat → Option Nat) (v : Nat → Value) (tx : mm_W) (l1 : Int32) (l2 : Int32) (l3 : Int32) (l4 : Int32) (s0 : Int32)  (P : Option Value → mm_W → Prop)
    (h : ((¬ s0 = 1000000) → WP X (d) 226 (25, [some (.ref 74), some (.int l1), some (.int l2), some (.int l3), some (.int (l4 + (1 : Int32)))], [], Wd f fl g gl hh v tx) P) ∧
    ((s0 = 1000000) → WP X (d) 226 (25, [some (.ref 74), some (.int l1), some (.int l2), some (.int l4), some (.int (l4 + (1 : Int32)))], [], Wd f fl g gl hh v tx) P)) :
    WP X (d) 226 (51, [some (.ref 74), some (.int l1), some (.int l2), some (.int l3), some (.int l4)], [.int s0], Wd f fl g gl hh v tx) P := by
  refine WP.run hP_226 1 (c' := (53, [some (.ref 74), some (.int l1), some (.int l2), some (.int l3), some (.int l4)], [.int 1000000, .int s0], Wd f fl g gl hh v tx)) rfl ?_
  refine WP.br hP_226 (q := ¬ s0 = 1000000) (t := 59) (f := 56) (L := [some (.ref 74), some (.int l1), some (.int l2), some (.int l3), some (.int l4)]) (st := []) (w := Wd f fl g gl hh v tx) rfl (fun c1 => ?_) (fun c1 => ?_)
  · have h2 := h.1 c1
    refine WP.run hP_226 2 (c' := (25, [some (.ref 74), some (.int l1), some (.int l2), some (.int l3), some (.int (l4 + (1 : Int32)))], [], Wd f fl g gl hh v tx)) rfl ?_
    exact h2
  · have h3 := h.2 (Classical.not_not.mp c1)
    refine WP.run hP_226 2 (c' := (59, [some (.ref 74), some (.int l1), some (.int l2), some (.int l4), some (.int l4)], [], Wd f fl g gl hh v tx)) rfl ?_
    refine WP.run hP_226 2 (c' := (25, [some (.ref 74), some (.int l1), some (.int l2), some (.int l4), some (.int (l4 + (1 : Int32)))], [], Wd f fl g gl hh v tx)) rfl ?_
    exact h3

set_option maxRecDepth 20000 in
theorem b_j_fill52_0 (X : mm_X) (d : Nat) (f : Nat → Int32) (fl : Nat → Int64) (g : Nat → Nat → Int32) (gl : Nat → Nat → Int64) (hh : Nat → Nat → Option Nat) (v : Nat → Value) (tx : mm_W) (p0 : Int32)  (P : Option Value → mm_W → Prop)
    (h : WP X (d) 258 (5, [some (.ref 52), some (.int p0), some (.int 0), some (.int 128)], [], Wd f fl g gl hh v tx) P) :
    WP X (d) 258 (0, [some (.ref 52), some (.int p0), none, none], [], Wd f fl g gl hh v tx) P := by
  refine WP.run hP_258 4 (c' := (4, [some (.ref 52), some (.int p0), some (.int 0), none], [.int 128], Wd f fl g gl hh v tx)) rfl ?_
  refine WP.run hP_258 1 (c' := (5, [some (.ref 52), some (.int p0), some (.int 0), some (.int 128)], [], Wd f fl g gl hh v tx)) rfl ?_
  exact h

set_option maxRecDepth 20000 in
theorem b_j_fill52_5 (X : mm_X) (d : Nat) (f : Nat → Int32) (fl : Nat → Int64) (g : Nat → Nat → Int32) (gl : Nat → Nat → Int64) (hh : Nat → Nat → Option Nat) (v : Nat → Value) (tx : mm_W) (l1 : Int32) (l2 : Int32) (l3 : Int32)  (P : Option Value → mm_W → Prop)
    (h : ((l3 ≤ l2) → P none (Wd f fl g gl hh v tx)) ∧
    ((¬ (l3 ≤ l2)) → ((¬ (l2 < 0 ∨ 128 ≤ l2.toNatClampNeg)) ∧ WP X (d) 258 (5, [some (.ref 52), some (.int l1), some (.int (l2 + (1 : Int32))), some (.int l3)], [], Wd f fl (va_up g 52 (upd (g 52) (l2.toNatClampNeg) l1)) gl hh v tx) P))) :
    WP X (d) 258 (5, [some (.ref 52), some (.int l1), some (.int l2), some (.int l3)], [], Wd f fl g gl hh v tx) P := by
  refine WP.run hP_258 2 (c' := (7, [some (.ref 52), some (.int l1), some (.int l2), some (.int l3)], [.int l3, .int l2], Wd f fl g gl hh v tx)) rfl ?_
  refine WP.br hP_258 (q := l3 ≤ l2) (t := 20) (f := 10) (L := [some (.ref 52), some (.int l1), some (.int l2), some (.int l3)]) (st := []) (w := Wd f fl g gl hh v tx) rfl (fun c1 => ?_) (fun c1 => ?_)
  · have h2 := h.1 c1
    exact WP.ret hP_258 (r := none) (w' := Wd f fl g gl hh v tx) rfl h2
  · have h3 := h.2 c1
    refine WP.run hP_258 3 (c' := (13, [some (.ref 52), some (.int l1), some (.int l2), some (.int l3)], [.int l1, .int l2, .ref 52], Wd f fl g gl hh v tx)) rfl ?_
    refine WP.of (fun _ _ => Ex.iast hP_258 (w2 := Wd f fl (va_up g 52 (upd (g 52) (l2.toNatClampNeg) l1)) gl hh v tx) rfl (Wa_52 _ _ _ _ _ _ _) h3.1 (Ws_52 _ _ _ _ _ _ _ _)) ?_
    have h4 := h3.2
    refine WP.run hP_258 2 (c' := (5, [some (.ref 52), some (.int l1), some (.int (l2 + (1 : Int32))), some (.int l3)], [], Wd f fl (va_up g 52 (upd (g 52) (l2.toNatClampNeg) l1)) gl hh v tx)) rfl ?_
    exact h4
