set_option maxRecDepth 20000 in
theorem b_m_leastWith_0 (X : mm_X) (d : Nat) (f : Nat → Int32) (fl : Nat → Int64) (g : Nat → Nat → Int32) (gl : Nat → Nat → Int64) (hh : Nat → Nat → Option Nat) (v : Nat → Value) (tx : mm_W) (p0 : Int32) (p1 : Int32) (p2 : Int32)  (P : Option Value → mm_W → Prop)
    (h : WP X (d) 194 (0, [some (.ref 74), some (.int p0), some (.int p1), none, none], [], Wd f fl g gl hh v tx) (fun rv w2 => WP X (d + 1) 197 (6, [some (.ref 74), some (.int p0), some (.int p1), some (.int p2), none], rv.toList ++ [], w2) P)) :
    WP X (d + 1) 197 (0, [some (.ref 74), some (.int p0), some (.int p1), some (.int p2), none], [], Wd f fl g gl hh v tx) P := by
  refine WP.run hP_197 3 (c' := (3, [some (.ref 74), some (.int p0), some (.int p1), some (.int p2), none], [.int p1, .int p0, .ref 74], Wd f fl g gl hh v tx)) rfl ?_
  refine WP.call hP_197 hP_194 (as := [.ref 74, .int p0, .int p1]) (pc' := 6) (L' := [some (.ref 74), some (.int p0), some (.int p1), some (.int p2), none]) (st' := []) (w1 := Wd f fl g gl hh v tx) rfl ⟨Nat.le_of_ble_eq_true rfl, Nat.le_of_ble_eq_true rfl⟩ rfl ?_
  exact h

set_option maxRecDepth 20000 in
theorem b_m_leastWith_6 (X : mm_X) (d : Nat) (f : Nat → Int32) (fl : Nat → Int64) (g : Nat → Nat → Int32) (gl : Nat → Nat → Int64) (hh : Nat → Nat → Option Nat) (v : Nat → Value) (tx : mm_W) (l1 : Int32) (l2 : Int32) (l3 : Int32) (s0 : Int32)  (P : Option Value → mm_W → Prop)
    (h : ((s0 = 1000000) → P (some (.int 1000000)) (Wd f fl g gl hh v tx)) ∧
    ((¬ s0 = 1000000) → (((¬ l3 = 0) → WP X (d) 197 (27, [some (.ref 74), some (.int l1), some (.int l2), some (.int l3), some (.int s0)], [], Wd f fl g gl hh v tx) P) ∧
      ((l3 = 0) → (((s0 ≤ 0) → WP X (d) 197 (27, [some (.ref 74), some (.int l1), some (.int l2), some (.int l3), some (.int s0)], [], Wd f fl g gl hh v tx) P) ∧
        ((¬ (s0 ≤ 0)) → P (some (.int 1000000)) (Wd f fl g gl hh v tx))))))) :
    WP X (d) 197 (6, [some (.ref 74), some (.int l1), some (.int l2), some (.int l3), none], [.int s0], Wd f fl g gl hh v tx) P := by
  refine WP.run hP_197 3 (c' := (12, [some (.ref 74), some (.int l1), some (.int l2), some (.int l3), some (.int s0)], [.int 1000000, .int s0], Wd f fl g gl hh v tx)) rfl ?_
  refine WP.br hP_197 (q := s0 = 1000000) (t := 24) (f := 15) (L := [some (.ref 74), some (.int l1), some (.int l2), some (.int l3), some (.int s0)]) (st := []) (w := Wd f fl g gl hh v tx) rfl (fun c1 => ?_) (fun c1 => ?_)
  · have h2 := h.1 c1
    refine WP.run hP_197 1 (c' := (26, [none, none, none, none, none], [.int 1000000], Wd f fl g gl hh v tx)) rfl ?_
    exact WP.retI hP_197 rfl rfl h2
  · have h3 := h.2 c1
    refine WP.run hP_197 1 (c' := (16, [some (.ref 74), some (.int l1), some (.int l2), some (.int l3), some (.int s0)], [.int l3], Wd f fl g gl hh v tx)) rfl ?_
    refine WP.br hP_197 (q := ¬ l3 = 0) (t := 27) (f := 19) (L := [some (.ref 74), some (.int l1), some (.int l2), some (.int l3), some (.int s0)]) (st := []) (w := Wd f fl g gl hh v tx) rfl (fun c4 => ?_) (fun c4 => ?_)
    · have h5 := h3.1 c4
      exact h5
    · have h6 := h3.2 (Classical.not_not.mp c4)
      refine WP.run hP_197 1 (c' := (21, [some (.ref 74), some (.int l1), some (.int l2), some (.int l3), some (.int s0)], [.int s0], Wd f fl g gl hh v tx)) rfl ?_
      refine WP.br hP_197 (q := s0 ≤ 0) (t := 27) (f := 24) (L := [some (.ref 74), some (.int l1), some (.int l2), some (.int l3), some (.int s0)]) (st := []) (w := Wd f fl g gl hh v tx) rfl (fun c7 => ?_) (fun c7 => ?_)
      · have h8 := h6.1 c7
        exact h8
      · have h9 := h6.2 c7
        refine WP.run hP_197 1 (c' := (26, [none, none, none, none, none], [.int 1000000], Wd f fl g gl hh v tx)) rfl ?_
        exact WP.retI hP_197 rfl rfl h9

set_option maxRecDepth 20000 in
theorem b_m_leastWith_27 (X : mm_X) (d : Nat) (f : Nat → Int32) (fl : Nat → Int64) (g : Nat → Nat → Int32) (gl : Nat → Nat → Int64) (hh : Nat → Nat → Option Nat) (v : Nat → Value) (tx : mm_W) (l1 : Int32) (l2 : Int32) (l3 : Int32) (l4 : Int32)  (P : Option Value → mm_W → Prop)
    (h : (¬ (((31 : Int32) + l1) < 0 ∨ 5667 ≤ ((31 : Int32) + l1).toNatClampNeg)) ∧ ((¬ ((l2 + ((g 76) ((31 : Int32) + l1).toNatClampNeg)) < 0 ∨ 13 ≤ (l2 + ((g 76) ((31 : Int32) + l1).toNatClampNeg)).toNatClampNeg)) ∧ (((l3 = 0) → ((¬ (l1 < 0 ∨ 8 ≤ l1.toNatClampNeg)) ∧ ((((((g 88) (l2 + ((g 76) ((31 : Int32) + l1).toNatClampNeg)).toNatClampNeg) + ((g 89) l1.toNatClampNeg)) ≤ (1000000 : Int32)) → P (some (.int (((g 88) (l2 + ((g 76) ((31 : Int32) + l1).toNatClampNeg)).toNatClampNeg) + ((g 89) l1.toNatClampNeg)))) (Wd f fl g gl hh v tx)) ∧
      ((¬ ((((g 88) (l2 + ((g 76) ((31 : Int32) + l1).toNatClampNeg)).toNatClampNeg) + ((g 89) l1.toNatClampNeg)) ≤ (1000000 : Int32))) → P (some (.int 1000000)) (Wd f fl g gl hh v tx))))) ∧
    ((¬ l3 = 0) → ((((((g 88) (l2 + ((g 76) ((31 : Int32) + l1).toNatClampNeg)).toNatClampNeg) + l4) ≤ (1000000 : Int32)) → P (some (.int (((g 88) (l2 + ((g 76) ((31 : Int32) + l1).toNatClampNeg)).toNatClampNeg) + l4))) (Wd f fl g gl hh v tx)) ∧
      ((¬ ((((g 88) (l2 + ((g 76) ((31 : Int32) + l1).toNatClampNeg)).toNatClampNeg) + l4) ≤ (1000000 : Int32))) → P (some (.int 1000000)) (Wd f fl g gl hh v tx))))))) :
    WP X (d + 1) 197 (27, [some (.ref 74), some (.int l1), some (.int l2), some (.int l3), some (.int l4)], [], Wd f fl g gl hh v tx) P := by
  refine WP.run hP_197 9 (c' := (42, [some (.ref 74), some (.int l1), some (.int l2), some (.int l3), some (.int l4)], [.int ((31 : Int32) + l1), .ref 76, .int l2, .ref 88, .int 1000000], Wd f fl g gl hh v tx)) rfl ?_
  refine WP.of (fun _ _ => Ex.iald hP_197 rfl (Wa_76 _ _ _ _ _ _ _) h.1) ?_
  have h1 := h.2
  refine WP.run hP_197 1 (c' := (44, [some (.ref 74), some (.int l1), some (.int l2), some (.int l3), some (.int l4)], [.int (l2 + ((g 76) ((31 : Int32) + l1).toNatClampNeg)), .ref 88, .int 1000000], Wd f fl g gl hh v tx)) rfl ?_
  refine WP.of (fun _ _ => Ex.iald hP_197 rfl (Wa_88 _ _ _ _ _ _ _) h1.1) ?_
  have h2 := h1.2
  refine WP.run hP_197 1 (c' := (46, [some (.ref 74), some (.int l1), some (.int l2), some (.int l3), some (.int l4)], [.int l3, .int ((g 88) (l2 + ((g 76) ((31 : Int32) + l1).toNatClampNeg)).toNatClampNeg), .int 1000000], Wd f fl g gl hh v tx)) rfl ?_
  refine WP.br hP_197 (q := l3 = 0) (t := 54) (f := 49) (L := [some (.ref 74), some (.int l1), some (.int l2), some (.int l3), some (.int l4)]) (st := [.int ((g 88) (l2 + ((g 76) ((31 : Int32) + l1).toNatClampNeg)).toNatClampNeg), .int 1000000]) (w := Wd f fl g gl hh v tx) rfl (fun c3 => ?_) (fun c3 => ?_)
  · have h4 := h2.1 c3
    refine WP.run hP_197 3 (c' := (59, [some (.ref 74), some (.int l1), none, none, none], [.int l1, .ref 89, .int ((g 88) (l2 + ((g 76) ((31 : Int32) + l1).toNatClampNeg)).toNatClampNeg), .int 1000000], Wd f fl g gl hh v tx)) rfl ?_
    refine WP.of (fun _ _ => Ex.iald hP_197 rfl (Wa_89 _ _ _ _ _ _ _) h4.1) ?_
    have h5 := h4.2
    refine WP.run hP_197 1 (c' := (61, [none, none, none, none, none], [.int (((g 88) (l2 + ((g 76) ((31 : Int32) + l1).toNatClampNeg)).toNatClampNeg) + ((g 89) l1.toNatClampNeg)), .int 1000000], Wd f fl g gl hh v tx)) rfl ?_
    refine WP.call hP_197 hP_117 (as := [.int 1000000, .int (((g 88) (l2 + ((g 76) ((31 : Int32) + l1).toNatClampNeg)).toNatClampNeg) + ((g 89) l1.toNatClampNeg))]) (pc' := 64) (L' := [none, none, none, none, none]) (st' := []) (w1 := Wd f fl g gl hh v tx) rfl ⟨Nat.le_of_ble_eq_true rfl, Nat.le_of_ble_eq_true rfl⟩ rfl (b_m_lesser_0 X (d) f fl g gl hh v tx 1000000 (((g 88) (l2 + ((g 76) ((31 : Int32) + l1).toNatClampNeg)).toNatClampNeg) + ((g 89) l1.toNatClampNeg)) _ ?_)
    refine ⟨fun c6 => ?_, fun c6 => ?_⟩
    · have h7 := h5.1 c6
      exact WP.retI hP_197 rfl rfl h7
    · have h8 := h5.2 c6
      exact WP.retI hP_197 rfl rfl h8
  · have h9 := h2.2 c3
    refine WP.run hP_197 3 (c' := (61, [none, none, none, none, none], [.int (((g 88) (l2 + ((g 76) ((31 : Int32) + l1).toNatClampNeg)).toNatClampNeg) + l4), .int 1000000], Wd f fl g gl hh v tx)) rfl ?_
    refine WP.call hP_197 hP_117 (as := [.int 1000000, .int (((g 88) (l2 + ((g 76) ((31 : Int32) + l1).toNatClampNeg)).toNatClampNeg) + l4)]) (pc' := 64) (L' := [none, none, none, none, none]) (st' := []) (w1 := Wd f fl g gl hh v tx) rfl ⟨Nat.le_of_ble_eq_true rfl, Nat.le_of_ble_eq_true rfl⟩ rfl (b_m_lesser_0 X (d) f fl g gl hh v tx 1000000 (((g 88) (l2 + ((g 76) ((31 : Int32) + l1).toNatClampNeg)).toNatClampNeg) + l4) _ ?_)
    refine ⟨fun c10 => ?_, fun c10 => ?_⟩
    · have h11 := h9.1 c10
      exact WP.retI hP_197 rfl rfl h11
    · have h12 := h9.2 c10
      exact WP.retI hP_197 rfl rfl h12

set_option maxRecDepth 20000 in
theorem b_m_laysLeast_0 (X : mm_X) (d : Nat) (f : Nat → Int32) (fl : Nat → Int64) (g : Nat → Nat → Int32) (gl : Nat → Nat → Int64) (hh : Nat → Nat → Option Nat) (v : Nat → Value) (tx : mm_W) (p0 : Int32)  (P : Option Value → mm_W → Prop)
    (h : (¬ (((g 76) 12) < 0 ∨ 13 ≤ ((g 76) 12).toNatClampNeg)) ∧ WP X (d + 1) 196 (17, [some (.ref 74), some (.int p0), some (.int (((g 76) 12) - (1 : Int32))), none], [], Wd f fl (va_up g 88 (upd (g 88) (((g 76) 12).toNatClampNeg) 0)) gl hh v tx) P) :
    WP X (d + 1) 196 (0, [some (.ref 74), some (.int p0), none, none], [], Wd f fl g gl hh v tx) P := by
  refine WP.run hP_196 3 (c' := (5, [some (.ref 74), some (.int p0), none, none], [.ref 74, .ref 88], Wd f fl g gl hh v tx)) rfl ?_
  refine WP.call hP_196 hP_130 (as := [.ref 74]) (pc' := 8) (L' := [some (.ref 74), some (.int p0), none, none]) (st' := [.ref 88]) (w1 := Wd f fl g gl hh v tx) rfl ⟨Nat.le_of_ble_eq_true rfl, Nat.le_of_ble_eq_true rfl⟩ rfl (b_m_size_0 X (d) f fl g gl hh v tx  _ ?_)
  refine WP.run hP_196 1 (c' := (9, [some (.ref 74), some (.int p0), none, none], [.int 0, .int ((g 76) 12), .ref 88], Wd f fl g gl hh v tx)) rfl ?_
  refine WP.of (fun _ _ => Ex.iast hP_196 (w2 := Wd f fl (va_up g 88 (upd (g 88) (((g 76) 12).toNatClampNeg) 0)) gl hh v tx) rfl (Wa_88 _ _ _ _ _ _ _) h.1 (Ws_88 _ _ _ _ _ _ _ _)) ?_
  have h1 := h.2
  refine WP.run hP_196 1 (c' := (11, [some (.ref 74), some (.int p0), none, none], [.ref 74], Wd f fl (va_up g 88 (upd (g 88) (((g 76) 12).toNatClampNeg) 0)) gl hh v tx)) rfl ?_
  refine WP.call hP_196 hP_130 (as := [.ref 74]) (pc' := 14) (L' := [some (.ref 74), some (.int p0), none, none]) (st' := []) (w1 := Wd f fl (va_up g 88 (upd (g 88) (((g 76) 12).toNatClampNeg) 0)) gl hh v tx) rfl ⟨Nat.le_of_ble_eq_true rfl, Nat.le_of_ble_eq_true rfl⟩ rfl (b_m_size_0 X (d) f fl (va_up g 88 (upd (g 88) (((g 76) 12).toNatClampNeg) 0)) gl hh v tx  _ ?_)
  refine WP.run hP_196 3 (c' := (17, [some (.ref 74), some (.int p0), some (.int (((g 76) 12) - (1 : Int32))), none], [], Wd f fl (va_up g 88 (upd (g 88) (((g 76) 12).toNatClampNeg) 0)) gl hh v tx)) rfl ?_
  exact h1

set_option maxRecDepth 20000 in
theorem b_m_laysLeast_17 (X : mm_X) (d : Nat) (f : Nat → Int32) (fl : Nat → Int64) (g : Nat → Nat → Int32) (gl : Nat → Nat → Int64) (hh : Nat → Nat → Option Nat) (v : Nat → Value) (tx : mm_W) (l1 : Int32) (l2 : Int32)  (P : Option Value → mm_W → Prop)
    (h : ((l2 < 0) → P none (Wd f fl g gl hh v tx)) ∧
    ((¬ (l2 < 0)) → ((¬ (l2 < 0 ∨ 13 ≤ l2.toNatClampNeg)) ∧ WP X (d) 196 (31, [some (.ref 74), some (.int l1), some (.int l2), some (.int 0)], [], Wd f fl (va_up g 88 (upd (g 88) (l2.toNatClampNeg) 1000000)) gl hh v tx) P))) :
    WP X (d) 196 (17, [some (.ref 74), some (.int l1), some (.int l2), none], [], Wd f fl g gl hh v tx) P := by
  refine WP.run hP_196 1 (c' := (18, [some (.ref 74), some (.int l1), some (.int l2), none], [.int l2], Wd f fl g gl hh v tx)) rfl ?_
  refine WP.br hP_196 (q := l2 < 0) (t := 73) (f := 21) (L := [some (.ref 74), some (.int l1), some (.int l2), none]) (st := []) (w := Wd f fl g gl hh v tx) rfl (fun c1 => ?_) (fun c1 => ?_)
  · have h2 := h.1 c1
    exact WP.ret hP_196 (r := none) (w' := Wd f fl g gl hh v tx) rfl h2
  · have h3 := h.2 c1
    refine WP.run hP_196 4 (c' := (28, [some (.ref 74), some (.int l1), some (.int l2), none], [.int 1000000, .int l2, .ref 88], Wd f fl g gl hh v tx)) rfl ?_
    refine WP.of (fun _ _ => Ex.iast hP_196 (w2 := Wd f fl (va_up g 88 (upd (g 88) (l2.toNatClampNeg) 1000000)) gl hh v tx) rfl (Wa_88 _ _ _ _ _ _ _) h3.1 (Ws_88 _ _ _ _ _ _ _ _)) ?_
    have h4 := h3.2
    refine WP.run hP_196 2 (c' := (31, [some (.ref 74), some (.int l1), some (.int l2), some (.int 0)], [], Wd f fl (va_up g 88 (upd (g 88) (l2.toNatClampNeg) 1000000)) gl hh v tx)) rfl ?_
    exact h4

set_option maxRecDepth 20000 in
theorem b_m_laysLeast_31 (X : mm_X) (d : Nat) (f : Nat → Int32) (fl : Nat → Int64) (g : Nat → Nat → Int32) (gl : Nat → Nat → Int64) (hh : Nat → Nat → Option Nat) (v : Nat → Value) (tx : mm_W) (l1 : Int32) (l2 : Int32) (l3 : Int32)  (P : Option Value → mm_W → Prop)
    (h : ((((g 76) 55) ≤ l3) → WP X (d + 1) 196 (17, [some (.ref 74), some (.int l1), some (.int (l2 + (-1 : Int32))), none], [], Wd f fl g gl hh v tx) P) ∧
    ((¬ (((g 76) 55) ≤ l3)) → ((¬ (l2 < 0 ∨ 13 ≤ l2.toNatClampNeg)) ∧ WP X (d) 197 (0, [some (.ref 74), some (.int l3), some (.int l2), some (.int l1), none], [], Wd f fl g gl hh v tx) (fun rv w2 => WP X (d + 1) 196 (57, [some (.ref 74), some (.int l1), some (.int l2), some (.int l3)], rv.toList ++ [.int ((g 88) l2.toNatClampNeg), .int l2, .ref 88], w2) P)))) :
    WP X (d + 1) 196 (31, [some (.ref 74), some (.int l1), some (.int l2), some (.int l3)], [], Wd f fl g gl hh v tx) P := by
  refine WP.run hP_196 2 (c' := (33, [some (.ref 74), some (.int l1), some (.int l2), some (.int l3)], [.ref 74, .int l3], Wd f fl g gl hh v tx)) rfl ?_
  refine WP.call hP_196 hP_129 (as := [.ref 74]) (pc' := 36) (L' := [some (.ref 74), some (.int l1), some (.int l2), some (.int l3)]) (st' := [.int l3]) (w1 := Wd f fl g gl hh v tx) rfl ⟨Nat.le_of_ble_eq_true rfl, Nat.le_of_ble_eq_true rfl⟩ rfl (b_m_signMany_0 X (d) f fl g gl hh v tx  _ ?_)
  refine WP.br hP_196 (q := ((g 76) 55) ≤ l3) (t := 67) (f := 39) (L := [some (.ref 74), some (.int l1), some (.int l2), some (.int l3)]) (st := []) (w := Wd f fl g gl hh v tx) rfl (fun c1 => ?_) (fun c1 => ?_)
  · have h2 := h.1 c1
    refine WP.run hP_196 2 (c' := (17, [some (.ref 74), some (.int l1), some (.int (l2 + (-1 : Int32))), none], [], Wd f fl g gl hh v tx)) rfl ?_
    exact h2
  · have h3 := h.2 c1
    refine WP.run hP_196 6 (c' := (49, [some (.ref 74), some (.int l1), some (.int l2), some (.int l3)], [.int l2, .ref 88, .int l2, .ref 88], Wd f fl g gl hh v tx)) rfl ?_
    refine WP.of (fun _ _ => Ex.iald hP_196 rfl (Wa_88 _ _ _ _ _ _ _) h3.1) ?_
    have h4 := h3.2
    refine WP.run hP_196 4 (c' := (54, [some (.ref 74), some (.int l1), some (.int l2), some (.int l3)], [.int l1, .int l2, .int l3, .ref 74, .int ((g 88) l2.toNatClampNeg), .int l2, .ref 88], Wd f fl g gl hh v tx)) rfl ?_
    refine WP.call hP_196 hP_197 (as := [.ref 74, .int l3, .int l2, .int l1]) (pc' := 57) (L' := [some (.ref 74), some (.int l1), some (.int l2), some (.int l3)]) (st' := [.int ((g 88) l2.toNatClampNeg), .int l2, .ref 88]) (w1 := Wd f fl g gl hh v tx) rfl ⟨Nat.le_of_ble_eq_true rfl, Nat.le_of_ble_eq_true rfl⟩ rfl ?_
    exact h4

set_option maxRecDepth 20000 in
theorem b_m_laysLeast_57 (X : mm_X) (d : Nat) (f : Nat → Int32) (fl : Nat → Int64) (g : Nat → Nat → Int32) (gl : Nat → Nat → Int64) (hh : Nat → Nat → Option Nat) (v : Nat → Value) (tx : mm_W) (l1 : Int32) (l2 : Int32) (l3 : Int32) (s0 : Int32) (s1 : Int32) (s2 : Int32)  (P : Option Value → mm_W → Prop)
    (h : ((s0 ≤ s1) → ((¬ (s2 < 0 ∨ 13 ≤ s2.toNatClampNeg)) ∧ WP X (d + 1) 196 (31, [some (.ref 74), some (.int l1), some (.int l2), some (.int (l3 + (1 : Int32)))], [], Wd f fl (va_up g 88 (upd (g 88) (s2.toNatClampNeg) s0)) gl hh v tx) P)) ∧
    ((¬ (s0 ≤ s1)) → ((¬ (s2 < 0 ∨ 13 ≤ s2.toNatClampNeg)) ∧ WP X (d + 1) 196 (31, [some (.ref 74), some (.int l1), some (.int l2), some (.int (l3 + (1 : Int32)))], [], Wd f fl (va_up g 88 (upd (g 88) (s2.toNatClampNeg) s1)) gl hh v tx) P))) :
    WP X (d + 1) 196 (57, [some (.ref 74), some (.int l1), some (.int l2), some (.int l3)], [.int s0, .int s1, .int s2, .ref 88], Wd f fl g gl hh v tx) P := by
  refine WP.call hP_196 hP_117 (as := [.int s1, .int s0]) (pc' := 60) (L' := [some (.ref 74), some (.int l1), some (.int l2), some (.int l3)]) (st' := [.int s2, .ref 88]) (w1 := Wd f fl g gl hh v tx) rfl ⟨Nat.le_of_ble_eq_true rfl, Nat.le_of_ble_eq_true rfl⟩ rfl (b_m_lesser_0 X (d) f fl g gl hh v tx s1 s0 _ ?_)
  refine ⟨fun c1 => ?_, fun c1 => ?_⟩
  · have h2 := h.1 c1
    refine WP.of (fun _ _ => Ex.iast hP_196 (w2 := Wd f fl (va_up g 88 (upd (g 88) (s2.toNatClampNeg) s0)) gl hh v tx) rfl (Wa_88 _ _ _ _ _ _ _) h2.1 (Ws_88 _ _ _ _ _ _ _ _)) ?_
    have h3 := h2.2
    refine WP.run hP_196 2 (c' := (31, [some (.ref 74), some (.int l1), some (.int l2), some (.int (l3 + (1 : Int32)))], [], Wd f fl (va_up g 88 (upd (g 88) (s2.toNatClampNeg) s0)) gl hh v tx)) rfl ?_
    exact h3
  · have h4 := h.2 c1
    refine WP.of (fun _ _ => Ex.iast hP_196 (w2 := Wd f fl (va_up g 88 (upd (g 88) (s2.toNatClampNeg) s1)) gl hh v tx) rfl (Wa_88 _ _ _ _ _ _ _) h4.1 (Ws_88 _ _ _ _ _ _ _ _)) ?_
    have h5 := h4.2
    refine WP.run hP_196 2 (c' := (31, [some (.ref 74), some (.int l1), some (.int l2), some (.int (l3 + (1 : Int32)))], [], Wd f fl (va_up g 88 (upd (g 88) (s2.toNatClampNeg) s1)) gl hh v tx)) rfl ?_
    exact h5

set_option maxRecDepth 20000 in
theorem b_m_signFrom_0 (X : mm_X) (d : Nat) (f : Nat → Int32) (fl : Nat → Int64) (g : Nat → Nat → Int32) (gl : Nat → Nat → Int64) (hh : Nat → Nat → Option Nat) (v : Nat → Value) (tx : mm_W) (p0 : Int32) (p1 : Int32)  (P : Option Value → mm_W → Prop)
    (h : WP X (d) 198 (2, [some (.ref 74), some (.int p0), some (.int p1), some (.int 0)], [], Wd f fl g gl hh v tx) P) :
    WP X (d) 198 (0, [some (.ref 74), some (.int p0), some (.int p1), none], [], Wd f fl g gl hh v tx) P := by
  refine WP.run hP_198 2 (c' := (2, [some (.ref 74), some (.int p0), some (.int p1), some (.int 0)], [], Wd f fl g gl hh v tx)) rfl ?_
  exact h

set_option maxRecDepth 20000 in
theorem b_m_signFrom_2 (X : mm_X) (d : Nat) (f : Nat → Int32) (fl : Nat → Int64) (g : Nat → Nat → Int32) (gl : Nat → Nat → Int64) (hh : Nat → Nat → Option Nat) (v : Nat → Value) (tx : mm_W) (l1 : Int32) (l2 : Int32) (l3 : Int32)  (P : Option Value → mm_W → Prop)
    (h : WP X (d) 197 (0, [some (.ref 74), some (.int l3), some (.int l1), some (.int l2), none], [], Wd f fl g gl hh v tx) (fun rv w2 => WP X (d + 1) 198 (9, [some (.ref 74), some (.int l1), some (.int l2), some (.int l3)], rv.toList ++ [], w2) P)) :
    WP X (d + 1) 198 (2, [some (.ref 74), some (.int l1), some (.int l2), some (.int l3)], [], Wd f fl g gl hh v tx) P := by
  refine WP.run hP_198 4 (c' := (6, [some (.ref 74), some (.int l1), some (.int l2), some (.int l3)], [.int l2, .int l1, .int l3, .ref 74], Wd f fl g gl hh v tx)) rfl ?_
  refine WP.call hP_198 hP_197 (as := [.ref 74, .int l3, .int l1, .int l2]) (pc' := 9) (L' := [some (.ref 74), some (.int l1), some (.int l2), some (.int l3)]) (st' := []) (w1 := Wd f fl g gl hh v tx) rfl ⟨Nat.le_of_ble_eq_true rfl, Nat.le_of_ble_eq_true rfl⟩ rfl ?_
  exact h

set_option maxRecDepth 20000 in
theorem b_m_signFrom_9 (X : mm_X) (d : Nat) (f : Nat → Int32) (fl : Nat → Int64) (g : Nat → Nat → Int32) (gl : Nat → Nat → Int64) (hh : Nat → Nat → Option Nat) (v : Nat → Value) (tx : mm_W) (l1 : Int32) (l2 : Int32) (l3 : Int32) (s0 : Int32)  (P : Option Value → mm_W → Prop)
    (h : (¬ (l1 < 0 ∨ 13 ≤ l1.toNatClampNeg)) ∧ (((s0 = ((g 88) l1.toNatClampNeg)) → P (some (.int l3)) (Wd f fl g gl hh v tx)) ∧
    ((¬ s0 = ((g 88) l1.toNatClampNeg)) → WP X (d) 198 (2, [some (.ref 74), some (.int l1), some (.int l2), some (.int (l3 + (1 : Int32)))], [], Wd f fl g gl hh v tx) P))) :
    WP X (d) 198 (9, [some (.ref 74), some (.int l1), some (.int l2), some (.int l3)], [.int s0], Wd f fl g gl hh v tx) P := by
  refine WP.run hP_198 3 (c' := (14, [some (.ref 74), some (.int l1), some (.int l2), some (.int l3)], [.int l1, .ref 88, .int s0], Wd f fl g gl hh v tx)) rfl ?_
  refine WP.of (fun _ _ => Ex.iald hP_198 rfl (Wa_88 _ _ _ _ _ _ _) h.1) ?_
  have h1 := h.2
  refine WP.br hP_198 (q := s0 = ((g 88) l1.toNatClampNeg)) (t := 24) (f := 18) (L := [some (.ref 74), some (.int l1), some (.int l2), some (.int l3)]) (st := []) (w := Wd f fl g gl hh v tx) rfl (fun c2 => ?_) (fun c2 => ?_)
  · have h3 := h1.1 c2
    refine WP.run hP_198 1 (c' := (25, [none, none, none, some (.int l3)], [.int l3], Wd f fl g gl hh v tx)) rfl ?_
    exact WP.retI hP_198 rfl rfl h3
  · have h4 := h1.2 c2
    refine WP.run hP_198 2 (c' := (2, [some (.ref 74), some (.int l1), some (.int l2), some (.int (l3 + (1 : Int32)))], [], Wd f fl g gl hh v tx)) rfl ?_
    exact h4

set_option maxRecDepth 20000 in
theorem b_m_signAt_0 (X : mm_X) (d : Nat) (f : Nat → Int32) (fl : Nat → Int64) (g : Nat → Nat → Int32) (gl : Nat → Nat → Int64) (hh : Nat → Nat → Option Nat) (v : Nat → Value) (tx : mm_W) (p0 : Int32) (p1 : Int32)  (P : Option Value → mm_W → Prop)
    (h : WP X (d) 199 (5, [some (.ref 74), some (.int p0), some (.int p1), some (.int 0), some (.int 0)], [], Wd f fl g gl hh v tx) P) :
    WP X (d) 199 (0, [some (.ref 74), some (.int p0), some (.int p1), none, none], [], Wd f fl g gl hh v tx) P := by
  refine WP.run hP_199 3 (c' := (3, [some (.ref 74), some (.int p0), some (.int p1), some (.int 0), none], [.int 0], Wd f fl g gl hh v tx)) rfl ?_
  refine WP.run hP_199 1 (c' := (5, [some (.ref 74), some (.int p0), some (.int p1), some (.int 0), some (.int 0)], [], Wd f fl g gl hh v tx)) rfl ?_
  exact h

set_option maxRecDepth 20000 in
theorem b_m_signAt_5 (X : mm_X) (d : Nat) (f : Nat → Int32) (fl : Nat → Int64) (g : Nat → Nat → Int32) (gl : Nat → Nat → Int64) (hh : Nat → Nat → Option Nat) (v : Nat → Value) (tx : mm_W) (l1 : Int32) (l2 : Int32) (l3 : Int32) (l4 : Int32)  (P : Option Value → mm_W → Prop)
    (h : ((l1 ≤ l4) → (((((g 76) 12) ≤ l3) → P (some (.int (-1))) (Wd f fl g gl hh v tx)) ∧
      ((¬ (((g 76) 12) ≤ l3)) → WP X (d) 198 (0, [some (.ref 74), some (.int l3), some (.int l2), none], [], Wd f fl g gl hh v tx) (fun rv w2 => WP X (d + 1) 199 (56, [some (.ref 74), none, some (.int l2), some (.int l3), none], rv.toList ++ [], w2) P)))) ∧
    ((¬ (l1 ≤ l4)) → (((((g 76) 12) ≤ l3) → (((((g 76) 12) ≤ l3) → P (some (.int (-1))) (Wd f fl g gl hh v tx)) ∧
        ((¬ (((g 76) 12) ≤ l3)) → WP X (d) 198 (0, [some (.ref 74), some (.int l3), some (.int l2), none], [], Wd f fl g gl hh v tx) (fun rv w2 => WP X (d + 1) 199 (56, [some (.ref 74), none, some (.int l2), some (.int l3), none], rv.toList ++ [], w2) P)))) ∧
      ((¬ (((g 76) 12) ≤ l3)) → WP X (d) 198 (0, [some (.ref 74), some (.int l3), some (.int l2), none], [], Wd f fl g gl hh v tx) (fun rv w2 => WP X (d + 1) 199 (32, [some (.ref 74), some (.int l1), some (.int l2), some (.int l3), some (.int l4)], rv.toList ++ [.int 31, .ref 76, .int l3], w2) P))))) :
    WP X (d + 1) 199 (5, [some (.ref 74), some (.int l1), some (.int l2), some (.int l3), some (.int l4)], [], Wd f fl g gl hh v tx) P := by
  refine WP.run hP_199 2 (c' := (8, [some (.ref 74), some (.int l1), some (.int l2), some (.int l3), some (.int l4)], [.int l1, .int l4], Wd f fl g gl hh v tx)) rfl ?_
  refine WP.br hP_199 (q := l1 ≤ l4) (t := 42) (f := 11) (L := [some (.ref 74), some (.int l1), some (.int l2), some (.int l3), some (.int l4)]) (st := []) (w := Wd f fl g gl hh v tx) rfl (fun c1 => ?_) (fun c1 => ?_)
  · have h2 := h.1 c1
    refine WP.run hP_199 2 (c' := (44, [some (.ref 74), none, some (.int l2), some (.int l3), none], [.ref 74, .int l3], Wd f fl g gl hh v tx)) rfl ?_
    refine WP.call hP_199 hP_130 (as := [.ref 74]) (pc' := 47) (L' := [some (.ref 74), none, some (.int l2), some (.int l3), none]) (st' := [.int l3]) (w1 := Wd f fl g gl hh v tx) rfl ⟨Nat.le_of_ble_eq_true rfl, Nat.le_of_ble_eq_true rfl⟩ rfl (b_m_size_0 X (d) f fl g gl hh v tx  _ ?_)
    refine WP.br hP_199 (q := ((g 76) 12) ≤ l3) (t := 59) (f := 50) (L := [some (.ref 74), none, some (.int l2), some (.int l3), none]) (st := []) (w := Wd f fl g gl hh v tx) rfl (fun c3 => ?_) (fun c3 => ?_)
    · have h4 := h2.1 c3
      refine WP.run hP_199 1 (c' := (60, [none, none, none, none, none], [.int (-1)], Wd f fl g gl hh v tx)) rfl ?_
      exact WP.retI hP_199 rfl rfl h4
    · have h5 := h2.2 c3
      refine WP.run hP_199 3 (c' := (53, [some (.ref 74), none, some (.int l2), some (.int l3), none], [.int l2, .int l3, .ref 74], Wd f fl g gl hh v tx)) rfl ?_
      refine WP.call hP_199 hP_198 (as := [.ref 74, .int l3, .int l2]) (pc' := 56) (L' := [some (.ref 74), none, some (.int l2), some (.int l3), none]) (st' := []) (w1 := Wd f fl g gl hh v tx) rfl ⟨Nat.le_of_ble_eq_true rfl, Nat.le_of_ble_eq_true rfl⟩ rfl ?_
      exact h5
  · have h6 := h.2 c1
    refine WP.run hP_199 2 (c' := (13, [some (.ref 74), some (.int l1), some (.int l2), some (.int l3), some (.int l4)], [.ref 74, .int l3], Wd f fl g gl hh v tx)) rfl ?_
    refine WP.call hP_199 hP_130 (as := [.ref 74]) (pc' := 16) (L' := [some (.ref 74), some (.int l1), some (.int l2), some (.int l3), some (.int l4)]) (st' := [.int l3]) (w1 := Wd f fl g gl hh v tx) rfl ⟨Nat.le_of_ble_eq_true rfl, Nat.le_of_ble_eq_true rfl⟩ rfl (b_m_size_0 X (d) f fl g gl hh v tx  _ ?_)
    refine WP.br hP_199 (q := ((g 76) 12) ≤ l3) (t := 42) (f := 19) (L := [some (.ref 74), some (.int l1), some (.int l2), some (.int l3), some (.int l4)]) (st := []) (w := Wd f fl g gl hh v tx) rfl (fun c7 => ?_) (fun c7 => ?_)
    · have h8 := h6.1 c7
      refine WP.run hP_199 2 (c' := (44, [some (.ref 74), none, some (.int l2), some (.int l3), none], [.ref 74, .int l3], Wd f fl g gl hh v tx)) rfl ?_
      refine WP.call hP_199 hP_130 (as := [.ref 74]) (pc' := 47) (L' := [some (.ref 74), none, some (.int l2), some (.int l3), none]) (st' := [.int l3]) (w1 := Wd f fl g gl hh v tx) rfl ⟨Nat.le_of_ble_eq_true rfl, Nat.le_of_ble_eq_true rfl⟩ rfl (b_m_size_0 X (d) f fl g gl hh v tx  _ ?_)
      refine WP.br hP_199 (q := ((g 76) 12) ≤ l3) (t := 59) (f := 50) (L := [some (.ref 74), none, some (.int l2), some (.int l3), none]) (st := []) (w := Wd f fl g gl hh v tx) rfl (fun c9 => ?_) (fun c9 => ?_)
      · have h10 := h8.1 c9
        refine WP.run hP_199 1 (c' := (60, [none, none, none, none, none], [.int (-1)], Wd f fl g gl hh v tx)) rfl ?_
        exact WP.retI hP_199 rfl rfl h10
      · have h11 := h8.2 c9
        refine WP.run hP_199 3 (c' := (53, [some (.ref 74), none, some (.int l2), some (.int l3), none], [.int l2, .int l3, .ref 74], Wd f fl g gl hh v tx)) rfl ?_
        refine WP.call hP_199 hP_198 (as := [.ref 74, .int l3, .int l2]) (pc' := 56) (L' := [some (.ref 74), none, some (.int l2), some (.int l3), none]) (st' := []) (w1 := Wd f fl g gl hh v tx) rfl ⟨Nat.le_of_ble_eq_true rfl, Nat.le_of_ble_eq_true rfl⟩ rfl ?_
        exact h11
    · have h12 := h6.2 c7
      refine WP.run hP_199 7 (c' := (29, [some (.ref 74), some (.int l1), some (.int l2), some (.int l3), some (.int l4)], [.int l2, .int l3, .ref 74, .int 31, .ref 76, .int l3], Wd f fl g gl hh v tx)) rfl ?_
      refine WP.call hP_199 hP_198 (as := [.ref 74, .int l3, .int l2]) (pc' := 32) (L' := [some (.ref 74), some (.int l1), some (.int l2), some (.int l3), some (.int l4)]) (st' := [.int 31, .ref 76, .int l3]) (w1 := Wd f fl g gl hh v tx) rfl ⟨Nat.le_of_ble_eq_true rfl, Nat.le_of_ble_eq_true rfl⟩ rfl ?_
      exact h12

set_option maxRecDepth 20000 in
theorem b_m_signAt_56 (X : mm_X) (d : Nat) (f : Nat → Int32) (fl : Nat → Int64) (g : Nat → Nat → Int32) (gl : Nat → Nat → Int64) (hh : Nat → Nat → Option Nat) (v : Nat → Value) (tx : mm_W) (l2 : Int32) (l3 : Int32) (s0 : Int32)  (P : Option Value → mm_W → Prop)
    (h : P (some (.int s0)) (Wd f fl g gl hh v tx)) :
    WP X (d) 199 (56, [some (.ref 74), none, some (.int l2), some (.int l3), none], [.int s0], Wd f fl g gl hh v tx) P := by
  refine WP.run hP_199 1 (c' := (60, [some (.ref 74), none, some (.int l2), some (.int l3), none], [.int s0], Wd f fl g gl hh v tx)) rfl ?_
  exact WP.retI hP_199 rfl rfl h

set_option maxRecDepth 20000 in
theorem b_m_signAt_32 (X : mm_X) (d : Nat) (f : Nat → Int32) (fl : Nat → Int64) (g : Nat → Nat → Int32) (gl : Nat → Nat → Int64) (hh : Nat → Nat → Option Nat) (v : Nat → Value) (tx : mm_W) (l1 : Int32) (l2 : Int32) (l3 : Int32) (l4 : Int32) (s0 : Int32) (s1 : Int32) (s3 : Int32)  (P : Option Value → mm_W → Prop)
    (h : (¬ ((s1 + s0) < 0 ∨ 5667 ≤ (s1 + s0).toNatClampNeg)) ∧ WP X (d) 199 (5, [some (.ref 74), some (.int l1), some (.int l2), some (.int (s3 + ((g 76) (s1 + s0).toNatClampNeg))), some (.int (l4 + (1 : Int32)))], [], Wd f fl g gl hh v tx) P) :
    WP X (d) 199 (32, [some (.ref 74), some (.int l1), some (.int l2), some (.int l3), some (.int l4)], [.int s0, .int s1, .ref 76, .int s3], Wd f fl g gl hh v tx) P := by
  refine WP.run hP_199 1 (c' := (33, [some (.ref 74), some (.int l1), some (.int l2), some (.int l3), some (.int l4)], [.int (s1 + s0), .ref 76, .int s3], Wd f fl g gl hh v tx)) rfl ?_
  refine WP.of (fun _ _ => Ex.iald hP_199 rfl (Wa_76 _ _ _ _ _ _ _) h.1) ?_
  have h1 := h.2
  refine WP.run hP_199 2 (c' := (36, [some (.ref 74), some (.int l1), some (.int l2), some (.int (s3 + ((g 76) (s1 + s0).toNatClampNeg))), some (.int l4)], [], Wd f fl g gl hh v tx)) rfl ?_
  refine WP.run hP_199 2 (c' := (5, [some (.ref 74), some (.int l1), some (.int l2), some (.int (s3 + ((g 76) (s1 + s0).toNatClampNeg))), some (.int (l4 + (1 : Int32)))], [], Wd f fl g gl hh v tx)) rfl ?_
  exact h1

set_option maxRecDepth 20000 in
theorem b_m_howMany_0 (X : mm_X) (d : Nat) (f : Nat → Int32) (fl : Nat → Int64) (g : Nat → Nat → Int32) (gl : Nat → Nat → Int64) (hh : Nat → Nat → Option Nat) (v : Nat → Value) (tx : mm_W) (p0 : Int32)  (P : Option Value → mm_W → Prop)
    (h : WP X (d) 200 (4, [some (.ref 74), some (.int p0), some (.int 0), some (.int 0)], [], Wd f fl g gl hh v tx) P) :
    WP X (d) 200 (0, [some (.ref 74), some (.int p0), none, none], [], Wd f fl g gl hh v tx) P := by
  refine WP.run hP_200 3 (c' := (3, [some (.ref 74), some (.int p0), some (.int 0), none], [.int 0], Wd f fl g gl hh v tx)) rfl ?_
  refine WP.run hP_200 1 (c' := (4, [some (.ref 74), some (.int p0), some (.int 0), some (.int 0)], [], Wd f fl g gl hh v tx)) rfl ?_
  exact h

set_option maxRecDepth 20000 in
theorem b_m_howMany_4 (X : mm_X) (d : Nat) (f : Nat → Int32) (fl : Nat → Int64) (g : Nat → Nat → Int32) (gl : Nat → Nat → Int64) (hh : Nat → Nat → Option Nat) (v : Nat → Value) (tx : mm_W) (l1 : Int32) (l2 : Int32) (l3 : Int32)  (P : Option Value → mm_W → Prop)
    (h : ((((g 76) 12) ≤ l3) → P (some (.int l2)) (Wd f fl g gl hh v tx)) ∧
    ((¬ (((g 76) 12) ≤ l3)) → WP X (d) 198 (0, [some (.ref 74), some (.int l3), some (.int l1), none], [], Wd f fl g gl hh v tx) (fun rv w2 => WP X (d + 1) 200 (28, [some (.ref 74), some (.int l1), some (.int (l2 + (1 : Int32))), some (.int l3)], rv.toList ++ [.int 31, .ref 76, .int l3], w2) P))) :
    WP X (d + 1) 200 (4, [some (.ref 74), some (.int l1), some (.int l2), some (.int l3)], [], Wd f fl g gl hh v tx) P := by
  refine WP.run hP_200 2 (c' := (6, [some (.ref 74), some (.int l1), some (.int l2), some (.int l3)], [.ref 74, .int l3], Wd f fl g gl hh v tx)) rfl ?_
  refine WP.call hP_200 hP_130 (as := [.ref 74]) (pc' := 9) (L' := [some (.ref 74), some (.int l1), some (.int l2), some (.int l3)]) (st' := [.int l3]) (w1 := Wd f fl g gl hh v tx) rfl ⟨Nat.le_of_ble_eq_true rfl, Nat.le_of_ble_eq_true rfl⟩ rfl (b_m_size_0 X (d) f fl g gl hh v tx  _ ?_)
  refine WP.br hP_200 (q := ((g 76) 12) ≤ l3) (t := 35) (f := 12) (L := [some (.ref 74), some (.int l1), some (.int l2), some (.int l3)]) (st := []) (w := Wd f fl g gl hh v tx) rfl (fun c1 => ?_) (fun c1 => ?_)
  · have h2 := h.1 c1
    refine WP.run hP_200 1 (c' := (36, [none, none, some (.int l2), none], [.int l2], Wd f fl g gl hh v tx)) rfl ?_
    exact WP.retI hP_200 rfl rfl h2
  · have h3 := h.2 c1
    refine WP.run hP_200 8 (c' := (25, [some (.ref 74), some (.int l1), some (.int (l2 + (1 : Int32))), some (.int l3)], [.int l1, .int l3, .ref 74, .int 31, .ref 76, .int l3], Wd f fl g gl hh v tx)) rfl ?_
    refine WP.call hP_200 hP_198 (as := [.ref 74, .int l3, .int l1]) (pc' := 28) (L' := [some (.ref 74), some (.int l1), some (.int (l2 + (1 : Int32))), some (.int l3)]) (st' := [.int 31, .ref 76, .int l3]) (w1 := Wd f fl g gl hh v tx) rfl ⟨Nat.le_of_ble_eq_true rfl, Nat.le_of_ble_eq_true rfl⟩ rfl ?_
    exact h3

set_option maxRecDepth 20000 in
theorem b_m_howMany_28 (X : mm_X) (d : Nat) (f : Nat → Int32) (fl : Nat → Int64) (g : Nat → Nat → Int32) (gl : Nat → Nat → Int64) (hh : Nat → Nat → Option Nat) (v : Nat → Value) (tx : mm_W) (l1 : Int32) (l2 : Int32) (l3 : Int32) (s0 : Int32) (s1 : Int32) (s3 : Int32)  (P : Option Value → mm_W → Prop)
    (h : (¬ ((s1 + s0) < 0 ∨ 5667 ≤ (s1 + s0).toNatClampNeg)) ∧ WP X (d) 200 (4, [some (.ref 74), some (.int l1), some (.int l2), some (.int (s3 + ((g 76) (s1 + s0).toNatClampNeg)))], [], Wd f fl g gl hh v tx) P) :
    WP X (d) 200 (28, [some (.ref 74), some (.int l1), some (.int l2), some (.int l3)], [.int s0, .int s1, .ref 76, .int s3], Wd f fl g gl hh v tx) P := by
  refine WP.run hP_200 1 (c' := (29, [some (.ref 74), some (.int l1), some (.int l2), some (.int l3)], [.int (s1 + s0), .ref 76, .int s3], Wd f fl g gl hh v tx)) rfl ?_
  refine WP.of (fun _ _ => Ex.iald hP_200 rfl (Wa_76 _ _ _ _ _ _ _) h.1) ?_
  have h1 := h.2
  refine WP.run hP_200 3 (c' := (4, [some (.ref 74), some (.int l1), some (.int l2), some (.int (s3 + ((g 76) (s1 + s0).toNatClampNeg)))], [], Wd f fl g gl hh v tx)) rfl ?_
  exact h1

set_option maxRecDepth 20000 in
theorem b_m_laysRead_0 (X : mm_X) (d : Nat) (f : Nat → Int32) (fl : Nat → Int64) (g : Nat → Nat → Int32) (gl : Nat → Nat → Int64) (hh : Nat → Nat → Option Nat) (v : Nat → Value) (tx : mm_W) (p0 : Int32)  (P : Option Value → mm_W → Prop)
    (h : WP X (d) 201 (2, [some (.ref 74), some (.int p0), some (.int 0)], [], Wd f fl g gl hh v tx) P) :
    WP X (d) 201 (0, [some (.ref 74), some (.int p0), none], [], Wd f fl g gl hh v tx) P := by
  refine WP.run hP_201 2 (c' := (2, [some (.ref 74), some (.int p0), some (.int 0)], [], Wd f fl g gl hh v tx)) rfl ?_
  exact h

set_option maxRecDepth 20000 in
theorem b_m_laysRead_2 (X : mm_X) (d : Nat) (f : Nat → Int32) (fl : Nat → Int64) (g : Nat → Nat → Int32) (gl : Nat → Nat → Int64) (hh : Nat → Nat → Option Nat) (v : Nat → Value) (tx : mm_W) (l1 : Int32) (l2 : Int32)  (P : Option Value → mm_W → Prop)
    (h : ((((g 76) 55) ≤ l2) → WP X (d) 196 (0, [some (.ref 74), some (.int 0), none, none], [], Wd f fl g gl hh v tx) (fun rv w2 => WP X (d + 1) 201 (33, [some (.ref 74), none, none], rv.toList ++ [], w2) P)) ∧
    ((¬ (((g 76) 55) ≤ l2)) → WP X (d) 191 (0, [some (.ref 74), some (.int l1), some (.int l2)], [], Wd f fl g gl hh v tx) (fun rv w2 => WP X (d + 1) 201 (21, [some (.ref 74), some (.int l1), some (.int l2)], rv.toList ++ [.int l2, .ref 89], w2) P))) :
    WP X (d + 1) 201 (2, [some (.ref 74), some (.int l1), some (.int l2)], [], Wd f fl g gl hh v tx) P := by
  refine WP.run hP_201 2 (c' := (4, [some (.ref 74), some (.int l1), some (.int l2)], [.ref 74, .int l2], Wd f fl g gl hh v tx)) rfl ?_
  refine WP.call hP_201 hP_129 (as := [.ref 74]) (pc' := 7) (L' := [some (.ref 74), some (.int l1), some (.int l2)]) (st' := [.int l2]) (w1 := Wd f fl g gl hh v tx) rfl ⟨Nat.le_of_ble_eq_true rfl, Nat.le_of_ble_eq_true rfl⟩ rfl (b_m_signMany_0 X (d) f fl g gl hh v tx  _ ?_)
  refine WP.br hP_201 (q := ((g 76) 55) ≤ l2) (t := 28) (f := 10) (L := [some (.ref 74), some (.int l1), some (.int l2)]) (st := []) (w := Wd f fl g gl hh v tx) rfl (fun c1 => ?_) (fun c1 => ?_)
  · have h2 := h.1 c1
    refine WP.run hP_201 2 (c' := (30, [some (.ref 74), none, none], [.int 0, .ref 74], Wd f fl g gl hh v tx)) rfl ?_
    refine WP.call hP_201 hP_196 (as := [.ref 74, .int 0]) (pc' := 33) (L' := [some (.ref 74), none, none]) (st' := []) (w1 := Wd f fl g gl hh v tx) rfl ⟨Nat.le_of_ble_eq_true rfl, Nat.le_of_ble_eq_true rfl⟩ rfl ?_
    exact h2
  · have h3 := h.2 c1
    refine WP.run hP_201 6 (c' := (18, [some (.ref 74), some (.int l1), some (.int l2)], [.int l2, .int l1, .ref 74, .int l2, .ref 89], Wd f fl g gl hh v tx)) rfl ?_
    refine WP.call hP_201 hP_191 (as := [.ref 74, .int l1, .int l2]) (pc' := 21) (L' := [some (.ref 74), some (.int l1), some (.int l2)]) (st' := [.int l2, .ref 89]) (w1 := Wd f fl g gl hh v tx) rfl ⟨Nat.le_of_ble_eq_true rfl, Nat.le_of_ble_eq_true rfl⟩ rfl ?_
    exact h3

set_option maxRecDepth 20000 in
theorem b_m_laysRead_33 (X : mm_X) (d : Nat) (f : Nat → Int32) (fl : Nat → Int64) (g : Nat → Nat → Int32) (gl : Nat → Nat → Int64) (hh : Nat → Nat → Option Nat) (v : Nat → Value) (tx : mm_W)   (P : Option Value → mm_W → Prop)
    (h : ((1000000 ≤ ((g 88) 0)) → P (some (.int 0)) (Wd f fl g gl hh v tx)) ∧
    ((¬ (1000000 ≤ ((g 88) 0))) → P (some (.int 1)) (Wd f fl g gl hh v tx))) :
    WP X (d) 201 (33, [some (.ref 74), none, none], [], Wd f fl g gl hh v tx) P := by
  refine WP.run hP_201 3 (c' := (38, [some (.ref 74), none, none], [.int 0, .ref 88], Wd f fl g gl hh v tx)) rfl ?_
  refine WP.of (fun _ _ => Ex.iald hP_201 rfl (Wa_88 _ _ _ _ _ _ _) (by decide)) ?_
  show WP X _ 201 (39, [some (.ref 74), none, none], [.int ((g 88) 0)], Wd f fl g gl hh v tx) P
  refine WP.run hP_201 1 (c' := (41, [some (.ref 74), none, none], [.int 1000000, .int ((g 88) 0)], Wd f fl g gl hh v tx)) rfl ?_
  refine WP.br hP_201 (q := 1000000 ≤ ((g 88) 0)) (t := 48) (f := 44) (L := [some (.ref 74), none, none]) (st := []) (w := Wd f fl g gl hh v tx) rfl (fun c1 => ?_) (fun c1 => ?_)
  · have h2 := h.1 c1
    refine WP.run hP_201 1 (c' := (49, [none, none, none], [.int 0], Wd f fl g gl hh v tx)) rfl ?_
    exact WP.ret hP_201 (r := some (.int 0)) (w' := Wd f fl g gl hh v tx) rfl h2
  · have h3 := h.2 c1
    refine WP.run hP_201 2 (c' := (49, [some (.ref 74), none, none], [.int 1], Wd f fl g gl hh v tx)) rfl ?_
    exact WP.ret hP_201 (r := some (.int 1)) (w' := Wd f fl g gl hh v tx) rfl h3

set_option maxRecDepth 20000 in
theorem b_m_laysRead_21 (X : mm_X) (d : Nat) (f : Nat → Int32) (fl : Nat → Int64) (g : Nat → Nat → Int32) (gl : Nat → Nat → Int64) (hh : Nat → Nat → Option Nat) (v : Nat → Value) (tx : mm_W) (l1 : Int32) (l2 : Int32) (s0 : Int32) (s1 : Int32)  (P : Option Value → mm_W → Prop)
    (h : (¬ (s1 < 0 ∨ 8 ≤ s1.toNatClampNeg)) ∧ WP X (d) 201 (2, [some (.ref 74), some (.int l1), some (.int (l2 + (1 : Int32)))], [], Wd f fl (va_up g 89 (upd (g 89) (s1.toNatClampNeg) s0)) gl hh v tx) P) :
    WP X (d) 201 (21, [some (.ref 74), some (.int l1), some (.int l2)], [.int s0, .int s1, .ref 89], Wd f fl g gl hh v tx) P := by
  refine WP.of (fun _ _ => Ex.iast hP_201 (w2 := Wd f fl (va_up g 89 (upd (g 89) (s1.toNatClampNeg) s0)) gl hh v tx) rfl (Wa_89 _ _ _ _ _ _ _) h.1 (Ws_89 _ _ _ _ _ _ _ _)) ?_
  have h1 := h.2
  refine WP.run hP_201 2 (c' := (2, [some (.ref 74), some (.int l1), some (.int (l2 + (1 : Int32)))], [], Wd f fl (va_up g 89 (upd (g 89) (s1.toNatClampNeg) s0)) gl hh v tx)) rfl ?_
  exact h1

set_option maxRecDepth 20000 in
theorem b_m_reads_0 (X : mm_X) (d : Nat) (f : Nat → Int32) (fl : Nat → Int64) (g : Nat → Nat → Int32) (gl : Nat → Nat → Int64) (hh : Nat → Nat → Option Nat) (v : Nat → Value) (tx : mm_W) (p0 : Int32) (p1 : Int32)  (P : Option Value → mm_W → Prop)
    (h : (((0 : Int32) ≤ p0 ∧ p0 ≤ (((g 76) 56) - (1 : Int32))) → (((p1 < (-1)) → P (some (.int (-1))) (Wd f fl g gl hh v tx)) ∧
      ((¬ (p1 < (-1))) → WP X (d + 1) 201 (0, [some (.ref 74), some (.int p0), none], [], Wd f fl g gl hh v tx) (fun rv w2 => WP X (d + 2) 202 (18, [some (.ref 74), some (.int p0), some (.int p1)], rv.toList ++ [], w2) P)))) ∧
    ((¬ ((0 : Int32) ≤ p0 ∧ p0 ≤ (((g 76) 56) - (1 : Int32)))) → P (some (.int (-1))) (Wd f fl g gl hh v tx))) :
    WP X (d + 2) 202 (0, [some (.ref 74), some (.int p0), some (.int p1)], [], Wd f fl g gl hh v tx) P := by
  refine WP.run hP_202 2 (c' := (2, [some (.ref 74), some (.int p0), some (.int p1)], [.int p0, .ref 74], Wd f fl g gl hh v tx)) rfl ?_
  refine WP.call hP_202 hP_132 (as := [.ref 74, .int p0]) (pc' := 5) (L' := [some (.ref 74), some (.int p0), some (.int p1)]) (st' := []) (w1 := Wd f fl g gl hh v tx) rfl ⟨Nat.le_of_ble_eq_true rfl, Nat.le_of_ble_eq_true rfl⟩ rfl (b_m_isShip_0 X (d) f fl g gl hh v tx p0 _ ?_)
  refine ⟨fun c1 => ?_, fun c1 => ?_⟩
  · have h2 := h.1 c1
    refine WP.run hP_202 3 (c' := (10, [some (.ref 74), some (.int p0), some (.int p1)], [.int (-1), .int p1], Wd f fl g gl hh v tx)) rfl ?_
    refine WP.br hP_202 (q := p1 < (-1)) (t := 21) (f := 13) (L := [some (.ref 74), some (.int p0), some (.int p1)]) (st := []) (w := Wd f fl g gl hh v tx) rfl (fun c3 => ?_) (fun c3 => ?_)
    · have h4 := h2.1 c3
      refine WP.run hP_202 1 (c' := (22, [none, none, none], [.int (-1)], Wd f fl g gl hh v tx)) rfl ?_
      exact WP.retI hP_202 rfl rfl h4
    · have h5 := h2.2 c3
      refine WP.run hP_202 2 (c' := (15, [some (.ref 74), some (.int p0), some (.int p1)], [.int p0, .ref 74], Wd f fl g gl hh v tx)) rfl ?_
      refine WP.call hP_202 hP_201 (as := [.ref 74, .int p0]) (pc' := 18) (L' := [some (.ref 74), some (.int p0), some (.int p1)]) (st' := []) (w1 := Wd f fl g gl hh v tx) rfl ⟨Nat.le_of_ble_eq_true rfl, Nat.le_of_ble_eq_true rfl⟩ rfl ?_
      exact h5
  · have h6 := h.2 c1
    refine WP.run hP_202 2 (c' := (22, [none, none, none], [.int (-1)], Wd f fl g gl hh v tx)) rfl ?_
    exact WP.retI hP_202 rfl rfl h6

set_option maxRecDepth 20000 in
theorem b_m_reads_18 (X : mm_X) (d : Nat) (f : Nat → Int32) (fl : Nat → Int64) (g : Nat → Nat → Int32) (gl : Nat → Nat → Int64) (hh : Nat → Nat → Option Nat) (v : Nat → Value) (tx : mm_W) (l1 : Int32) (l2 : Int32) (s0 : Int32)  (P : Option Value → mm_W → Prop)
    (h : ((¬ s0 = 0) → (((¬ l2 = (-1)) → WP X (d) 199 (0, [some (.ref 74), some (.int l2), some (.int 0), none, none], [], Wd f fl g gl hh v tx) (fun rv w2 => WP X (d + 1) 202 (42, [none, none, none], rv.toList ++ [], w2) P)) ∧
      ((l2 = (-1)) → WP X (d) 200 (0, [some (.ref 74), some (.int 0), none, none], [], Wd f fl g gl hh v tx) (fun rv w2 => WP X (d + 1) 202 (33, [some (.ref 74), none, some (.int l2)], rv.toList ++ [], w2) P)))) ∧
    ((s0 = 0) → P (some (.int (-1))) (Wd f fl g gl hh v tx))) :
    WP X (d + 1) 202 (18, [some (.ref 74), some (.int l1), some (.int l2)], [.int s0], Wd f fl g gl hh v tx) P := by
  refine WP.br hP_202 (q := ¬ s0 = 0) (t := 23) (f := 21) (L := [some (.ref 74), some (.int l1), some (.int l2)]) (st := []) (w := Wd f fl g gl hh v tx) rfl (fun c1 => ?_) (fun c1 => ?_)
  · have h2 := h.1 c1
    refine WP.run hP_202 2 (c' := (25, [some (.ref 74), none, some (.int l2)], [.int (-1), .int l2], Wd f fl g gl hh v tx)) rfl ?_
    refine WP.br hP_202 (q := ¬ l2 = (-1)) (t := 36) (f := 28) (L := [some (.ref 74), none, some (.int l2)]) (st := []) (w := Wd f fl g gl hh v tx) rfl (fun c3 => ?_) (fun c3 => ?_)
    · have h4 := h2.1 c3
      refine WP.run hP_202 3 (c' := (39, [some (.ref 74), none, some (.int l2)], [.int 0, .int l2, .ref 74], Wd f fl g gl hh v tx)) rfl ?_
      refine WP.call hP_202 hP_199 (as := [.ref 74, .int l2, .int 0]) (pc' := 42) (L' := [some (.ref 74), none, some (.int l2)]) (st' := []) (w1 := Wd f fl g gl hh v tx) rfl ⟨Nat.le_of_ble_eq_true rfl, Nat.le_of_ble_eq_true rfl⟩ rfl ?_
      refine WP.mono h4 (fun _ _ hq => ?_)
      exact WP.clr hP_202 (pc := 42) rfl hq
    · have h5 := h2.2 (Classical.not_not.mp c3)
      refine WP.run hP_202 2 (c' := (30, [some (.ref 74), none, some (.int l2)], [.int 0, .ref 74], Wd f fl g gl hh v tx)) rfl ?_
      refine WP.call hP_202 hP_200 (as := [.ref 74, .int 0]) (pc' := 33) (L' := [some (.ref 74), none, some (.int l2)]) (st' := []) (w1 := Wd f fl g gl hh v tx) rfl ⟨Nat.le_of_ble_eq_true rfl, Nat.le_of_ble_eq_true rfl⟩ rfl ?_
      exact h5
  · have h6 := h.2 (Classical.not_not.mp c1)
    refine WP.run hP_202 1 (c' := (22, [none, none, none], [.int (-1)], Wd f fl g gl hh v tx)) rfl ?_
    exact WP.retI hP_202 rfl rfl h6

set_option maxRecDepth 20000 in
theorem b_m_reads_42 (X : mm_X) (d : Nat) (f : Nat → Int32) (fl : Nat → Int64) (g : Nat → Nat → Int32) (gl : Nat → Nat → Int64) (hh : Nat → Nat → Option Nat) (v : Nat → Value) (tx : mm_W) (s0 : Int32)  (P : Option Value → mm_W → Prop)
    (h : P (some (.int s0)) (Wd f fl g gl hh v tx)) :
    WP X (d) 202 (42, [none, none, none], [.int s0], Wd f fl g gl hh v tx) P := by
  exact WP.retI hP_202 rfl rfl h

set_option maxRecDepth 20000 in
theorem b_m_reads_33 (X : mm_X) (d : Nat) (f : Nat → Int32) (fl : Nat → Int64) (g : Nat → Nat → Int32) (gl : Nat → Nat → Int64) (hh : Nat → Nat → Option Nat) (v : Nat → Value) (tx : mm_W) (l2 : Int32) (s0 : Int32)  (P : Option Value → mm_W → Prop)
    (h : P (some (.int s0)) (Wd f fl g gl hh v tx)) :
    WP X (d) 202 (33, [some (.ref 74), none, some (.int l2)], [.int s0], Wd f fl g gl hh v tx) P := by
  refine WP.run hP_202 1 (c' := (42, [some (.ref 74), none, some (.int l2)], [.int s0], Wd f fl g gl hh v tx)) rfl ?_
  exact WP.retI hP_202 rfl rfl h

set_option maxRecDepth 20000 in
theorem b_m_compare_0 (X : mm_X) (d : Nat) (f : Nat → Int32) (fl : Nat → Int64) (g : Nat → Nat → Int32) (gl : Nat → Nat → Int64) (hh : Nat → Nat → Option Nat) (v : Nat → Value) (tx : mm_W) (p0 : Int32) (p1 : Int32)  (P : Option Value → mm_W → Prop)
    (h : (((-1 : Int32) ≤ p0 ∧ p0 ≤ (((g 76) 58) - (1 : Int32))) → ((((0 : Int32) ≤ p1 ∧ p1 ≤ (((g 76) 56) - (1 : Int32))) → WP X (d + 1) 201 (0, [some (.ref 74), some (.int p1), none], [], Wd f fl (va_up g 76 (upd (g 76) 59 p0)) gl hh v tx) (fun rv w2 => WP X (d + 2) 203 (39, [some (.ref 74), some (.int p0), some (.int p1), some (.int ((g 76) 59)), none], rv.toList ++ [], w2) P)) ∧
      ((¬ ((0 : Int32) ≤ p1 ∧ p1 ≤ (((g 76) 56) - (1 : Int32)))) → P (some (.int (-1))) (Wd f fl g gl hh v tx)))) ∧
    ((¬ ((-1 : Int32) ≤ p0 ∧ p0 ≤ (((g 76) 58) - (1 : Int32)))) → P (some (.int (-1))) (Wd f fl g gl hh v tx))) :
    WP X (d + 2) 203 (0, [some (.ref 74), some (.int p0), some (.int p1), none, none], [], Wd f fl g gl hh v tx) P := by
  refine WP.run hP_203 2 (c' := (2, [some (.ref 74), some (.int p0), some (.int p1), none, none], [.int p0, .ref 74], Wd f fl g gl hh v tx)) rfl ?_
  refine WP.call hP_203 hP_176 (as := [.ref 74, .int p0]) (pc' := 5) (L' := [some (.ref 74), some (.int p0), some (.int p1), none, none]) (st' := []) (w1 := Wd f fl g gl hh v tx) rfl ⟨Nat.le_of_ble_eq_true rfl, Nat.le_of_ble_eq_true rfl⟩ rfl (b_m_isLaw_0 X (d) f fl g gl hh v tx p0 _ ?_)
  refine ⟨fun c1 => ?_, fun c1 => ?_⟩
  · have h2 := h.1 c1
    refine WP.run hP_203 3 (c' := (10, [some (.ref 74), some (.int p0), some (.int p1), none, none], [.int p1, .ref 74], Wd f fl g gl hh v tx)) rfl ?_
    refine WP.call hP_203 hP_132 (as := [.ref 74, .int p1]) (pc' := 13) (L' := [some (.ref 74), some (.int p0), some (.int p1), none, none]) (st' := []) (w1 := Wd f fl g gl hh v tx) rfl ⟨Nat.le_of_ble_eq_true rfl, Nat.le_of_ble_eq_true rfl⟩ rfl (b_m_isShip_0 X (d) f fl g gl hh v tx p1 _ ?_)
    refine ⟨fun c3 => ?_, fun c3 => ?_⟩
    · have h4 := h2.1 c3
      refine WP.run hP_203 4 (c' := (24, [some (.ref 74), some (.int p0), some (.int p1), none, none], [.int 59, .ref 76], Wd f fl g gl hh v tx)) rfl ?_
      refine WP.of (fun _ _ => Ex.iald hP_203 rfl (Wa_76 _ _ _ _ _ _ _) (by decide)) ?_
      show WP X _ 203 (25, [some (.ref 74), some (.int p0), some (.int p1), none, none], [.int ((g 76) 59)], Wd f fl g gl hh v tx) P
      refine WP.run hP_203 5 (c' := (33, [some (.ref 74), some (.int p0), some (.int p1), some (.int ((g 76) 59)), none], [.int p0, .int 59, .ref 76], Wd f fl g gl hh v tx)) rfl ?_
      refine WP.of (fun _ _ => Ex.iast hP_203 (w2 := Wd f fl (va_up g 76 (upd (g 76) 59 p0)) gl hh v tx) rfl (Wa_76 _ _ _ _ _ _ _) (by decide) (Ws_76 _ _ _ _ _ _ _ _)) ?_
      refine WP.run hP_203 2 (c' := (36, [some (.ref 74), some (.int p0), some (.int p1), some (.int ((g 76) 59)), none], [.int p1, .ref 74], Wd f fl (va_up g 76 (upd (g 76) 59 p0)) gl hh v tx)) rfl ?_
      refine WP.call hP_203 hP_201 (as := [.ref 74, .int p1]) (pc' := 39) (L' := [some (.ref 74), some (.int p0), some (.int p1), some (.int ((g 76) 59)), none]) (st' := []) (w1 := Wd f fl (va_up g 76 (upd (g 76) 59 p0)) gl hh v tx) rfl ⟨Nat.le_of_ble_eq_true rfl, Nat.le_of_ble_eq_true rfl⟩ rfl ?_
      exact h4
    · have h5 := h2.2 c3
      refine WP.run hP_203 2 (c' := (17, [none, none, none, none, none], [.int (-1)], Wd f fl g gl hh v tx)) rfl ?_
      exact WP.retI hP_203 rfl rfl h5
  · have h6 := h.2 c1
    refine WP.run hP_203 2 (c' := (17, [none, none, none, none, none], [.int (-1)], Wd f fl g gl hh v tx)) rfl ?_
    exact WP.retI hP_203 rfl rfl h6

set_option maxRecDepth 20000 in
theorem b_m_compare_39 (X : mm_X) (d : Nat) (f : Nat → Int32) (fl : Nat → Int64) (g : Nat → Nat → Int32) (gl : Nat → Nat → Int64) (hh : Nat → Nat → Option Nat) (v : Nat → Value) (tx : mm_W) (l1 : Int32) (l2 : Int32) (l3 : Int32) (s0 : Int32)  (P : Option Value → mm_W → Prop)
    (h : ((s0 = 0) → P (some (.int (-1))) (Wd f fl (va_up g 76 (upd (g 76) 59 l3)) gl hh v tx)) ∧
    ((¬ s0 = 0) → P (some (.int ((g 88) 0))) (Wd f fl (va_up g 76 (upd (g 76) 59 l3)) gl hh v tx))) :
    WP X (d) 203 (39, [some (.ref 74), some (.int l1), some (.int l2), some (.int l3), none], [.int s0], Wd f fl g gl hh v tx) P := by
  refine WP.br hP_203 (q := s0 = 0) (t := 51) (f := 42) (L := [some (.ref 74), some (.int l1), some (.int l2), some (.int l3), none]) (st := []) (w := Wd f fl g gl hh v tx) rfl (fun c1 => ?_) (fun c1 => ?_)
  · have h2 := h.1 c1
    refine WP.run hP_203 1 (c' := (52, [some (.ref 74), none, none, some (.int l3), none], [.int (-1)], Wd f fl g gl hh v tx)) rfl ?_
    refine WP.run hP_203 5 (c' := (61, [some (.ref 74), none, none, some (.int l3), some (.int (-1))], [.int l3, .int 59, .ref 76], Wd f fl g gl hh v tx)) rfl ?_
    refine WP.of (fun _ _ => Ex.iast hP_203 (w2 := Wd f fl (va_up g 76 (upd (g 76) 59 l3)) gl hh v tx) rfl (Wa_76 _ _ _ _ _ _ _) (by decide) (Ws_76 _ _ _ _ _ _ _ _)) ?_
    refine WP.run hP_203 1 (c' := (64, [some (.ref 74), none, none, some (.int l3), some (.int (-1))], [.int (-1)], Wd f fl (va_up g 76 (upd (g 76) 59 l3)) gl hh v tx)) rfl ?_
    exact WP.retI hP_203 rfl rfl h2
  · have h3 := h.2 c1
    refine WP.run hP_203 3 (c' := (47, [some (.ref 74), some (.int l1), some (.int l2), some (.int l3), none], [.int 0, .ref 88], Wd f fl g gl hh v tx)) rfl ?_
    refine WP.of (fun _ _ => Ex.iald hP_203 rfl (Wa_88 _ _ _ _ _ _ _) (by decide)) ?_
    show WP X _ 203 (48, [some (.ref 74), some (.int l1), some (.int l2), some (.int l3), none], [.int ((g 88) 0)], Wd f fl g gl hh v tx) P
    refine WP.run hP_203 6 (c' := (61, [some (.ref 74), none, none, some (.int l3), some (.int ((g 88) 0))], [.int l3, .int 59, .ref 76], Wd f fl g gl hh v tx)) rfl ?_
    refine WP.of (fun _ _ => Ex.iast hP_203 (w2 := Wd f fl (va_up g 76 (upd (g 76) 59 l3)) gl hh v tx) rfl (Wa_76 _ _ _ _ _ _ _) (by decide) (Ws_76 _ _ _ _ _ _ _ _)) ?_
    refine WP.run hP_203 1 (c' := (64, [some (.ref 74), none, none, some (.int l3), some (.int ((g 88) 0))], [.int ((g 88) 0)], Wd f fl (va_up g 76 (upd (g 76) 59 l3)) gl hh v tx)) rfl ?_
    exact WP.retI hP_203 rfl rfl h3

set_option maxRecDepth 20000 in
theorem b_m_mended_0 (X : mm_X) (d : Nat) (f : Nat → Int32) (fl : Nat → Int64) (g : Nat → Nat → Int32) (gl : Nat → Nat → Int64) (hh : Nat → Nat → Option Nat) (v : Nat → Value) (tx : mm_W) (p0 : Int32)  (P : Option Value → mm_W → Prop)
    (h : (((-1) ≤ p0) → WP X (d) 196 (0, [some (.ref 74), some (.int 1), none, none], [], Wd f fl g gl hh v tx) (fun rv w2 => WP X (d + 1) 204 (12, [some (.ref 74), some (.int p0)], rv.toList ++ [], w2) P)) ∧
    ((¬ ((-1) ≤ p0)) → P (some (.int (-1))) (Wd f fl g gl hh v tx))) :
    WP X (d + 1) 204 (0, [some (.ref 74), some (.int p0)], [], Wd f fl g gl hh v tx) P := by
  refine WP.run hP_204 2 (c' := (2, [some (.ref 74), some (.int p0)], [.int (-1), .int p0], Wd f fl g gl hh v tx)) rfl ?_
  refine WP.br hP_204 (q := (-1) ≤ p0) (t := 7) (f := 5) (L := [some (.ref 74), some (.int p0)]) (st := []) (w := Wd f fl g gl hh v tx) rfl (fun c1 => ?_) (fun c1 => ?_)
  · have h2 := h.1 c1
    refine WP.run hP_204 2 (c' := (9, [some (.ref 74), some (.int p0)], [.int 1, .ref 74], Wd f fl g gl hh v tx)) rfl ?_
    refine WP.call hP_204 hP_196 (as := [.ref 74, .int 1]) (pc' := 12) (L' := [some (.ref 74), some (.int p0)]) (st' := []) (w1 := Wd f fl g gl hh v tx) rfl ⟨Nat.le_of_ble_eq_true rfl, Nat.le_of_ble_eq_true rfl⟩ rfl ?_
    exact h2
  · have h3 := h.2 c1
    refine WP.run hP_204 1 (c' := (6, [some (.ref 74), some (.int p0)], [.int (-1)], Wd f fl g gl hh v tx)) rfl ?_
    exact WP.retI hP_204 rfl rfl h3

set_option maxRecDepth 20000 in
theorem b_m_mended_12 (X : mm_X) (d : Nat) (f : Nat → Int32) (fl : Nat → Int64) (g : Nat → Nat → Int32) (gl : Nat → Nat → Int64) (hh : Nat → Nat → Option Nat) (v : Nat → Value) (tx : mm_W) (l1 : Int32)  (P : Option Value → mm_W → Prop)
    (h : ((¬ ((g 88) 0) = 1000000) → (((¬ l1 = (-1)) → WP X (d) 199 (0, [some (.ref 74), some (.int l1), some (.int 1), none, none], [], Wd f fl g gl hh v tx) (fun rv w2 => WP X (d + 1) 204 (45, [none, none], rv.toList ++ [], w2) P)) ∧
      ((l1 = (-1)) → P (some (.int ((g 88) 0))) (Wd f fl g gl hh v tx)))) ∧
    ((((g 88) 0) = 1000000) → P (some (.int (-1))) (Wd f fl g gl hh v tx))) :
    WP X (d + 1) 204 (12, [some (.ref 74), some (.int l1)], [], Wd f fl g gl hh v tx) P := by
  refine WP.run hP_204 3 (c' := (17, [some (.ref 74), some (.int l1)], [.int 0, .ref 88], Wd f fl g gl hh v tx)) rfl ?_
  refine WP.of (fun _ _ => Ex.iald hP_204 rfl (Wa_88 _ _ _ _ _ _ _) (by decide)) ?_
  show WP X _ 204 (18, [some (.ref 74), some (.int l1)], [.int ((g 88) 0)], Wd f fl g gl hh v tx) P
  refine WP.run hP_204 1 (c' := (20, [some (.ref 74), some (.int l1)], [.int 1000000, .int ((g 88) 0)], Wd f fl g gl hh v tx)) rfl ?_
  refine WP.br hP_204 (q := ¬ ((g 88) 0) = 1000000) (t := 25) (f := 23) (L := [some (.ref 74), some (.int l1)]) (st := []) (w := Wd f fl g gl hh v tx) rfl (fun c1 => ?_) (fun c1 => ?_)
  · have h2 := h.1 c1
    refine WP.run hP_204 2 (c' := (27, [some (.ref 74), some (.int l1)], [.int (-1), .int l1], Wd f fl g gl hh v tx)) rfl ?_
    refine WP.br hP_204 (q := ¬ l1 = (-1)) (t := 39) (f := 30) (L := [some (.ref 74), some (.int l1)]) (st := []) (w := Wd f fl g gl hh v tx) rfl (fun c3 => ?_) (fun c3 => ?_)
    · have h4 := h2.1 c3
      refine WP.run hP_204 3 (c' := (42, [some (.ref 74), some (.int l1)], [.int 1, .int l1, .ref 74], Wd f fl g gl hh v tx)) rfl ?_
      refine WP.call hP_204 hP_199 (as := [.ref 74, .int l1, .int 1]) (pc' := 45) (L' := [some (.ref 74), some (.int l1)]) (st' := []) (w1 := Wd f fl g gl hh v tx) rfl ⟨Nat.le_of_ble_eq_true rfl, Nat.le_of_ble_eq_true rfl⟩ rfl ?_
      refine WP.mono h4 (fun _ _ hq => ?_)
      exact WP.clr hP_204 (pc := 45) rfl hq
    · have h5 := h2.2 (Classical.not_not.mp c3)
      refine WP.run hP_204 3 (c' := (35, [some (.ref 74), some (.int l1)], [.int 0, .ref 88], Wd f fl g gl hh v tx)) rfl ?_
      refine WP.of (fun _ _ => Ex.iald hP_204 rfl (Wa_88 _ _ _ _ _ _ _) (by decide)) ?_
      show WP X _ 204 (36, [some (.ref 74), some (.int l1)], [.int ((g 88) 0)], Wd f fl g gl hh v tx) P
      refine WP.run hP_204 1 (c' := (45, [some (.ref 74), some (.int l1)], [.int ((g 88) 0)], Wd f fl g gl hh v tx)) rfl ?_
      exact WP.retI hP_204 rfl rfl h5
  · have h6 := h.2 (Classical.not_not.mp c1)
    refine WP.run hP_204 1 (c' := (24, [some (.ref 74), some (.int l1)], [.int (-1)], Wd f fl g gl hh v tx)) rfl ?_
    exact WP.retI hP_204 rfl rfl h6

set_option maxRecDepth 20000 in
theorem b_m_mended_45 (X : mm_X) (d : Nat) (f : Nat → Int32) (fl : Nat → Int64) (g : Nat → Nat → Int32) (gl : Nat → Nat → Int64) (hh : Nat → Nat → Option Nat) (v : Nat → Value) (tx : mm_W) (s0 : Int32)  (P : Option Value → mm_W → Prop)
    (h : P (some (.int s0)) (Wd f fl g gl hh v tx)) :
    WP X (d) 204 (45, [none, none], [.int s0], Wd f fl g gl hh v tx) P := by
  exact WP.retI hP_204 rfl rfl h

set_option maxRecDepth 20000 in
theorem b_m_goesOn_0 (X : mm_X) (d : Nat) (f : Nat → Int32) (fl : Nat → Int64) (g : Nat → Nat → Int32) (gl : Nat → Nat → Int64) (hh : Nat → Nat → Option Nat) (v : Nat → Value) (tx : mm_W) (p0 : Int32) (p1 : Int32) (p2 : Int32)  (P : Option Value → mm_W → Prop)
    (h : ((p1 = 0) → (((((p0 / (5 : Int32)) + p2) ≤ (4 : Int32)) → P (some (.int (((5 : Int32) * ((p0 / (5 : Int32)) + p2)) + (p0 - (p0 / (5 : Int32)) * (5 : Int32))))) (Wd f fl g gl hh v tx)) ∧
      ((¬ (((p0 / (5 : Int32)) + p2) ≤ (4 : Int32))) → P (some (.int ((20 : Int32) + (p0 - (p0 / (5 : Int32)) * (5 : Int32))))) (Wd f fl g gl hh v tx)))) ∧
    ((¬ p1 = 0) → (((p1 = 1) → (((((p0 - (p0 / (5 : Int32)) * (5 : Int32)) + p2) ≤ (4 : Int32)) → P (some (.int (((5 : Int32) * (p0 / (5 : Int32))) + ((p0 - (p0 / (5 : Int32)) * (5 : Int32)) + p2)))) (Wd f fl g gl hh v tx)) ∧
        ((¬ (((p0 - (p0 / (5 : Int32)) * (5 : Int32)) + p2) ≤ (4 : Int32))) → P (some (.int (((5 : Int32) * (p0 / (5 : Int32))) + (4 : Int32)))) (Wd f fl g gl hh v tx)))) ∧
      ((¬ p1 = 1) → (((p1 = 2) → ((((0 : Int32) ≤ ((p0 / (5 : Int32)) - p2)) → P (some (.int (((5 : Int32) * ((p0 / (5 : Int32)) - p2)) + (p0 - (p0 / (5 : Int32)) * (5 : Int32))))) (Wd f fl g gl hh v tx)) ∧
          ((¬ ((0 : Int32) ≤ ((p0 / (5 : Int32)) - p2))) → P (some (.int ((0 : Int32) + (p0 - (p0 / (5 : Int32)) * (5 : Int32))))) (Wd f fl g gl hh v tx)))) ∧
        ((¬ p1 = 2) → ((((0 : Int32) ≤ ((p0 - (p0 / (5 : Int32)) * (5 : Int32)) - p2)) → P (some (.int (((5 : Int32) * (p0 / (5 : Int32))) + ((p0 - (p0 / (5 : Int32)) * (5 : Int32)) - p2)))) (Wd f fl g gl hh v tx)) ∧
          ((¬ ((0 : Int32) ≤ ((p0 - (p0 / (5 : Int32)) * (5 : Int32)) - p2))) → P (some (.int (((5 : Int32) * (p0 / (5 : Int32))) + (0 : Int32)))) (Wd f fl g gl hh v tx))))))))) :
    WP X (d + 1) 205 (0, [some (.int p0), some (.int p1), some (.int p2), none, none], [], Wd f fl g gl hh v tx) P := by
  refine WP.run hP_205 7 (c' := (7, [some (.int p0), some (.int p1), some (.int p2), some (.int (p0 - (p0 / (5 : Int32)) * (5 : Int32))), none], [.int (p0 / (5 : Int32))], Wd f fl g gl hh v tx)) rfl ?_
  refine WP.run hP_205 2 (c' := (10, [some (.int p0), some (.int p1), some (.int p2), some (.int (p0 - (p0 / (5 : Int32)) * (5 : Int32))), some (.int (p0 / (5 : Int32)))], [.int p1], Wd f fl g gl hh v tx)) rfl ?_
  refine WP.run hP_205 1 (c' := (mm_sw p1 0 [36, 49, 62] 75, [some (.int p0), some (.int p1), some (.int p2), some (.int (p0 - (p0 / (5 : Int32)) * (5 : Int32))), some (.int (p0 / (5 : Int32)))], [], Wd f fl g gl hh v tx)) rfl ?_
  refine WP.sw (lo' := 1) rfl (fun c1 => ?_) (fun c1 => ?_)
  · have h2 := h.1 c1
    refine WP.run hP_205 5 (c' := (42, [none, none, some (.int p2), some (.int (p0 - (p0 / (5 : Int32)) * (5 : Int32))), some (.int (p0 / (5 : Int32)))], [.int ((p0 / (5 : Int32)) + p2), .int 4, .int 5], Wd f fl g gl hh v tx)) rfl ?_
    refine WP.call hP_205 hP_117 (as := [.int 4, .int ((p0 / (5 : Int32)) + p2)]) (pc' := 45) (L' := [none, none, some (.int p2), some (.int (p0 - (p0 / (5 : Int32)) * (5 : Int32))), some (.int (p0 / (5 : Int32)))]) (st' := [.int 5]) (w1 := Wd f fl g gl hh v tx) rfl ⟨Nat.le_of_ble_eq_true rfl, Nat.le_of_ble_eq_true rfl⟩ rfl (b_m_lesser_0 X (d) f fl g gl hh v tx 4 ((p0 / (5 : Int32)) + p2) _ ?_)
    refine ⟨fun c3 => ?_, fun c3 => ?_⟩
    · have h4 := h2.1 c3
      refine WP.run hP_205 3 (c' := (48, [none, none, some (.int p2), some (.int (p0 - (p0 / (5 : Int32)) * (5 : Int32))), some (.int (p0 / (5 : Int32)))], [.int (((5 : Int32) * ((p0 / (5 : Int32)) + p2)) + (p0 - (p0 / (5 : Int32)) * (5 : Int32)))], Wd f fl g gl hh v tx)) rfl ?_
      exact WP.retI hP_205 rfl rfl h4
    · have h5 := h2.2 c3
      refine WP.run hP_205 3 (c' := (48, [none, none, some (.int p2), some (.int (p0 - (p0 / (5 : Int32)) * (5 : Int32))), some (.int (p0 / (5 : Int32)))], [.int ((20 : Int32) + (p0 - (p0 / (5 : Int32)) * (5 : Int32)))], Wd f fl g gl hh v tx)) rfl ?_
      exact WP.retI hP_205 rfl rfl h5
  · have h6 := h.2 c1
    refine WP.sw (lo' := 2) rfl (fun c7 => ?_) (fun c7 => ?_)
    · have h8 := h6.1 c7
      refine WP.run hP_205 7 (c' := (57, [none, none, some (.int p2), some (.int (p0 - (p0 / (5 : Int32)) * (5 : Int32))), some (.int (p0 / (5 : Int32)))], [.int ((p0 - (p0 / (5 : Int32)) * (5 : Int32)) + p2), .int 4, .int ((5 : Int32) * (p0 / (5 : Int32)))], Wd f fl g gl hh v tx)) rfl ?_
      refine WP.call hP_205 hP_117 (as := [.int 4, .int ((p0 - (p0 / (5 : Int32)) * (5 : Int32)) + p2)]) (pc' := 60) (L' := [none, none, some (.int p2), some (.int (p0 - (p0 / (5 : Int32)) * (5 : Int32))), some (.int (p0 / (5 : Int32)))]) (st' := [.int ((5 : Int32) * (p0 / (5 : Int32)))]) (w1 := Wd f fl g gl hh v tx) rfl ⟨Nat.le_of_ble_eq_true rfl, Nat.le_of_ble_eq_true rfl⟩ rfl (b_m_lesser_0 X (d) f fl g gl hh v tx 4 ((p0 - (p0 / (5 : Int32)) * (5 : Int32)) + p2) _ ?_)
      refine ⟨fun c9 => ?_, fun c9 => ?_⟩
      · have h10 := h8.1 c9
        refine WP.run hP_205 1 (c' := (61, [none, none, some (.int p2), some (.int (p0 - (p0 / (5 : Int32)) * (5 : Int32))), some (.int (p0 / (5 : Int32)))], [.int (((5 : Int32) * (p0 / (5 : Int32))) + ((p0 - (p0 / (5 : Int32)) * (5 : Int32)) + p2))], Wd f fl g gl hh v tx)) rfl ?_
        exact WP.retI hP_205 rfl rfl h10
      · have h11 := h8.2 c9
        refine WP.run hP_205 1 (c' := (61, [none, none, some (.int p2), some (.int (p0 - (p0 / (5 : Int32)) * (5 : Int32))), some (.int (p0 / (5 : Int32)))], [.int (((5 : Int32) * (p0 / (5 : Int32))) + (4 : Int32))], Wd f fl g gl hh v tx)) rfl ?_
        exact WP.retI hP_205 rfl rfl h11
    · have h12 := h6.2 c7
      refine WP.sw (lo' := 3) rfl (fun c13 => ?_) (fun c13 => ?_)
      · have h14 := h12.1 c13
        refine WP.run hP_205 5 (c' := (68, [none, none, some (.int p2), some (.int (p0 - (p0 / (5 : Int32)) * (5 : Int32))), some (.int (p0 / (5 : Int32)))], [.int ((p0 / (5 : Int32)) - p2), .int 0, .int 5], Wd f fl g gl hh v tx)) rfl ?_
        refine WP.call hP_205 hP_118 (as := [.int 0, .int ((p0 / (5 : Int32)) - p2)]) (pc' := 71) (L' := [none, none, some (.int p2), some (.int (p0 - (p0 / (5 : Int32)) * (5 : Int32))), some (.int (p0 / (5 : Int32)))]) (st' := [.int 5]) (w1 := Wd f fl g gl hh v tx) rfl ⟨Nat.le_of_ble_eq_true rfl, Nat.le_of_ble_eq_true rfl⟩ rfl (b_m_greater_0 X (d) f fl g gl hh v tx 0 ((p0 / (5 : Int32)) - p2) _ ?_)
        refine ⟨fun c15 => ?_, fun c15 => ?_⟩
        · have h16 := h14.1 c15
          refine WP.run hP_205 3 (c' := (74, [none, none, some (.int p2), some (.int (p0 - (p0 / (5 : Int32)) * (5 : Int32))), some (.int (p0 / (5 : Int32)))], [.int (((5 : Int32) * ((p0 / (5 : Int32)) - p2)) + (p0 - (p0 / (5 : Int32)) * (5 : Int32)))], Wd f fl g gl hh v tx)) rfl ?_
          exact WP.retI hP_205 rfl rfl h16
        · have h17 := h14.2 c15
          refine WP.run hP_205 3 (c' := (74, [none, none, some (.int p2), some (.int (p0 - (p0 / (5 : Int32)) * (5 : Int32))), some (.int (p0 / (5 : Int32)))], [.int ((0 : Int32) + (p0 - (p0 / (5 : Int32)) * (5 : Int32)))], Wd f fl g gl hh v tx)) rfl ?_
          exact WP.retI hP_205 rfl rfl h17
      · have h18 := h12.2 c13
        show WP X _ 205 (75, [some (.int p0), some (.int p1), some (.int p2), some (.int (p0 - (p0 / (5 : Int32)) * (5 : Int32))), some (.int (p0 / (5 : Int32)))], [], Wd f fl g gl hh v tx) P
        refine WP.run hP_205 7 (c' := (83, [none, none, some (.int p2), some (.int (p0 - (p0 / (5 : Int32)) * (5 : Int32))), some (.int (p0 / (5 : Int32)))], [.int ((p0 - (p0 / (5 : Int32)) * (5 : Int32)) - p2), .int 0, .int ((5 : Int32) * (p0 / (5 : Int32)))], Wd f fl g gl hh v tx)) rfl ?_
        refine WP.call hP_205 hP_118 (as := [.int 0, .int ((p0 - (p0 / (5 : Int32)) * (5 : Int32)) - p2)]) (pc' := 86) (L' := [none, none, some (.int p2), some (.int (p0 - (p0 / (5 : Int32)) * (5 : Int32))), some (.int (p0 / (5 : Int32)))]) (st' := [.int ((5 : Int32) * (p0 / (5 : Int32)))]) (w1 := Wd f fl g gl hh v tx) rfl ⟨Nat.le_of_ble_eq_true rfl, Nat.le_of_ble_eq_true rfl⟩ rfl (b_m_greater_0 X (d) f fl g gl hh v tx 0 ((p0 - (p0 / (5 : Int32)) * (5 : Int32)) - p2) _ ?_)
        refine ⟨fun c19 => ?_, fun c19 => ?_⟩
        · have h20 := h18.1 c19
          refine WP.run hP_205 1 (c' := (87, [none, none, some (.int p2), some (.int (p0 - (p0 / (5 : Int32)) * (5 : Int32))), some (.int (p0 / (5 : Int32)))], [.int (((5 : Int32) * (p0 / (5 : Int32))) + ((p0 - (p0 / (5 : Int32)) * (5 : Int32)) - p2))], Wd f fl g gl hh v tx)) rfl ?_
          exact WP.retI hP_205 rfl rfl h20
        · have h21 := h18.2 c19
          refine WP.run hP_205 1 (c' := (87, [none, none, some (.int p2), some (.int (p0 - (p0 / (5 : Int32)) * (5 : Int32))), some (.int (p0 / (5 : Int32)))], [.int (((5 : Int32) * (p0 / (5 : Int32))) + (0 : Int32))], Wd f fl g gl hh v tx)) rfl ?_
          exact WP.retI hP_205 rfl rfl h21

set_option maxRecDepth 20000 in
theorem b_m_stateOf_0 (X : mm_X) (d : Nat) (f : Nat → Int32) (fl : Nat → Int64) (g : Nat → Nat → Int32) (gl : Nat → Nat → Int64) (hh : Nat → Nat → Option Nat) (v : Nat → Value) (tx : mm_W) (p0 : Int32) (p1 : Int32) (p2 : Int32)  (P : Option Value → mm_W → Prop)
    (h : P (some (.int (((((4 : Int32) * p0) + p1) * (10 : Int32)) + p2))) (Wd f fl g gl hh v tx)) :
    WP X (d) 206 (0, [some (.int p0), some (.int p1), some (.int p2)], [], Wd f fl g gl hh v tx) P := by
  refine WP.run hP_206 9 (c' := (10, [some (.int p0), some (.int p1), some (.int p2)], [.int (((((4 : Int32) * p0) + p1) * (10 : Int32)) + p2)], Wd f fl g gl hh v tx)) rfl ?_
  exact WP.retI hP_206 rfl rfl h

set_option maxRecDepth 20000 in
theorem b_m_stateBehind_0 (X : mm_X) (d : Nat) (f : Nat → Int32) (fl : Nat → Int64) (g : Nat → Nat → Int32) (gl : Nat → Nat → Int64) (hh : Nat → Nat → Option Nat) (v : Nat → Value) (tx : mm_W) (p0 : Int32) (p1 : Int32) (p2 : Int32)  (P : Option Value → mm_W → Prop)
    (h : WP X (d) 193 (0, [some (.ref 74), some (.int p0), some (.int p2), some (.int ((p1 / (10 : Int32)) / (4 : Int32))), some (.int (p1 - (p1 / (10 : Int32)) * (10 : Int32)))], [], Wd f fl g gl hh v tx) (fun rv w2 => WP X (d + 1) 207 (32, [some (.ref 74), some (.int p0), some (.int p1), some (.int p2), some (.int (p1 - (p1 / (10 : Int32)) * (10 : Int32))), some (.int ((p1 / (10 : Int32)) - ((p1 / (10 : Int32)) / (4 : Int32)) * (4 : Int32))), some (.int ((p1 / (10 : Int32)) / (4 : Int32)))], rv.toList ++ [], w2) P)) :
    WP X (d + 1) 207 (0, [some (.ref 74), some (.int p0), some (.int p1), some (.int p2), none, none, none], [], Wd f fl g gl hh v tx) P := by
  refine WP.run hP_207 9 (c' := (12, [some (.ref 74), some (.int p0), some (.int p1), some (.int p2), some (.int (p1 - (p1 / (10 : Int32)) * (10 : Int32))), none, none], [.int ((p1 / (10 : Int32)) - ((p1 / (10 : Int32)) / (4 : Int32)) * (4 : Int32))], Wd f fl g gl hh v tx)) rfl ?_
  refine WP.run hP_207 6 (c' := (20, [some (.ref 74), some (.int p0), some (.int p1), some (.int p2), some (.int (p1 - (p1 / (10 : Int32)) * (10 : Int32))), some (.int ((p1 / (10 : Int32)) - ((p1 / (10 : Int32)) / (4 : Int32)) * (4 : Int32))), none], [.int ((p1 / (10 : Int32)) / (4 : Int32))], Wd f fl g gl hh v tx)) rfl ?_
  refine WP.run hP_207 6 (c' := (29, [some (.ref 74), some (.int p0), some (.int p1), some (.int p2), some (.int (p1 - (p1 / (10 : Int32)) * (10 : Int32))), some (.int ((p1 / (10 : Int32)) - ((p1 / (10 : Int32)) / (4 : Int32)) * (4 : Int32))), some (.int ((p1 / (10 : Int32)) / (4 : Int32)))], [.int (p1 - (p1 / (10 : Int32)) * (10 : Int32)), .int ((p1 / (10 : Int32)) / (4 : Int32)), .int p2, .int p0, .ref 74], Wd f fl g gl hh v tx)) rfl ?_
  refine WP.call hP_207 hP_193 (as := [.ref 74, .int p0, .int p2, .int ((p1 / (10 : Int32)) / (4 : Int32)), .int (p1 - (p1 / (10 : Int32)) * (10 : Int32))]) (pc' := 32) (L' := [some (.ref 74), some (.int p0), some (.int p1), some (.int p2), some (.int (p1 - (p1 / (10 : Int32)) * (10 : Int32))), some (.int ((p1 / (10 : Int32)) - ((p1 / (10 : Int32)) / (4 : Int32)) * (4 : Int32))), some (.int ((p1 / (10 : Int32)) / (4 : Int32)))]) (st' := []) (w1 := Wd f fl g gl hh v tx) rfl ⟨Nat.le_of_ble_eq_true rfl, Nat.le_of_ble_eq_true rfl⟩ rfl ?_
  exact h

set_option maxRecDepth 20000 in
theorem b_m_stateBehind_32 (X : mm_X) (d : Nat) (f : Nat → Int32) (fl : Nat → Int64) (g : Nat → Nat → Int32) (gl : Nat → Nat → Int64) (hh : Nat → Nat → Option Nat) (v : Nat → Value) (tx : mm_W) (l1 : Int32) (l2 : Int32) (l3 : Int32) (l4 : Int32) (l5 : Int32) (l6 : Int32) (s0 : Int32)  (P : Option Value → mm_W → Prop)
    (h : ((s0 = 0) → (((l3 = 0) → WP X (d) 192 (0, [some (.ref 74), some (.int l1), some (.int l6), some (.int l4)], [], Wd f fl g gl hh v tx) (fun rv w2 => WP X (d + 1) 207 (85, [some (.ref 74), some (.int l1), none, none, some (.int l4), some (.int l5), some (.int l6)], rv.toList ++ [.int l5, .int l6], w2) P)) ∧
      ((¬ l3 = 0) → (((l3 = 1) → P (some (.int (((((4 : Int32) * l6) + ((l5 + (3 : Int32)) - ((l5 + (3 : Int32)) / (4 : Int32)) * (4 : Int32))) * (10 : Int32)) + l4))) (Wd f fl g gl hh v tx)) ∧
        ((¬ l3 = 1) → (((l3 = 2) → P (some (.int (((((4 : Int32) * l6) + ((l5 + (1 : Int32)) - ((l5 + (1 : Int32)) / (4 : Int32)) * (4 : Int32))) * (10 : Int32)) + l4))) (Wd f fl g gl hh v tx)) ∧
          ((¬ l3 = 2) → (((l3 = 3) → P (some (.int (((((4 : Int32) * l6) + ((l5 + (2 : Int32)) - ((l5 + (2 : Int32)) / (4 : Int32)) * (4 : Int32))) * (10 : Int32)) + l4))) (Wd f fl g gl hh v tx)) ∧
            ((¬ l3 = 3) → (((l3 = 4) → ((((0 : Int32) ≤ (l4 - (1 : Int32))) → P (some (.int (((((4 : Int32) * l6) + l5) * (10 : Int32)) + (l4 - (1 : Int32))))) (Wd f fl g gl hh v tx)) ∧
                ((¬ ((0 : Int32) ≤ (l4 - (1 : Int32)))) → P (some (.int (((((4 : Int32) * l6) + l5) * (10 : Int32)) + (0 : Int32)))) (Wd f fl g gl hh v tx)))) ∧
              ((¬ l3 = 4) → P (some (.int l2)) (Wd f fl g gl hh v tx)))))))))))) ∧
    ((¬ s0 = 0) → P (some (.int l2)) (Wd f fl g gl hh v tx))) :
    WP X (d + 1) 207 (32, [some (.ref 74), some (.int l1), some (.int l2), some (.int l3), some (.int l4), some (.int l5), some (.int l6)], [.int s0], Wd f fl g gl hh v tx) P := by
  refine WP.br hP_207 (q := s0 = 0) (t := 37) (f := 35) (L := [some (.ref 74), some (.int l1), some (.int l2), some (.int l3), some (.int l4), some (.int l5), some (.int l6)]) (st := []) (w := Wd f fl g gl hh v tx) rfl (fun c1 => ?_) (fun c1 => ?_)
  · have h2 := h.1 c1
    refine WP.run hP_207 1 (c' := (38, [some (.ref 74), some (.int l1), some (.int l2), some (.int l3), some (.int l4), some (.int l5), some (.int l6)], [.int l3], Wd f fl g gl hh v tx)) rfl ?_
    refine WP.run hP_207 1 (c' := (mm_sw l3 0 [72, 96, 110, 124, 138] 154, [some (.ref 74), some (.int l1), some (.int l2), some (.int l3), some (.int l4), some (.int l5), some (.int l6)], [], Wd f fl g gl hh v tx)) rfl ?_
    refine WP.sw (lo' := 1) rfl (fun c3 => ?_) (fun c3 => ?_)
    · have h4 := h2.1 c3
      refine WP.run hP_207 6 (c' := (82, [some (.ref 74), some (.int l1), none, none, some (.int l4), some (.int l5), some (.int l6)], [.int l4, .int l6, .int l1, .ref 74, .int l5, .int l6], Wd f fl g gl hh v tx)) rfl ?_
      refine WP.call hP_207 hP_192 (as := [.ref 74, .int l1, .int l6, .int l4]) (pc' := 85) (L' := [some (.ref 74), some (.int l1), none, none, some (.int l4), some (.int l5), some (.int l6)]) (st' := [.int l5, .int l6]) (w1 := Wd f fl g gl hh v tx) rfl ⟨Nat.le_of_ble_eq_true rfl, Nat.le_of_ble_eq_true rfl⟩ rfl ?_
      exact h4
    · have h5 := h2.2 c3
      refine WP.sw (lo' := 2) rfl (fun c6 => ?_) (fun c6 => ?_)
      · have h7 := h5.1 c6
        refine WP.run hP_207 7 (c' := (106, [none, none, none, none, some (.int l4), some (.int l5), some (.int l6)], [.int l4, .int ((l5 + (3 : Int32)) - ((l5 + (3 : Int32)) / (4 : Int32)) * (4 : Int32)), .int l6], Wd f fl g gl hh v tx)) rfl ?_
        refine WP.call hP_207 hP_206 (as := [.int l6, .int ((l5 + (3 : Int32)) - ((l5 + (3 : Int32)) / (4 : Int32)) * (4 : Int32)), .int l4]) (pc' := 109) (L' := [none, none, none, none, some (.int l4), some (.int l5), some (.int l6)]) (st' := []) (w1 := Wd f fl g gl hh v tx) rfl ⟨Nat.le_of_ble_eq_true rfl, Nat.le_of_ble_eq_true rfl⟩ rfl (b_m_stateOf_0 X (d) f fl g gl hh v tx l6 ((l5 + (3 : Int32)) - ((l5 + (3 : Int32)) / (4 : Int32)) * (4 : Int32)) l4 _ ?_)
        exact WP.retI hP_207 rfl rfl h7
      · have h8 := h5.2 c6
        refine WP.sw (lo' := 3) rfl (fun c9 => ?_) (fun c9 => ?_)
        · have h10 := h8.1 c9
          refine WP.run hP_207 7 (c' := (120, [none, none, none, none, some (.int l4), some (.int l5), some (.int l6)], [.int l4, .int ((l5 + (1 : Int32)) - ((l5 + (1 : Int32)) / (4 : Int32)) * (4 : Int32)), .int l6], Wd f fl g gl hh v tx)) rfl ?_
          refine WP.call hP_207 hP_206 (as := [.int l6, .int ((l5 + (1 : Int32)) - ((l5 + (1 : Int32)) / (4 : Int32)) * (4 : Int32)), .int l4]) (pc' := 123) (L' := [none, none, none, none, some (.int l4), some (.int l5), some (.int l6)]) (st' := []) (w1 := Wd f fl g gl hh v tx) rfl ⟨Nat.le_of_ble_eq_true rfl, Nat.le_of_ble_eq_true rfl⟩ rfl (b_m_stateOf_0 X (d) f fl g gl hh v tx l6 ((l5 + (1 : Int32)) - ((l5 + (1 : Int32)) / (4 : Int32)) * (4 : Int32)) l4 _ ?_)
          exact WP.retI hP_207 rfl rfl h10
        · have h11 := h8.2 c9
          refine WP.sw (lo' := 4) rfl (fun c12 => ?_) (fun c12 => ?_)
          · have h13 := h11.1 c12
            refine WP.run hP_207 7 (c' := (134, [none, none, none, none, some (.int l4), some (.int l5), some (.int l6)], [.int l4, .int ((l5 + (2 : Int32)) - ((l5 + (2 : Int32)) / (4 : Int32)) * (4 : Int32)), .int l6], Wd f fl g gl hh v tx)) rfl ?_
            refine WP.call hP_207 hP_206 (as := [.int l6, .int ((l5 + (2 : Int32)) - ((l5 + (2 : Int32)) / (4 : Int32)) * (4 : Int32)), .int l4]) (pc' := 137) (L' := [none, none, none, none, some (.int l4), some (.int l5), some (.int l6)]) (st' := []) (w1 := Wd f fl g gl hh v tx) rfl ⟨Nat.le_of_ble_eq_true rfl, Nat.le_of_ble_eq_true rfl⟩ rfl (b_m_stateOf_0 X (d) f fl g gl hh v tx l6 ((l5 + (2 : Int32)) - ((l5 + (2 : Int32)) / (4 : Int32)) * (4 : Int32)) l4 _ ?_)
            exact WP.retI hP_207 rfl rfl h13
          · have h14 := h11.2 c12
            refine WP.sw (lo' := 5) rfl (fun c15 => ?_) (fun c15 => ?_)
            · have h16 := h14.1 c15
              refine WP.run hP_207 6 (c' := (147, [none, none, none, none, some (.int l4), some (.int l5), some (.int l6)], [.int (l4 - (1 : Int32)), .int 0, .int l5, .int l6], Wd f fl g gl hh v tx)) rfl ?_
              refine WP.call hP_207 hP_118 (as := [.int 0, .int (l4 - (1 : Int32))]) (pc' := 150) (L' := [none, none, none, none, some (.int l4), some (.int l5), some (.int l6)]) (st' := [.int l5, .int l6]) (w1 := Wd f fl g gl hh v tx) rfl ⟨Nat.le_of_ble_eq_true rfl, Nat.le_of_ble_eq_true rfl⟩ rfl (b_m_greater_0 X (d) f fl g gl hh v tx 0 (l4 - (1 : Int32)) _ ?_)
              refine ⟨fun c17 => ?_, fun c17 => ?_⟩
              · have h18 := h16.1 c17
                refine WP.call hP_207 hP_206 (as := [.int l6, .int l5, .int (l4 - (1 : Int32))]) (pc' := 153) (L' := [none, none, none, none, some (.int l4), some (.int l5), some (.int l6)]) (st' := []) (w1 := Wd f fl g gl hh v tx) rfl ⟨Nat.le_of_ble_eq_true rfl, Nat.le_of_ble_eq_true rfl⟩ rfl (b_m_stateOf_0 X (d) f fl g gl hh v tx l6 l5 (l4 - (1 : Int32)) _ ?_)
                exact WP.retI hP_207 rfl rfl h18
              · have h19 := h16.2 c17
                refine WP.call hP_207 hP_206 (as := [.int l6, .int l5, .int 0]) (pc' := 153) (L' := [none, none, none, none, some (.int l4), some (.int l5), some (.int l6)]) (st' := []) (w1 := Wd f fl g gl hh v tx) rfl ⟨Nat.le_of_ble_eq_true rfl, Nat.le_of_ble_eq_true rfl⟩ rfl (b_m_stateOf_0 X (d) f fl g gl hh v tx l6 l5 0 _ ?_)
                exact WP.retI hP_207 rfl rfl h19
            · have h20 := h14.2 c15
              show WP X _ 207 (154, [some (.ref 74), some (.int l1), some (.int l2), some (.int l3), some (.int l4), some (.int l5), some (.int l6)], [], Wd f fl g gl hh v tx) P
              refine WP.run hP_207 1 (c' := (155, [none, none, some (.int l2), none, none, none, none], [.int l2], Wd f fl g gl hh v tx)) rfl ?_
              exact WP.retI hP_207 rfl rfl h20
  · have h21 := h.2 c1
    refine WP.run hP_207 1 (c' := (36, [some (.ref 74), some (.int l1), some (.int l2), some (.int l3), some (.int l4), some (.int l5), some (.int l6)], [.int l2], Wd f fl g gl hh v tx)) rfl ?_
    exact WP.retI hP_207 rfl rfl h21

set_option maxRecDepth 20000 in
theorem b_m_stateBehind_85 (X : mm_X) (d : Nat) (f : Nat → Int32) (fl : Nat → Int64) (g : Nat → Nat → Int32) (gl : Nat → Nat → Int64) (hh : Nat → Nat → Option Nat) (v : Nat → Value) (tx : mm_W) (l1 : Int32) (l4 : Int32) (l5 : Int32) (l6 : Int32) (s0 : Int32) (s1 : Int32) (s2 : Int32)  (P : Option Value → mm_W → Prop)
    (h : WP X (d) 205 (0, [some (.int s2), some (.int s1), some (.int s0), none, none], [], Wd f fl g gl hh v tx) (fun rv w2 => WP X (d + 1) 207 (88, [some (.ref 74), some (.int l1), none, none, some (.int l4), some (.int l5), some (.int l6)], rv.toList ++ [], w2) P)) :
    WP X (d + 1) 207 (85, [some (.ref 74), some (.int l1), none, none, some (.int l4), some (.int l5), some (.int l6)], [.int s0, .int s1, .int s2], Wd f fl g gl hh v tx) P := by
  refine WP.call hP_207 hP_205 (as := [.int s2, .int s1, .int s0]) (pc' := 88) (L' := [some (.ref 74), some (.int l1), none, none, some (.int l4), some (.int l5), some (.int l6)]) (st' := []) (w1 := Wd f fl g gl hh v tx) rfl ⟨Nat.le_of_ble_eq_true rfl, Nat.le_of_ble_eq_true rfl⟩ rfl ?_
  exact h

set_option maxRecDepth 20000 in
theorem b_m_stateBehind_88 (X : mm_X) (d : Nat) (f : Nat → Int32) (fl : Nat → Int64) (g : Nat → Nat → Int32) (gl : Nat → Nat → Int64) (hh : Nat → Nat → Option Nat) (v : Nat → Value) (tx : mm_W) (l1 : Int32) (l4 : Int32) (l5 : Int32) (l6 : Int32) (s0 : Int32)  (P : Option Value → mm_W → Prop)
    (h : P (some (.int (((((4 : Int32) * s0) + l5) * (10 : Int32)) + l4))) (Wd f fl g gl hh v tx)) :
    WP X (d + 1) 207 (88, [some (.ref 74), some (.int l1), none, none, some (.int l4), some (.int l5), some (.int l6)], [.int s0], Wd f fl g gl hh v tx) P := by
  refine WP.run hP_207 2 (c' := (92, [some (.ref 74), some (.int l1), none, none, some (.int l4), some (.int l5), some (.int l6)], [.int l4, .int l5, .int s0], Wd f fl g gl hh v tx)) rfl ?_
  refine WP.call hP_207 hP_206 (as := [.int s0, .int l5, .int l4]) (pc' := 95) (L' := [some (.ref 74), some (.int l1), none, none, some (.int l4), some (.int l5), some (.int l6)]) (st' := []) (w1 := Wd f fl g gl hh v tx) rfl ⟨Nat.le_of_ble_eq_true rfl, Nat.le_of_ble_eq_true rfl⟩ rfl (b_m_stateOf_0 X (d) f fl g gl hh v tx s0 l5 l4 _ ?_)
  exact WP.retI hP_207 rfl rfl h

set_option maxRecDepth 20000 in
theorem b_m_stateNow_0 (X : mm_X) (d : Nat) (f : Nat → Int32) (fl : Nat → Int64) (g : Nat → Nat → Int32) (gl : Nat → Nat → Int64) (hh : Nat → Nat → Option Nat) (v : Nat → Value) (tx : mm_W) (p0 : Int32)  (P : Option Value → mm_W → Prop)
    (h : (¬ (((13 : Int32) + p0) < 0 ∨ 5667 ≤ ((13 : Int32) + p0).toNatClampNeg)) ∧ ((¬ (((16 : Int32) + p0) < 0 ∨ 5667 ≤ ((16 : Int32) + p0).toNatClampNeg)) ∧ ((¬ (((19 : Int32) + p0) < 0 ∨ 5667 ≤ ((19 : Int32) + p0).toNatClampNeg)) ∧ P (some (.int (((((4 : Int32) * ((g 76) ((13 : Int32) + p0).toNatClampNeg)) + ((g 76) ((16 : Int32) + p0).toNatClampNeg)) * (10 : Int32)) + ((g 76) ((19 : Int32) + p0).toNatClampNeg)))) (Wd f fl g gl hh v tx)))) :
    WP X (d + 1) 208 (0, [some (.ref 74), some (.int p0)], [], Wd f fl g gl hh v tx) P := by
  refine WP.run hP_208 5 (c' := (8, [some (.ref 74), some (.int p0)], [.int ((13 : Int32) + p0), .ref 76], Wd f fl g gl hh v tx)) rfl ?_
  refine WP.of (fun _ _ => Ex.iald hP_208 rfl (Wa_76 _ _ _ _ _ _ _) h.1) ?_
  have h1 := h.2
  refine WP.run hP_208 5 (c' := (17, [some (.ref 74), some (.int p0)], [.int ((16 : Int32) + p0), .ref 76, .int ((g 76) ((13 : Int32) + p0).toNatClampNeg)], Wd f fl g gl hh v tx)) rfl ?_
  refine WP.of (fun _ _ => Ex.iald hP_208 rfl (Wa_76 _ _ _ _ _ _ _) h1.1) ?_
  have h2 := h1.2
  refine WP.run hP_208 5 (c' := (26, [some (.ref 74), some (.int p0)], [.int ((19 : Int32) + p0), .ref 76, .int ((g 76) ((16 : Int32) + p0).toNatClampNeg), .int ((g 76) ((13 : Int32) + p0).toNatClampNeg)], Wd f fl g gl hh v tx)) rfl ?_
  refine WP.of (fun _ _ => Ex.iald hP_208 rfl (Wa_76 _ _ _ _ _ _ _) h2.1) ?_
  have h3 := h2.2
  refine WP.call hP_208 hP_206 (as := [.int ((g 76) ((13 : Int32) + p0).toNatClampNeg), .int ((g 76) ((16 : Int32) + p0).toNatClampNeg), .int ((g 76) ((19 : Int32) + p0).toNatClampNeg)]) (pc' := 30) (L' := [some (.ref 74), some (.int p0)]) (st' := []) (w1 := Wd f fl g gl hh v tx) rfl ⟨Nat.le_of_ble_eq_true rfl, Nat.le_of_ble_eq_true rfl⟩ rfl (b_m_stateOf_0 X (d) f fl g gl hh v tx ((g 76) ((13 : Int32) + p0).toNatClampNeg) ((g 76) ((16 : Int32) + p0).toNatClampNeg) ((g 76) ((19 : Int32) + p0).toNatClampNeg) _ ?_)
  exact WP.retI hP_208 rfl rfl h3

set_option maxRecDepth 20000 in
theorem b_m_stateThen_0 (X : mm_X) (d : Nat) (f : Nat → Int32) (fl : Nat → Int64) (g : Nat → Nat → Int32) (gl : Nat → Nat → Int64) (hh : Nat → Nat → Option Nat) (v : Nat → Value) (tx : mm_W) (p0 : Int32)  (P : Option Value → mm_W → Prop)
    (h : WP X (d) 201 (0, [some (.ref 74), some (.int p0), none], [], Wd f fl g gl hh v tx) (fun rv w2 => WP X (d + 1) 209 (5, [some (.ref 74), some (.int p0), none, none, none], rv.toList ++ [], w2) P)) :
    WP X (d + 1) 209 (0, [some (.ref 74), some (.int p0), none, none, none], [], Wd f fl g gl hh v tx) P := by
  refine WP.run hP_209 2 (c' := (2, [some (.ref 74), some (.int p0), none, none, none], [.int p0, .ref 74], Wd f fl g gl hh v tx)) rfl ?_
  refine WP.call hP_209 hP_201 (as := [.ref 74, .int p0]) (pc' := 5) (L' := [some (.ref 74), some (.int p0), none, none, none]) (st' := []) (w1 := Wd f fl g gl hh v tx) rfl ⟨Nat.le_of_ble_eq_true rfl, Nat.le_of_ble_eq_true rfl⟩ rfl ?_
  exact h

set_option maxRecDepth 20000 in
theorem b_m_stateThen_5 (X : mm_X) (d : Nat) (f : Nat → Int32) (fl : Nat → Int64) (g : Nat → Nat → Int32) (gl : Nat → Nat → Int64) (hh : Nat → Nat → Option Nat) (v : Nat → Value) (tx : mm_W) (l1 : Int32) (s0 : Int32)  (P : Option Value → mm_W → Prop)
    (h : ((¬ s0 = 0) → WP X (d) 209 (14, [some (.ref 74), some (.int l1), some (.int 0), some (.int 0), none], [], Wd f fl g gl hh v tx) P) ∧
    ((s0 = 0) → P (some (.int (-1))) (Wd f fl g gl hh v tx))) :
    WP X (d) 209 (5, [some (.ref 74), some (.int l1), none, none, none], [.int s0], Wd f fl g gl hh v tx) P := by
  refine WP.br hP_209 (q := ¬ s0 = 0) (t := 10) (f := 8) (L := [some (.ref 74), some (.int l1), none, none, none]) (st := []) (w := Wd f fl g gl hh v tx) rfl (fun c1 => ?_) (fun c1 => ?_)
  · have h2 := h.1 c1
    refine WP.run hP_209 1 (c' := (11, [some (.ref 74), some (.int l1), none, none, none], [.int 0], Wd f fl g gl hh v tx)) rfl ?_
    refine WP.run hP_209 2 (c' := (13, [some (.ref 74), some (.int l1), some (.int 0), none, none], [.int 0], Wd f fl g gl hh v tx)) rfl ?_
    refine WP.run hP_209 1 (c' := (14, [some (.ref 74), some (.int l1), some (.int 0), some (.int 0), none], [], Wd f fl g gl hh v tx)) rfl ?_
    exact h2
  · have h3 := h.2 (Classical.not_not.mp c1)
    refine WP.run hP_209 1 (c' := (9, [some (.ref 74), some (.int l1), none, none, none], [.int (-1)], Wd f fl g gl hh v tx)) rfl ?_
    exact WP.retI hP_209 rfl rfl h3

set_option maxRecDepth 20000 in
theorem b_m_stateThen_14 (X : mm_X) (d : Nat) (f : Nat → Int32) (fl : Nat → Int64) (g : Nat → Nat → Int32) (gl : Nat → Nat → Int64) (hh : Nat → Nat → Option Nat) (v : Nat → Value) (tx : mm_W) (l1 : Int32) (l2 : Int32) (l3 : Int32)  (P : Option Value → mm_W → Prop)
    (h : ((((g 76) 12) ≤ l3) → ((¬ (((13 : Int32) + l1) < 0 ∨ 5667 ≤ ((13 : Int32) + l1).toNatClampNeg)) ∧ ((¬ (((16 : Int32) + l1) < 0 ∨ 5667 ≤ ((16 : Int32) + l1).toNatClampNeg)) ∧ ((¬ (((19 : Int32) + l1) < 0 ∨ 5667 ≤ ((19 : Int32) + l1).toNatClampNeg)) ∧ WP X (d + 2) 209 (68, [some (.ref 74), some (.int l1), some (.int l2), some (.int (((((4 : Int32) * ((g 76) ((13 : Int32) + l1).toNatClampNeg)) + ((g 76) ((16 : Int32) + l1).toNatClampNeg)) * (10 : Int32)) + ((g 76) ((19 : Int32) + l1).toNatClampNeg))), some (.int 0)], [], Wd f fl g gl hh v tx) P)))) ∧
    ((¬ (((g 76) 12) ≤ l3)) → WP X (d + 1) 198 (0, [some (.ref 74), some (.int l3), some (.int 0), none], [], Wd f fl g gl hh v tx) (fun rv w2 => WP X (d + 2) 209 (33, [some (.ref 74), some (.int l1), some (.int l2), some (.int l3), none], rv.toList ++ [.int l2, .ref 90], w2) P))) :
    WP X (d + 2) 209 (14, [some (.ref 74), some (.int l1), some (.int l2), some (.int l3), none], [], Wd f fl g gl hh v tx) P := by
  refine WP.run hP_209 2 (c' := (16, [some (.ref 74), some (.int l1), some (.int l2), some (.int l3), none], [.ref 74, .int l3], Wd f fl g gl hh v tx)) rfl ?_
  refine WP.call hP_209 hP_130 (as := [.ref 74]) (pc' := 19) (L' := [some (.ref 74), some (.int l1), some (.int l2), some (.int l3), none]) (st' := [.int l3]) (w1 := Wd f fl g gl hh v tx) rfl ⟨Nat.le_of_ble_eq_true rfl, Nat.le_of_ble_eq_true rfl⟩ rfl (b_m_size_0 X (d + 1) f fl g gl hh v tx  _ ?_)
  refine WP.br hP_209 (q := ((g 76) 12) ≤ l3) (t := 59) (f := 22) (L := [some (.ref 74), some (.int l1), some (.int l2), some (.int l3), none]) (st := []) (w := Wd f fl g gl hh v tx) rfl (fun c1 => ?_) (fun c1 => ?_)
  · have h2 := h.1 c1
    refine WP.run hP_209 2 (c' := (61, [some (.ref 74), some (.int l1), some (.int l2), none, none], [.int l1, .ref 74], Wd f fl g gl hh v tx)) rfl ?_
    refine WP.call hP_209 hP_208 (as := [.ref 74, .int l1]) (pc' := 64) (L' := [some (.ref 74), some (.int l1), some (.int l2), none, none]) (st' := []) (w1 := Wd f fl g gl hh v tx) rfl ⟨Nat.le_of_ble_eq_true rfl, Nat.le_of_ble_eq_true rfl⟩ rfl (b_m_stateNow_0 X (d) f fl g gl hh v tx l1 _ ?_)
    refine ⟨h2.1, ?_⟩
    have h3 := h2.2
    refine ⟨h3.1, ?_⟩
    have h4 := h3.2
    refine ⟨h4.1, ?_⟩
    have h5 := h4.2
    refine WP.run hP_209 2 (c' := (66, [some (.ref 74), some (.int l1), some (.int l2), some (.int (((((4 : Int32) * ((g 76) ((13 : Int32) + l1).toNatClampNeg)) + ((g 76) ((16 : Int32) + l1).toNatClampNeg)) * (10 : Int32)) + ((g 76) ((19 : Int32) + l1).toNatClampNeg))), none], [.int 0], Wd f fl g gl hh v tx)) rfl ?_
    refine WP.run hP_209 1 (c' := (68, [some (.ref 74), some (.int l1), some (.int l2), some (.int (((((4 : Int32) * ((g 76) ((13 : Int32) + l1).toNatClampNeg)) + ((g 76) ((16 : Int32) + l1).toNatClampNeg)) * (10 : Int32)) + ((g 76) ((19 : Int32) + l1).toNatClampNeg))), some (.int 0)], [], Wd f fl g gl hh v tx)) rfl ?_
    exact h5
  · have h6 := h.2 c1
    refine WP.run hP_209 6 (c' := (30, [some (.ref 74), some (.int l1), some (.int l2), some (.int l3), none], [.int 0, .int l3, .ref 74, .int l2, .ref 90], Wd f fl g gl hh v tx)) rfl ?_
    refine WP.call hP_209 hP_198 (as := [.ref 74, .int l3, .int 0]) (pc' := 33) (L' := [some (.ref 74), some (.int l1), some (.int l2), some (.int l3), none]) (st' := [.int l2, .ref 90]) (w1 := Wd f fl g gl hh v tx) rfl ⟨Nat.le_of_ble_eq_true rfl, Nat.le_of_ble_eq_true rfl⟩ rfl ?_
    exact h6

set_option maxRecDepth 20000 in
theorem b_m_stateThen_68 (X : mm_X) (d : Nat) (f : Nat → Int32) (fl : Nat → Int64) (g : Nat → Nat → Int32) (gl : Nat → Nat → Int64) (hh : Nat → Nat → Option Nat) (v : Nat → Value) (tx : mm_W) (l1 : Int32) (l2 : Int32) (l3 : Int32) (l4 : Int32)  (P : Option Value → mm_W → Prop)
    (h : ((l2 ≤ l4) → P (some (.int l3)) (Wd f fl g gl hh v tx)) ∧
    ((¬ (l2 ≤ l4)) → ((¬ (l4 < 0 ∨ 12 ≤ l4.toNatClampNeg)) ∧ ((¬ (((39 : Int32) + ((g 90) l4.toNatClampNeg)) < 0 ∨ 5667 ≤ ((39 : Int32) + ((g 90) l4.toNatClampNeg)).toNatClampNeg)) ∧ WP X (d) 207 (0, [some (.ref 74), some (.int l1), some (.int l3), some (.int ((g 76) ((39 : Int32) + ((g 90) l4.toNatClampNeg)).toNatClampNeg)), none, none, none], [], Wd f fl g gl hh v tx) (fun rv w2 => WP X (d + 1) 209 (95, [some (.ref 74), some (.int l1), some (.int l2), some (.int l3), some (.int l4)], rv.toList ++ [], w2) P))))) :
    WP X (d + 1) 209 (68, [some (.ref 74), some (.int l1), some (.int l2), some (.int l3), some (.int l4)], [], Wd f fl g gl hh v tx) P := by
  refine WP.run hP_209 2 (c' := (71, [some (.ref 74), some (.int l1), some (.int l2), some (.int l3), some (.int l4)], [.int l2, .int l4], Wd f fl g gl hh v tx)) rfl ?_
  refine WP.br hP_209 (q := l2 ≤ l4) (t := 102) (f := 74) (L := [some (.ref 74), some (.int l1), some (.int l2), some (.int l3), some (.int l4)]) (st := []) (w := Wd f fl g gl hh v tx) rfl (fun c1 => ?_) (fun c1 => ?_)
  · have h2 := h.1 c1
    refine WP.run hP_209 1 (c' := (103, [none, none, none, some (.int l3), none], [.int l3], Wd f fl g gl hh v tx)) rfl ?_
    exact WP.retI hP_209 rfl rfl h2
  · have h3 := h.2 c1
    refine WP.run hP_209 9 (c' := (89, [some (.ref 74), some (.int l1), some (.int l2), some (.int l3), some (.int l4)], [.int l4, .ref 90, .int 39, .ref 76, .int l3, .int l1, .ref 74], Wd f fl g gl hh v tx)) rfl ?_
    refine WP.of (fun _ _ => Ex.iald hP_209 rfl (Wa_90 _ _ _ _ _ _ _) h3.1) ?_
    have h4 := h3.2
    refine WP.run hP_209 1 (c' := (91, [some (.ref 74), some (.int l1), some (.int l2), some (.int l3), some (.int l4)], [.int ((39 : Int32) + ((g 90) l4.toNatClampNeg)), .ref 76, .int l3, .int l1, .ref 74], Wd f fl g gl hh v tx)) rfl ?_
    refine WP.of (fun _ _ => Ex.iald hP_209 rfl (Wa_76 _ _ _ _ _ _ _) h4.1) ?_
    have h5 := h4.2
    refine WP.call hP_209 hP_207 (as := [.ref 74, .int l1, .int l3, .int ((g 76) ((39 : Int32) + ((g 90) l4.toNatClampNeg)).toNatClampNeg)]) (pc' := 95) (L' := [some (.ref 74), some (.int l1), some (.int l2), some (.int l3), some (.int l4)]) (st' := []) (w1 := Wd f fl g gl hh v tx) rfl ⟨Nat.le_of_ble_eq_true rfl, Nat.le_of_ble_eq_true rfl⟩ rfl ?_
    exact h5

set_option maxRecDepth 20000 in
theorem b_m_stateThen_33 (X : mm_X) (d : Nat) (f : Nat → Int32) (fl : Nat → Int64) (g : Nat → Nat → Int32) (gl : Nat → Nat → Int64) (hh : Nat → Nat → Option Nat) (v : Nat → Value) (tx : mm_W) (l1 : Int32) (l2 : Int32) (l3 : Int32) (s0 : Int32) (s1 : Int32)  (P : Option Value → mm_W → Prop)
    (h : (¬ (s1 < 0 ∨ 12 ≤ s1.toNatClampNeg)) ∧ ((¬ (((l2 + (1 : Int32)) - (1 : Int32)) < 0 ∨ 12 ≤ ((l2 + (1 : Int32)) - (1 : Int32)).toNatClampNeg)) ∧ ((¬ (((31 : Int32) + ((upd (g 90) (s1.toNatClampNeg) s0) ((l2 + (1 : Int32)) - (1 : Int32)).toNatClampNeg)) < 0 ∨ 5667 ≤ ((31 : Int32) + ((upd (g 90) (s1.toNatClampNeg) s0) ((l2 + (1 : Int32)) - (1 : Int32)).toNatClampNeg)).toNatClampNeg)) ∧ WP X (d) 209 (14, [some (.ref 74), some (.int l1), some (.int (l2 + (1 : Int32))), some (.int (l3 + ((g 76) ((31 : Int32) + ((upd (g 90) (s1.toNatClampNeg) s0) ((l2 + (1 : Int32)) - (1 : Int32)).toNatClampNeg)).toNatClampNeg))), none], [], Wd f fl (va_up g 90 (upd (g 90) (s1.toNatClampNeg) s0)) gl hh v tx) P))) :
    WP X (d) 209 (33, [some (.ref 74), some (.int l1), some (.int l2), some (.int l3), none], [.int s0, .int s1, .ref 90], Wd f fl g gl hh v tx) P := by
  refine WP.of (fun _ _ => Ex.iast hP_209 (w2 := Wd f fl (va_up g 90 (upd (g 90) (s1.toNatClampNeg) s0)) gl hh v tx) rfl (Wa_90 _ _ _ _ _ _ _) h.1 (Ws_90 _ _ _ _ _ _ _ _)) ?_
  have h1 := h.2
  refine WP.run hP_209 10 (c' := (51, [some (.ref 74), some (.int l1), some (.int (l2 + (1 : Int32))), some (.int l3), none], [.int ((l2 + (1 : Int32)) - (1 : Int32)), .ref 90, .int 31, .ref 76, .int l3], Wd f fl (va_up g 90 (upd (g 90) (s1.toNatClampNeg) s0)) gl hh v tx)) rfl ?_
  refine WP.of (fun _ _ => Ex.iald hP_209 rfl (Wa_90 _ _ _ _ _ _ _) h1.1) ?_
  have h2 := h1.2
  refine WP.run hP_209 1 (c' := (53, [some (.ref 74), some (.int l1), some (.int (l2 + (1 : Int32))), some (.int l3), none], [.int ((31 : Int32) + ((upd (g 90) (s1.toNatClampNeg) s0) ((l2 + (1 : Int32)) - (1 : Int32)).toNatClampNeg)), .ref 76, .int l3], Wd f fl (va_up g 90 (upd (g 90) (s1.toNatClampNeg) s0)) gl hh v tx)) rfl ?_
  refine WP.of (fun _ _ => Ex.iald hP_209 rfl (Wa_76 _ _ _ _ _ _ _) h2.1) ?_
  have h3 := h2.2
  refine WP.run hP_209 3 (c' := (14, [some (.ref 74), some (.int l1), some (.int (l2 + (1 : Int32))), some (.int (l3 + ((g 76) ((31 : Int32) + ((upd (g 90) (s1.toNatClampNeg) s0) ((l2 + (1 : Int32)) - (1 : Int32)).toNatClampNeg)).toNatClampNeg))), none], [], Wd f fl (va_up g 90 (upd (g 90) (s1.toNatClampNeg) s0)) gl hh v tx)) rfl ?_
  exact h3

set_option maxRecDepth 20000 in
theorem b_m_stateThen_95 (X : mm_X) (d : Nat) (f : Nat → Int32) (fl : Nat → Int64) (g : Nat → Nat → Int32) (gl : Nat → Nat → Int64) (hh : Nat → Nat → Option Nat) (v : Nat → Value) (tx : mm_W) (l1 : Int32) (l2 : Int32) (l3 : Int32) (l4 : Int32) (s0 : Int32)  (P : Option Value → mm_W → Prop)
    (h : WP X (d) 209 (68, [some (.ref 74), some (.int l1), some (.int l2), some (.int s0), some (.int (l4 + (1 : Int32)))], [], Wd f fl g gl hh v tx) P) :
    WP X (d) 209 (95, [some (.ref 74), some (.int l1), some (.int l2), some (.int l3), some (.int l4)], [.int s0], Wd f fl g gl hh v tx) P := by
  refine WP.run hP_209 1 (c' := (96, [some (.ref 74), some (.int l1), some (.int l2), some (.int s0), some (.int l4)], [], Wd f fl g gl hh v tx)) rfl ?_
  refine WP.run hP_209 2 (c' := (68, [some (.ref 74), some (.int l1), some (.int l2), some (.int s0), some (.int (l4 + (1 : Int32)))], [], Wd f fl g gl hh v tx)) rfl ?_
  exact h

set_option maxRecDepth 20000 in
theorem b_m_movesTo_0 (X : mm_X) (d : Nat) (f : Nat → Int32) (fl : Nat → Int64) (g : Nat → Nat → Int32) (gl : Nat → Nat → Int64) (hh : Nat → Nat → Option Nat) (v : Nat → Value) (tx : mm_W) (p0 : Int32) (p1 : Int32)  (P : Option Value → mm_W → Prop)
    (h : (¬ (((13 : Int32) + p0) < 0 ∨ 5667 ≤ ((13 : Int32) + p0).toNatClampNeg)) ∧ ((¬ (((16 : Int32) + p0) < 0 ∨ 5667 ≤ ((16 : Int32) + p0).toNatClampNeg)) ∧ ((¬ (((19 : Int32) + p0) < 0 ∨ 5667 ≤ ((19 : Int32) + p0).toNatClampNeg)) ∧ P none (Wd f fl (va_up (va_up (va_up g 76 (upd (g 76) (((13 : Int32) + p0).toNatClampNeg) ((p1 / (10 : Int32)) / (4 : Int32)))) 76 (upd (upd (g 76) (((13 : Int32) + p0).toNatClampNeg) ((p1 / (10 : Int32)) / (4 : Int32))) (((16 : Int32) + p0).toNatClampNeg) ((p1 / (10 : Int32)) - ((p1 / (10 : Int32)) / (4 : Int32)) * (4 : Int32)))) 76 (upd (upd (upd (g 76) (((13 : Int32) + p0).toNatClampNeg) ((p1 / (10 : Int32)) / (4 : Int32))) (((16 : Int32) + p0).toNatClampNeg) ((p1 / (10 : Int32)) - ((p1 / (10 : Int32)) / (4 : Int32)) * (4 : Int32))) (((19 : Int32) + p0).toNatClampNeg) (p1 - (p1 / (10 : Int32)) * (10 : Int32)))) gl hh v tx)))) :
    WP X (d) 210 (0, [some (.ref 74), some (.int p0), some (.int p1)], [], Wd f fl g gl hh v tx) P := by
  refine WP.run hP_210 10 (c' := (14, [some (.ref 74), some (.int p0), some (.int p1)], [.int ((p1 / (10 : Int32)) / (4 : Int32)), .int ((13 : Int32) + p0), .ref 76], Wd f fl g gl hh v tx)) rfl ?_
  refine WP.of (fun _ _ => Ex.iast hP_210 (w2 := Wd f fl (va_up g 76 (upd (g 76) (((13 : Int32) + p0).toNatClampNeg) ((p1 / (10 : Int32)) / (4 : Int32)))) gl hh v tx) rfl (Wa_76 _ _ _ _ _ _ _) h.1 (Ws_76 _ _ _ _ _ _ _ _)) ?_
  have h1 := h.2
  refine WP.run hP_210 10 (c' := (29, [some (.ref 74), some (.int p0), some (.int p1)], [.int ((p1 / (10 : Int32)) - ((p1 / (10 : Int32)) / (4 : Int32)) * (4 : Int32)), .int ((16 : Int32) + p0), .ref 76], Wd f fl (va_up g 76 (upd (g 76) (((13 : Int32) + p0).toNatClampNeg) ((p1 / (10 : Int32)) / (4 : Int32)))) gl hh v tx)) rfl ?_
  refine WP.of (fun _ _ => Ex.iast hP_210 (w2 := Wd f fl (va_up (va_up g 76 (upd (g 76) (((13 : Int32) + p0).toNatClampNeg) ((p1 / (10 : Int32)) / (4 : Int32)))) 76 (upd (upd (g 76) (((13 : Int32) + p0).toNatClampNeg) ((p1 / (10 : Int32)) / (4 : Int32))) (((16 : Int32) + p0).toNatClampNeg) ((p1 / (10 : Int32)) - ((p1 / (10 : Int32)) / (4 : Int32)) * (4 : Int32)))) gl hh v tx) rfl (Wa_76 _ _ _ _ _ _ _) h1.1 (Ws_76 _ _ _ _ _ _ _ _)) ?_
  have h2 := h1.2
  refine WP.run hP_210 8 (c' := (42, [some (.ref 74), some (.int p0), some (.int p1)], [.int (p1 - (p1 / (10 : Int32)) * (10 : Int32)), .int ((19 : Int32) + p0), .ref 76], Wd f fl (va_up (va_up g 76 (upd (g 76) (((13 : Int32) + p0).toNatClampNeg) ((p1 / (10 : Int32)) / (4 : Int32)))) 76 (upd (upd (g 76) (((13 : Int32) + p0).toNatClampNeg) ((p1 / (10 : Int32)) / (4 : Int32))) (((16 : Int32) + p0).toNatClampNeg) ((p1 / (10 : Int32)) - ((p1 / (10 : Int32)) / (4 : Int32)) * (4 : Int32)))) gl hh v tx)) rfl ?_
  refine WP.of (fun _ _ => Ex.iast hP_210 (w2 := Wd f fl (va_up (va_up (va_up g 76 (upd (g 76) (((13 : Int32) + p0).toNatClampNeg) ((p1 / (10 : Int32)) / (4 : Int32)))) 76 (upd (upd (g 76) (((13 : Int32) + p0).toNatClampNeg) ((p1 / (10 : Int32)) / (4 : Int32))) (((16 : Int32) + p0).toNatClampNeg) ((p1 / (10 : Int32)) - ((p1 / (10 : Int32)) / (4 : Int32)) * (4 : Int32)))) 76 (upd (upd (upd (g 76) (((13 : Int32) + p0).toNatClampNeg) ((p1 / (10 : Int32)) / (4 : Int32))) (((16 : Int32) + p0).toNatClampNeg) ((p1 / (10 : Int32)) - ((p1 / (10 : Int32)) / (4 : Int32)) * (4 : Int32))) (((19 : Int32) + p0).toNatClampNeg) (p1 - (p1 / (10 : Int32)) * (10 : Int32)))) gl hh v tx) rfl (Wa_76 _ _ _ _ _ _ _) h2.1 (Ws_76 _ _ _ _ _ _ _ _)) ?_
  have h3 := h2.2
  exact WP.ret hP_210 (r := none) (w' := Wd f fl (va_up (va_up (va_up g 76 (upd (g 76) (((13 : Int32) + p0).toNatClampNeg) ((p1 / (10 : Int32)) / (4 : Int32)))) 76 (upd (upd (g 76) (((13 : Int32) + p0).toNatClampNeg) ((p1 / (10 : Int32)) / (4 : Int32))) (((16 : Int32) + p0).toNatClampNeg) ((p1 / (10 : Int32)) - ((p1 / (10 : Int32)) / (4 : Int32)) * (4 : Int32)))) 76 (upd (upd (upd (g 76) (((13 : Int32) + p0).toNatClampNeg) ((p1 / (10 : Int32)) / (4 : Int32))) (((16 : Int32) + p0).toNatClampNeg) ((p1 / (10 : Int32)) - ((p1 / (10 : Int32)) / (4 : Int32)) * (4 : Int32))) (((19 : Int32) + p0).toNatClampNeg) (p1 - (p1 / (10 : Int32)) * (10 : Int32)))) gl hh v tx) rfl h3

set_option maxRecDepth 20000 in
theorem b_m_where_0 (X : mm_X) (d : Nat) (f : Nat → Int32) (fl : Nat → Int64) (g : Nat → Nat → Int32) (gl : Nat → Nat → Int64) (hh : Nat → Nat → Option Nat) (v : Nat → Value) (tx : mm_W) (p0 : Int32) (p1 : Int32)  (P : Option Value → mm_W → Prop)
    (h : (((0 : Int32) ≤ p0 ∧ p0 ≤ (((g 76) 56) - (1 : Int32))) → ((((0 : Int32) ≤ p1 ∧ p1 ≤ (2 : Int32)) → WP X (d + 1) 209 (0, [some (.ref 74), some (.int p0), none, none, none], [], Wd f fl g gl hh v tx) (fun rv w2 => WP X (d + 2) 211 (24, [some (.ref 74), some (.int p0), some (.int p1), none], rv.toList ++ [], w2) P)) ∧
      ((¬ ((0 : Int32) ≤ p1 ∧ p1 ≤ (2 : Int32))) → P (some (.int (-1))) (Wd f fl g gl hh v tx)))) ∧
    ((¬ ((0 : Int32) ≤ p0 ∧ p0 ≤ (((g 76) 56) - (1 : Int32)))) → P (some (.int (-1))) (Wd f fl g gl hh v tx))) :
    WP X (d + 2) 211 (0, [some (.ref 74), some (.int p0), some (.int p1), none], [], Wd f fl g gl hh v tx) P := by
  refine WP.run hP_211 2 (c' := (2, [some (.ref 74), some (.int p0), some (.int p1), none], [.int p0, .ref 74], Wd f fl g gl hh v tx)) rfl ?_
  refine WP.call hP_211 hP_132 (as := [.ref 74, .int p0]) (pc' := 5) (L' := [some (.ref 74), some (.int p0), some (.int p1), none]) (st' := []) (w1 := Wd f fl g gl hh v tx) rfl ⟨Nat.le_of_ble_eq_true rfl, Nat.le_of_ble_eq_true rfl⟩ rfl (b_m_isShip_0 X (d) f fl g gl hh v tx p0 _ ?_)
  refine ⟨fun c1 => ?_, fun c1 => ?_⟩
  · have h2 := h.1 c1
    refine WP.run hP_211 4 (c' := (11, [some (.ref 74), some (.int p0), some (.int p1), none], [.int 2, .int 0, .int p1], Wd f fl g gl hh v tx)) rfl ?_
    refine WP.call hP_211 hP_116 (as := [.int p1, .int 0, .int 2]) (pc' := 14) (L' := [some (.ref 74), some (.int p0), some (.int p1), none]) (st' := []) (w1 := Wd f fl g gl hh v tx) rfl ⟨Nat.le_of_ble_eq_true rfl, Nat.le_of_ble_eq_true rfl⟩ rfl (b_lies_m X (d + 1) f fl g gl hh v tx p1 0 2 _ ?_)
    refine ⟨fun c3 => ?_, fun c3 => ?_⟩
    · have h4 := h2.1 c3
      refine WP.run hP_211 3 (c' := (21, [some (.ref 74), some (.int p0), some (.int p1), none], [.int p0, .ref 74], Wd f fl g gl hh v tx)) rfl ?_
      refine WP.call hP_211 hP_209 (as := [.ref 74, .int p0]) (pc' := 24) (L' := [some (.ref 74), some (.int p0), some (.int p1), none]) (st' := []) (w1 := Wd f fl g gl hh v tx) rfl ⟨Nat.le_of_ble_eq_true rfl, Nat.le_of_ble_eq_true rfl⟩ rfl ?_
      exact h4
    · have h5 := h2.2 c3
      refine WP.run hP_211 2 (c' := (18, [none, none, none, none], [.int (-1)], Wd f fl g gl hh v tx)) rfl ?_
      exact WP.retI hP_211 rfl rfl h5
  · have h6 := h.2 c1
    refine WP.run hP_211 2 (c' := (18, [none, none, none, none], [.int (-1)], Wd f fl g gl hh v tx)) rfl ?_
    exact WP.retI hP_211 rfl rfl h6

set_option maxRecDepth 20000 in
theorem b_m_where_24 (X : mm_X) (d : Nat) (f : Nat → Int32) (fl : Nat → Int64) (g : Nat → Nat → Int32) (gl : Nat → Nat → Int64) (hh : Nat → Nat → Option Nat) (v : Nat → Value) (tx : mm_W) (l1 : Int32) (l2 : Int32) (s0 : Int32)  (P : Option Value → mm_W → Prop)
    (h : ((¬ s0 = (-1)) → (((¬ l2 = 0) → (((¬ l2 = 1) → P (some (.int (s0 - (s0 / (10 : Int32)) * (10 : Int32)))) (Wd f fl g gl hh v tx)) ∧
        ((l2 = 1) → P (some (.int ((s0 / (10 : Int32)) - ((s0 / (10 : Int32)) / (4 : Int32)) * (4 : Int32)))) (Wd f fl g gl hh v tx)))) ∧
      ((l2 = 0) → P (some (.int ((s0 / (10 : Int32)) / (4 : Int32)))) (Wd f fl g gl hh v tx)))) ∧
    ((s0 = (-1)) → P (some (.int (-1))) (Wd f fl g gl hh v tx))) :
    WP X (d) 211 (24, [some (.ref 74), some (.int l1), some (.int l2), none], [.int s0], Wd f fl g gl hh v tx) P := by
  refine WP.run hP_211 3 (c' := (27, [some (.ref 74), some (.int l1), some (.int l2), some (.int s0)], [.int (-1), .int s0], Wd f fl g gl hh v tx)) rfl ?_
  refine WP.br hP_211 (q := ¬ s0 = (-1)) (t := 32) (f := 30) (L := [some (.ref 74), some (.int l1), some (.int l2), some (.int s0)]) (st := []) (w := Wd f fl g gl hh v tx) rfl (fun c1 => ?_) (fun c1 => ?_)
  · have h2 := h.1 c1
    refine WP.run hP_211 1 (c' := (33, [none, none, some (.int l2), some (.int s0)], [.int l2], Wd f fl g gl hh v tx)) rfl ?_
    refine WP.br hP_211 (q := ¬ l2 = 0) (t := 45) (f := 36) (L := [none, none, some (.int l2), some (.int s0)]) (st := []) (w := Wd f fl g gl hh v tx) rfl (fun c3 => ?_) (fun c3 => ?_)
    · have h4 := h2.1 c3
      refine WP.run hP_211 2 (c' := (47, [none, none, some (.int l2), some (.int s0)], [.int 1, .int l2], Wd f fl g gl hh v tx)) rfl ?_
      refine WP.br hP_211 (q := ¬ l2 = 1) (t := 59) (f := 50) (L := [none, none, some (.int l2), some (.int s0)]) (st := []) (w := Wd f fl g gl hh v tx) rfl (fun c5 => ?_) (fun c5 => ?_)
      · have h6 := h4.1 c5
        refine WP.run hP_211 3 (c' := (63, [none, none, none, some (.int s0)], [.int (s0 - (s0 / (10 : Int32)) * (10 : Int32))], Wd f fl g gl hh v tx)) rfl ?_
        exact WP.retI hP_211 rfl rfl h6
      · have h7 := h4.2 (Classical.not_not.mp c5)
        refine WP.run hP_211 6 (c' := (63, [none, none, some (.int l2), some (.int s0)], [.int ((s0 / (10 : Int32)) - ((s0 / (10 : Int32)) / (4 : Int32)) * (4 : Int32))], Wd f fl g gl hh v tx)) rfl ?_
        exact WP.retI hP_211 rfl rfl h7
    · have h8 := h2.2 (Classical.not_not.mp c3)
      refine WP.run hP_211 6 (c' := (63, [none, none, some (.int l2), some (.int s0)], [.int ((s0 / (10 : Int32)) / (4 : Int32))], Wd f fl g gl hh v tx)) rfl ?_
      exact WP.retI hP_211 rfl rfl h8
  · have h9 := h.2 (Classical.not_not.mp c1)
    refine WP.run hP_211 1 (c' := (31, [some (.ref 74), some (.int l1), some (.int l2), some (.int s0)], [.int (-1)], Wd f fl g gl hh v tx)) rfl ?_
    exact WP.retI hP_211 rfl rfl h9

set_option maxRecDepth 20000 in
theorem b_m_meetings_0 (X : mm_X) (d : Nat) (f : Nat → Int32) (fl : Nat → Int64) (g : Nat → Nat → Int32) (gl : Nat → Nat → Int64) (hh : Nat → Nat → Option Nat) (v : Nat → Value) (tx : mm_W) (p0 : Int32)  (P : Option Value → mm_W → Prop)
    (h : (((-1) ≤ p0) → WP X (d) 212 (11, [some (.ref 74), some (.int p0), some (.int 0), some (.int 0), none], [], Wd f fl g gl hh v tx) P) ∧
    ((¬ ((-1) ≤ p0)) → P (some (.int (-1))) (Wd f fl g gl hh v tx))) :
    WP X (d) 212 (0, [some (.ref 74), some (.int p0), none, none, none], [], Wd f fl g gl hh v tx) P := by
  refine WP.run hP_212 2 (c' := (2, [some (.ref 74), some (.int p0), none, none, none], [.int (-1), .int p0], Wd f fl g gl hh v tx)) rfl ?_
  refine WP.br hP_212 (q := (-1) ≤ p0) (t := 7) (f := 5) (L := [some (.ref 74), some (.int p0), none, none, none]) (st := []) (w := Wd f fl g gl hh v tx) rfl (fun c1 => ?_) (fun c1 => ?_)
  · have h2 := h.1 c1
    refine WP.run hP_212 1 (c' := (8, [some (.ref 74), some (.int p0), none, none, none], [.int 0], Wd f fl g gl hh v tx)) rfl ?_
    refine WP.run hP_212 2 (c' := (10, [some (.ref 74), some (.int p0), some (.int 0), none, none], [.int 0], Wd f fl g gl hh v tx)) rfl ?_
    refine WP.run hP_212 1 (c' := (11, [some (.ref 74), some (.int p0), some (.int 0), some (.int 0), none], [], Wd f fl g gl hh v tx)) rfl ?_
    exact h2
  · have h3 := h.2 c1
    refine WP.run hP_212 1 (c' := (6, [some (.ref 74), some (.int p0), none, none, none], [.int (-1)], Wd f fl g gl hh v tx)) rfl ?_
    exact WP.retI hP_212 rfl rfl h3

set_option maxRecDepth 20000 in
theorem b_m_meetings_11 (X : mm_X) (d : Nat) (f : Nat → Int32) (fl : Nat → Int64) (g : Nat → Nat → Int32) (gl : Nat → Nat → Int64) (hh : Nat → Nat → Option Nat) (v : Nat → Value) (tx : mm_W) (l1 : Int32) (l2 : Int32) (l3 : Int32)  (P : Option Value → mm_W → Prop)
    (h : ((((g 76) 56) ≤ l3) → (((¬ l1 = (-1)) → P (some (.int (-1))) (Wd f fl g gl hh v tx)) ∧
      ((l1 = (-1)) → P (some (.int l2)) (Wd f fl g gl hh v tx)))) ∧
    ((¬ (((g 76) 56) ≤ l3)) → WP X (d) 212 (27, [some (.ref 74), some (.int l1), some (.int l2), some (.int l3), some (.int (l3 + (1 : Int32)))], [], Wd f fl g gl hh v tx) P)) :
    WP X (d) 212 (11, [some (.ref 74), some (.int l1), some (.int l2), some (.int l3), none], [], Wd f fl g gl hh v tx) P := by
  refine WP.run hP_212 4 (c' := (18, [some (.ref 74), some (.int l1), some (.int l2), some (.int l3), none], [.int 56, .ref 76, .int l3], Wd f fl g gl hh v tx)) rfl ?_
  refine WP.of (fun _ _ => Ex.iald hP_212 rfl (Wa_76 _ _ _ _ _ _ _) (by decide)) ?_
  show WP X _ 212 (19, [some (.ref 74), some (.int l1), some (.int l2), some (.int l3), none], [.int ((g 76) 56), .int l3], Wd f fl g gl hh v tx) P
  refine WP.br hP_212 (q := ((g 76) 56) ≤ l3) (t := 96) (f := 22) (L := [some (.ref 74), some (.int l1), some (.int l2), some (.int l3), none]) (st := []) (w := Wd f fl g gl hh v tx) rfl (fun c1 => ?_) (fun c1 => ?_)
  · have h2 := h.1 c1
    refine WP.run hP_212 2 (c' := (98, [none, some (.int l1), some (.int l2), none, none], [.int (-1), .int l1], Wd f fl g gl hh v tx)) rfl ?_
    refine WP.br hP_212 (q := ¬ l1 = (-1)) (t := 105) (f := 101) (L := [none, some (.int l1), some (.int l2), none, none]) (st := []) (w := Wd f fl g gl hh v tx) rfl (fun c3 => ?_) (fun c3 => ?_)
    · have h4 := h2.1 c3
      refine WP.run hP_212 1 (c' := (106, [none, none, none, none, none], [.int (-1)], Wd f fl g gl hh v tx)) rfl ?_
      exact WP.retI hP_212 rfl rfl h4
    · have h5 := h2.2 (Classical.not_not.mp c3)
      refine WP.run hP_212 2 (c' := (106, [none, some (.int l1), some (.int l2), none, none], [.int l2], Wd f fl g gl hh v tx)) rfl ?_
      exact WP.retI hP_212 rfl rfl h5
  · have h6 := h.2 c1
    refine WP.run hP_212 4 (c' := (27, [some (.ref 74), some (.int l1), some (.int l2), some (.int l3), some (.int (l3 + (1 : Int32)))], [], Wd f fl g gl hh v tx)) rfl ?_
    exact h6

set_option maxRecDepth 20000 in
theorem b_m_meetings_27 (X : mm_X) (d : Nat) (f : Nat → Int32) (fl : Nat → Int64) (g : Nat → Nat → Int32) (gl : Nat → Nat → Int64) (hh : Nat → Nat → Option Nat) (v : Nat → Value) (tx : mm_W) (l1 : Int32) (l2 : Int32) (l3 : Int32) (l4 : Int32)  (P : Option Value → mm_W → Prop)
    (h : ((((g 76) 56) ≤ l4) → WP X (d + 1) 212 (11, [some (.ref 74), some (.int l1), some (.int l2), some (.int (l3 + (1 : Int32))), none], [], Wd f fl g gl hh v tx) P) ∧
    ((¬ (((g 76) 56) ≤ l4)) → WP X (d) 211 (0, [some (.ref 74), some (.int l3), some (.int 0), none], [], Wd f fl g gl hh v tx) (fun rv w2 => WP X (d + 1) 212 (45, [some (.ref 74), some (.int l1), some (.int l2), some (.int l3), some (.int l4)], rv.toList ++ [], w2) P))) :
    WP X (d + 1) 212 (27, [some (.ref 74), some (.int l1), some (.int l2), some (.int l3), some (.int l4)], [], Wd f fl g gl hh v tx) P := by
  refine WP.run hP_212 4 (c' := (35, [some (.ref 74), some (.int l1), some (.int l2), some (.int l3), some (.int l4)], [.int 56, .ref 76, .int l4], Wd f fl g gl hh v tx)) rfl ?_
  refine WP.of (fun _ _ => Ex.iald hP_212 rfl (Wa_76 _ _ _ _ _ _ _) (by decide)) ?_
  show WP X _ 212 (36, [some (.ref 74), some (.int l1), some (.int l2), some (.int l3), some (.int l4)], [.int ((g 76) 56), .int l4], Wd f fl g gl hh v tx) P
  refine WP.br hP_212 (q := ((g 76) 56) ≤ l4) (t := 90) (f := 39) (L := [some (.ref 74), some (.int l1), some (.int l2), some (.int l3), some (.int l4)]) (st := []) (w := Wd f fl g gl hh v tx) rfl (fun c1 => ?_) (fun c1 => ?_)
  · have h2 := h.1 c1
    refine WP.run hP_212 2 (c' := (11, [some (.ref 74), some (.int l1), some (.int l2), some (.int (l3 + (1 : Int32))), none], [], Wd f fl g gl hh v tx)) rfl ?_
    exact h2
  · have h3 := h.2 c1
    refine WP.run hP_212 3 (c' := (42, [some (.ref 74), some (.int l1), some (.int l2), some (.int l3), some (.int l4)], [.int 0, .int l3, .ref 74], Wd f fl g gl hh v tx)) rfl ?_
    refine WP.call hP_212 hP_211 (as := [.ref 74, .int l3, .int 0]) (pc' := 45) (L' := [some (.ref 74), some (.int l1), some (.int l2), some (.int l3), some (.int l4)]) (st' := []) (w1 := Wd f fl g gl hh v tx) rfl ⟨Nat.le_of_ble_eq_true rfl, Nat.le_of_ble_eq_true rfl⟩ rfl ?_
    exact h3

set_option maxRecDepth 20000 in
theorem b_m_meetings_45 (X : mm_X) (d : Nat) (f : Nat → Int32) (fl : Nat → Int64) (g : Nat → Nat → Int32) (gl : Nat → Nat → Int64) (hh : Nat → Nat → Option Nat) (v : Nat → Value) (tx : mm_W) (l1 : Int32) (l2 : Int32) (l3 : Int32) (l4 : Int32) (s0 : Int32)  (P : Option Value → mm_W → Prop)
    (h : ((s0 = (-1)) → WP X (d + 1) 212 (27, [some (.ref 74), some (.int l1), some (.int l2), some (.int l3), some (.int (l4 + (1 : Int32)))], [], Wd f fl g gl hh v tx) P) ∧
    ((¬ s0 = (-1)) → WP X (d) 211 (0, [some (.ref 74), some (.int l3), some (.int 0), none], [], Wd f fl g gl hh v tx) (fun rv w2 => WP X (d + 1) 212 (55, [some (.ref 74), some (.int l1), some (.int l2), some (.int l3), some (.int l4)], rv.toList ++ [], w2) P))) :
    WP X (d + 1) 212 (45, [some (.ref 74), some (.int l1), some (.int l2), some (.int l3), some (.int l4)], [.int s0], Wd f fl g gl hh v tx) P := by
  refine WP.run hP_212 1 (c' := (46, [some (.ref 74), some (.int l1), some (.int l2), some (.int l3), some (.int l4)], [.int (-1), .int s0], Wd f fl g gl hh v tx)) rfl ?_
  refine WP.br hP_212 (q := s0 = (-1)) (t := 84) (f := 49) (L := [some (.ref 74), some (.int l1), some (.int l2), some (.int l3), some (.int l4)]) (st := []) (w := Wd f fl g gl hh v tx) rfl (fun c1 => ?_) (fun c1 => ?_)
  · have h2 := h.1 c1
    refine WP.run hP_212 2 (c' := (27, [some (.ref 74), some (.int l1), some (.int l2), some (.int l3), some (.int (l4 + (1 : Int32)))], [], Wd f fl g gl hh v tx)) rfl ?_
    exact h2
  · have h3 := h.2 c1
    refine WP.run hP_212 3 (c' := (52, [some (.ref 74), some (.int l1), some (.int l2), some (.int l3), some (.int l4)], [.int 0, .int l3, .ref 74], Wd f fl g gl hh v tx)) rfl ?_
    refine WP.call hP_212 hP_211 (as := [.ref 74, .int l3, .int 0]) (pc' := 55) (L' := [some (.ref 74), some (.int l1), some (.int l2), some (.int l3), some (.int l4)]) (st' := []) (w1 := Wd f fl g gl hh v tx) rfl ⟨Nat.le_of_ble_eq_true rfl, Nat.le_of_ble_eq_true rfl⟩ rfl ?_
    exact h3

set_option maxRecDepth 20000 in
theorem b_m_meetings_55 (X : mm_X) (d : Nat) (f : Nat → Int32) (fl : Nat → Int64) (g : Nat → Nat → Int32) (gl : Nat → Nat → Int64) (hh : Nat → Nat → Option Nat) (v : Nat → Value) (tx : mm_W) (l1 : Int32) (l2 : Int32) (l3 : Int32) (l4 : Int32) (s0 : Int32)  (P : Option Value → mm_W → Prop)
    (h : WP X (d) 211 (0, [some (.ref 74), some (.int l4), some (.int 0), none], [], Wd f fl g gl hh v tx) (fun rv w2 => WP X (d + 1) 212 (62, [some (.ref 74), some (.int l1), some (.int l2), some (.int l3), some (.int l4)], rv.toList ++ [.int s0], w2) P)) :
    WP X (d + 1) 212 (55, [some (.ref 74), some (.int l1), some (.int l2), some (.int l3), some (.int l4)], [.int s0], Wd f fl g gl hh v tx) P := by
  refine WP.run hP_212 3 (c' := (59, [some (.ref 74), some (.int l1), some (.int l2), some (.int l3), some (.int l4)], [.int 0, .int l4, .ref 74, .int s0], Wd f fl g gl hh v tx)) rfl ?_
  refine WP.call hP_212 hP_211 (as := [.ref 74, .int l4, .int 0]) (pc' := 62) (L' := [some (.ref 74), some (.int l1), some (.int l2), some (.int l3), some (.int l4)]) (st' := [.int s0]) (w1 := Wd f fl g gl hh v tx) rfl ⟨Nat.le_of_ble_eq_true rfl, Nat.le_of_ble_eq_true rfl⟩ rfl ?_
  exact h

set_option maxRecDepth 20000 in
theorem b_m_meetings_62 (X : mm_X) (d : Nat) (f : Nat → Int32) (fl : Nat → Int64) (g : Nat → Nat → Int32) (gl : Nat → Nat → Int64) (hh : Nat → Nat → Option Nat) (v : Nat → Value) (tx : mm_W) (l1 : Int32) (l2 : Int32) (l3 : Int32) (l4 : Int32) (s0 : Int32) (s1 : Int32)  (P : Option Value → mm_W → Prop)
    (h : ((s1 = s0) → (((¬ l2 = l1) → WP X (d) 212 (27, [some (.ref 74), some (.int l1), some (.int (l2 + (1 : Int32))), some (.int l3), some (.int (l4 + (1 : Int32)))], [], Wd f fl g gl hh v tx) P) ∧
      ((l2 = l1) → P (some (.int (((10 : Int32) * l3) + l4))) (Wd f fl g gl hh v tx)))) ∧
    ((¬ s1 = s0) → WP X (d) 212 (27, [some (.ref 74), some (.int l1), some (.int l2), some (.int l3), some (.int (l4 + (1 : Int32)))], [], Wd f fl g gl hh v tx) P)) :
    WP X (d) 212 (62, [some (.ref 74), some (.int l1), some (.int l2), some (.int l3), some (.int l4)], [.int s0, .int s1], Wd f fl g gl hh v tx) P := by
  refine WP.br hP_212 (q := s1 = s0) (t := 68) (f := 65) (L := [some (.ref 74), some (.int l1), some (.int l2), some (.int l3), some (.int l4)]) (st := []) (w := Wd f fl g gl hh v tx) rfl (fun c1 => ?_) (fun c1 => ?_)
  · have h2 := h.1 c1
    refine WP.run hP_212 2 (c' := (70, [some (.ref 74), some (.int l1), some (.int l2), some (.int l3), some (.int l4)], [.int l1, .int l2], Wd f fl g gl hh v tx)) rfl ?_
    refine WP.br hP_212 (q := ¬ l2 = l1) (t := 81) (f := 73) (L := [some (.ref 74), some (.int l1), some (.int l2), some (.int l3), some (.int l4)]) (st := []) (w := Wd f fl g gl hh v tx) rfl (fun c3 => ?_) (fun c3 => ?_)
    · have h4 := h2.1 c3
      refine WP.run hP_212 1 (c' := (84, [some (.ref 74), some (.int l1), some (.int (l2 + (1 : Int32))), some (.int l3), some (.int l4)], [], Wd f fl g gl hh v tx)) rfl ?_
      refine WP.run hP_212 2 (c' := (27, [some (.ref 74), some (.int l1), some (.int (l2 + (1 : Int32))), some (.int l3), some (.int (l4 + (1 : Int32)))], [], Wd f fl g gl hh v tx)) rfl ?_
      exact h4
    · have h5 := h2.2 (Classical.not_not.mp c3)
      refine WP.run hP_212 5 (c' := (80, [some (.ref 74), some (.int l1), some (.int l2), some (.int l3), some (.int l4)], [.int (((10 : Int32) * l3) + l4)], Wd f fl g gl hh v tx)) rfl ?_
      exact WP.retI hP_212 rfl rfl h5
  · have h6 := h.2 c1
    refine WP.run hP_212 3 (c' := (27, [some (.ref 74), some (.int l1), some (.int l2), some (.int l3), some (.int (l4 + (1 : Int32)))], [], Wd f fl g gl hh v tx)) rfl ?_
    exact h6

set_option maxRecDepth 20000 in
theorem b_m_leftWith_0 (X : mm_X) (d : Nat) (f : Nat → Int32) (fl : Nat → Int64) (g : Nat → Nat → Int32) (gl : Nat → Nat → Int64) (hh : Nat → Nat → Option Nat) (v : Nat → Value) (tx : mm_W) (p0 : Int32) (p1 : Int32)  (P : Option Value → mm_W → Prop)
    (h : (¬ (((39 : Int32) + p1) < 0 ∨ 5667 ≤ ((39 : Int32) + p1).toNatClampNeg)) ∧ ((¬ ((((6 : Int32) * p0) + ((g 76) ((39 : Int32) + p1).toNatClampNeg)) < 0 ∨ 6000 ≤ (((6 : Int32) * p0) + ((g 76) ((39 : Int32) + p1).toNatClampNeg)).toNatClampNeg)) ∧ ((¬ (((g 91) (((6 : Int32) * p0) + ((g 76) ((39 : Int32) + p1).toNatClampNeg)).toNatClampNeg) < 0 ∨ 1000 ≤ ((g 91) (((6 : Int32) * p0) + ((g 76) ((39 : Int32) + p1).toNatClampNeg)).toNatClampNeg).toNatClampNeg)) ∧ ((¬ (((31 : Int32) + p1) < 0 ∨ 5667 ≤ ((31 : Int32) + p1).toNatClampNeg)) ∧ ((((((g 92) ((g 91) (((6 : Int32) * p0) + ((g 76) ((39 : Int32) + p1).toNatClampNeg)).toNatClampNeg).toNatClampNeg) + ((g 76) ((31 : Int32) + p1).toNatClampNeg)) ≤ (1000000 : Int32)) → P (some (.int (((g 92) ((g 91) (((6 : Int32) * p0) + ((g 76) ((39 : Int32) + p1).toNatClampNeg)).toNatClampNeg).toNatClampNeg) + ((g 76) ((31 : Int32) + p1).toNatClampNeg)))) (Wd f fl g gl hh v tx)) ∧
    ((¬ ((((g 92) ((g 91) (((6 : Int32) * p0) + ((g 76) ((39 : Int32) + p1).toNatClampNeg)).toNatClampNeg).toNatClampNeg) + ((g 76) ((31 : Int32) + p1).toNatClampNeg)) ≤ (1000000 : Int32))) → P (some (.int 1000000)) (Wd f fl g gl hh v tx))))))) :
    WP X (d + 1) 213 (0, [some (.ref 74), some (.int p0), some (.int p1)], [], Wd f fl g gl hh v tx) P := by
  refine WP.run hP_213 13 (c' := (22, [some (.ref 74), some (.int p0), some (.int p1)], [.int ((39 : Int32) + p1), .ref 76, .int ((6 : Int32) * p0), .ref 91, .ref 92, .int 1000000], Wd f fl g gl hh v tx)) rfl ?_
  refine WP.of (fun _ _ => Ex.iald hP_213 rfl (Wa_76 _ _ _ _ _ _ _) h.1) ?_
  have h1 := h.2
  refine WP.run hP_213 1 (c' := (24, [some (.ref 74), some (.int p0), some (.int p1)], [.int (((6 : Int32) * p0) + ((g 76) ((39 : Int32) + p1).toNatClampNeg)), .ref 91, .ref 92, .int 1000000], Wd f fl g gl hh v tx)) rfl ?_
  refine WP.of (fun _ _ => Ex.iald hP_213 rfl (Wa_91 _ _ _ _ _ _ _) h1.1) ?_
  have h2 := h1.2
  refine WP.of (fun _ _ => Ex.iald hP_213 rfl (Wa_92 _ _ _ _ _ _ _) h2.1) ?_
  have h3 := h2.2
  refine WP.run hP_213 5 (c' := (34, [some (.ref 74), some (.int p0), some (.int p1)], [.int ((31 : Int32) + p1), .ref 76, .int ((g 92) ((g 91) (((6 : Int32) * p0) + ((g 76) ((39 : Int32) + p1).toNatClampNeg)).toNatClampNeg).toNatClampNeg), .int 1000000], Wd f fl g gl hh v tx)) rfl ?_
  refine WP.of (fun _ _ => Ex.iald hP_213 rfl (Wa_76 _ _ _ _ _ _ _) h3.1) ?_
  have h4 := h3.2
  refine WP.run hP_213 1 (c' := (36, [some (.ref 74), some (.int p0), some (.int p1)], [.int (((g 92) ((g 91) (((6 : Int32) * p0) + ((g 76) ((39 : Int32) + p1).toNatClampNeg)).toNatClampNeg).toNatClampNeg) + ((g 76) ((31 : Int32) + p1).toNatClampNeg)), .int 1000000], Wd f fl g gl hh v tx)) rfl ?_
  refine WP.call hP_213 hP_117 (as := [.int 1000000, .int (((g 92) ((g 91) (((6 : Int32) * p0) + ((g 76) ((39 : Int32) + p1).toNatClampNeg)).toNatClampNeg).toNatClampNeg) + ((g 76) ((31 : Int32) + p1).toNatClampNeg))]) (pc' := 39) (L' := [some (.ref 74), some (.int p0), some (.int p1)]) (st' := []) (w1 := Wd f fl g gl hh v tx) rfl ⟨Nat.le_of_ble_eq_true rfl, Nat.le_of_ble_eq_true rfl⟩ rfl (b_m_lesser_0 X (d) f fl g gl hh v tx 1000000 (((g 92) ((g 91) (((6 : Int32) * p0) + ((g 76) ((39 : Int32) + p1).toNatClampNeg)).toNatClampNeg).toNatClampNeg) + ((g 76) ((31 : Int32) + p1).toNatClampNeg)) _ ?_)
  refine ⟨fun c5 => ?_, fun c5 => ?_⟩
  · have h6 := h4.1 c5
    exact WP.retI hP_213 rfl rfl h6
  · have h7 := h4.2 c5
    exact WP.retI hP_213 rfl rfl h7

set_option maxRecDepth 20000 in
theorem b_m_laysPlan_0 (X : mm_X) (d : Nat) (f : Nat → Int32) (fl : Nat → Int64) (g : Nat → Nat → Int32) (gl : Nat → Nat → Int64) (hh : Nat → Nat → Option Nat) (v : Nat → Value) (tx : mm_W) (p0 : Int32) (p1 : Int32)  (P : Option Value → mm_W → Prop)
    (h : WP X (d) 214 (2, [some (.ref 74), some (.int p0), some (.int p1), some (.int 0), none, none, none], [], Wd f fl g gl hh v tx) P) :
    WP X (d) 214 (0, [some (.ref 74), some (.int p0), some (.int p1), none, none, none, none], [], Wd f fl g gl hh v tx) P := by
  refine WP.run hP_214 2 (c' := (2, [some (.ref 74), some (.int p0), some (.int p1), some (.int 0), none, none, none], [], Wd f fl g gl hh v tx)) rfl ?_
  exact h

set_option maxRecDepth 20000 in
theorem b_m_laysPlan_2 (X : mm_X) (d : Nat) (f : Nat → Int32) (fl : Nat → Int64) (g : Nat → Nat → Int32) (gl : Nat → Nat → Int64) (hh : Nat → Nat → Option Nat) (v : Nat → Value) (tx : mm_W) (l1 : Int32) (l2 : Int32) (l3 : Int32)  (P : Option Value → mm_W → Prop)
    (h : ((1000 ≤ l3) → WP X (d) 214 (75, [some (.ref 74), none, none, some (.int 1), none, none, none], [], Wd f fl g gl hh v tx) P) ∧
    ((¬ (1000 ≤ l3)) → (((¬ ((l3 / (10 : Int32)) / (4 : Int32)) = l2) → ((¬ (l3 < 0 ∨ 1000 ≤ l3.toNatClampNeg)) ∧ WP X (d) 214 (34, [some (.ref 74), some (.int l1), some (.int l2), some (.int l3), some (.int 0), none, none], [], Wd f fl (va_up g 92 (upd (g 92) (l3.toNatClampNeg) 1000000)) gl hh v tx) P)) ∧
      ((((l3 / (10 : Int32)) / (4 : Int32)) = l2) → ((¬ (l3 < 0 ∨ 1000 ≤ l3.toNatClampNeg)) ∧ WP X (d) 214 (34, [some (.ref 74), some (.int l1), some (.int l2), some (.int l3), some (.int 0), none, none], [], Wd f fl (va_up g 92 (upd (g 92) (l3.toNatClampNeg) 0)) gl hh v tx) P))))) :
    WP X (d) 214 (2, [some (.ref 74), some (.int l1), some (.int l2), some (.int l3), none, none, none], [], Wd f fl g gl hh v tx) P := by
  refine WP.run hP_214 2 (c' := (6, [some (.ref 74), some (.int l1), some (.int l2), some (.int l3), none, none, none], [.int 1000, .int l3], Wd f fl g gl hh v tx)) rfl ?_
  refine WP.br hP_214 (q := 1000 ≤ l3) (t := 73) (f := 9) (L := [some (.ref 74), some (.int l1), some (.int l2), some (.int l3), none, none, none]) (st := []) (w := Wd f fl g gl hh v tx) rfl (fun c1 => ?_) (fun c1 => ?_)
  · have h2 := h.1 c1
    refine WP.run hP_214 1 (c' := (74, [some (.ref 74), none, none, none, none, none, none], [.int 1], Wd f fl g gl hh v tx)) rfl ?_
    refine WP.run hP_214 1 (c' := (75, [some (.ref 74), none, none, some (.int 1), none, none, none], [], Wd f fl g gl hh v tx)) rfl ?_
    exact h2
  · have h3 := h.2 c1
    refine WP.run hP_214 9 (c' := (21, [some (.ref 74), some (.int l1), some (.int l2), some (.int l3), none, none, none], [.int l2, .int ((l3 / (10 : Int32)) / (4 : Int32)), .int l3, .ref 92], Wd f fl g gl hh v tx)) rfl ?_
    refine WP.br hP_214 (q := ¬ ((l3 / (10 : Int32)) / (4 : Int32)) = l2) (t := 28) (f := 24) (L := [some (.ref 74), some (.int l1), some (.int l2), some (.int l3), none, none, none]) (st := [.int l3, .ref 92]) (w := Wd f fl g gl hh v tx) rfl (fun c4 => ?_) (fun c4 => ?_)
    · have h5 := h3.1 c4
      refine WP.run hP_214 1 (c' := (30, [some (.ref 74), some (.int l1), some (.int l2), some (.int l3), none, none, none], [.int 1000000, .int l3, .ref 92], Wd f fl g gl hh v tx)) rfl ?_
      refine WP.of (fun _ _ => Ex.iast hP_214 (w2 := Wd f fl (va_up g 92 (upd (g 92) (l3.toNatClampNeg) 1000000)) gl hh v tx) rfl (Wa_92 _ _ _ _ _ _ _) h5.1 (Ws_92 _ _ _ _ _ _ _ _)) ?_
      have h6 := h5.2
      refine WP.run hP_214 2 (c' := (34, [some (.ref 74), some (.int l1), some (.int l2), some (.int l3), some (.int 0), none, none], [], Wd f fl (va_up g 92 (upd (g 92) (l3.toNatClampNeg) 1000000)) gl hh v tx)) rfl ?_
      exact h6
    · have h7 := h3.2 (Classical.not_not.mp c4)
      refine WP.run hP_214 2 (c' := (30, [some (.ref 74), some (.int l1), some (.int l2), some (.int l3), none, none, none], [.int 0, .int l3, .ref 92], Wd f fl g gl hh v tx)) rfl ?_
      refine WP.of (fun _ _ => Ex.iast hP_214 (w2 := Wd f fl (va_up g 92 (upd (g 92) (l3.toNatClampNeg) 0)) gl hh v tx) rfl (Wa_92 _ _ _ _ _ _ _) h7.1 (Ws_92 _ _ _ _ _ _ _ _)) ?_
      have h8 := h7.2
      refine WP.run hP_214 2 (c' := (34, [some (.ref 74), some (.int l1), some (.int l2), some (.int l3), some (.int 0), none, none], [], Wd f fl (va_up g 92 (upd (g 92) (l3.toNatClampNeg) 0)) gl hh v tx)) rfl ?_
      exact h8

set_option maxRecDepth 20000 in
theorem b_m_laysPlan_75 (X : mm_X) (d : Nat) (f : Nat → Int32) (fl : Nat → Int64) (g : Nat → Nat → Int32) (gl : Nat → Nat → Int64) (hh : Nat → Nat → Option Nat) (v : Nat → Value) (tx : mm_W) (l3 : Int32)  (P : Option Value → mm_W → Prop)
    (h : ((l3 = 0) → P none (Wd f fl g gl hh v tx)) ∧
    ((¬ l3 = 0) → WP X (d) 214 (84, [some (.ref 74), none, none, some (.int 0), some (.int 0), none, none], [], Wd f fl g gl hh v tx) P)) :
    WP X (d) 214 (75, [some (.ref 74), none, none, some (.int l3), none, none, none], [], Wd f fl g gl hh v tx) P := by
  refine WP.run hP_214 1 (c' := (76, [some (.ref 74), none, none, some (.int l3), none, none, none], [.int l3], Wd f fl g gl hh v tx)) rfl ?_
  refine WP.br hP_214 (q := l3 = 0) (t := 156) (f := 79) (L := [some (.ref 74), none, none, some (.int l3), none, none, none]) (st := []) (w := Wd f fl g gl hh v tx) rfl (fun c1 => ?_) (fun c1 => ?_)
  · have h2 := h.1 c1
    exact WP.ret hP_214 (r := none) (w' := Wd f fl g gl hh v tx) rfl h2
  · have h3 := h.2 c1
    refine WP.run hP_214 3 (c' := (82, [some (.ref 74), none, none, some (.int 0), none, none, none], [.int 0], Wd f fl g gl hh v tx)) rfl ?_
    refine WP.run hP_214 1 (c' := (84, [some (.ref 74), none, none, some (.int 0), some (.int 0), none, none], [], Wd f fl g gl hh v tx)) rfl ?_
    exact h3

set_option maxRecDepth 20000 in
theorem b_m_laysPlan_34 (X : mm_X) (d : Nat) (f : Nat → Int32) (fl : Nat → Int64) (g : Nat → Nat → Int32) (gl : Nat → Nat → Int64) (hh : Nat → Nat → Option Nat) (v : Nat → Value) (tx : mm_W) (l1 : Int32) (l2 : Int32) (l3 : Int32) (l4 : Int32)  (P : Option Value → mm_W → Prop)
    (h : ((6 ≤ l4) → WP X (d + 1) 214 (2, [some (.ref 74), some (.int l1), some (.int l2), some (.int (l3 + (1 : Int32))), none, none, none], [], Wd f fl g gl hh v tx) P) ∧
    ((¬ (6 ≤ l4)) → WP X (d) 207 (0, [some (.ref 74), some (.int l1), some (.int l3), some (.int l4), none, none, none], [], Wd f fl g gl hh v tx) (fun rv w2 => WP X (d + 1) 214 (60, [some (.ref 74), some (.int l1), some (.int l2), some (.int l3), some (.int l4), none, none], rv.toList ++ [.int (((6 : Int32) * l3) + l4), .ref 91], w2) P))) :
    WP X (d + 1) 214 (34, [some (.ref 74), some (.int l1), some (.int l2), some (.int l3), some (.int l4), none, none], [], Wd f fl g gl hh v tx) P := by
  refine WP.run hP_214 2 (c' := (38, [some (.ref 74), some (.int l1), some (.int l2), some (.int l3), some (.int l4), none, none], [.int 6, .int l4], Wd f fl g gl hh v tx)) rfl ?_
  refine WP.br hP_214 (q := 6 ≤ l4) (t := 67) (f := 41) (L := [some (.ref 74), some (.int l1), some (.int l2), some (.int l3), some (.int l4), none, none]) (st := []) (w := Wd f fl g gl hh v tx) rfl (fun c1 => ?_) (fun c1 => ?_)
  · have h2 := h.1 c1
    refine WP.run hP_214 2 (c' := (2, [some (.ref 74), some (.int l1), some (.int l2), some (.int (l3 + (1 : Int32))), none, none, none], [], Wd f fl g gl hh v tx)) rfl ?_
    exact h2
  · have h3 := h.2 c1
    refine WP.run hP_214 11 (c' := (57, [some (.ref 74), some (.int l1), some (.int l2), some (.int l3), some (.int l4), none, none], [.int l4, .int l3, .int l1, .ref 74, .int (((6 : Int32) * l3) + l4), .ref 91], Wd f fl g gl hh v tx)) rfl ?_
    refine WP.call hP_214 hP_207 (as := [.ref 74, .int l1, .int l3, .int l4]) (pc' := 60) (L' := [some (.ref 74), some (.int l1), some (.int l2), some (.int l3), some (.int l4), none, none]) (st' := [.int (((6 : Int32) * l3) + l4), .ref 91]) (w1 := Wd f fl g gl hh v tx) rfl ⟨Nat.le_of_ble_eq_true rfl, Nat.le_of_ble_eq_true rfl⟩ rfl ?_
    exact h3

set_option maxRecDepth 20000 in
theorem b_m_laysPlan_84 (X : mm_X) (d : Nat) (f : Nat → Int32) (fl : Nat → Int64) (g : Nat → Nat → Int32) (gl : Nat → Nat → Int64) (hh : Nat → Nat → Option Nat) (v : Nat → Value) (tx : mm_W) (l3 : Int32) (l4 : Int32)  (P : Option Value → mm_W → Prop)
    (h : ((((1000 : Int32) * ((g 76) 55)) ≤ l4) → WP X (d + 2) 214 (75, [some (.ref 74), none, none, some (.int l3), none, none, none], [], Wd f fl g gl hh v tx) P) ∧
    ((¬ (((1000 : Int32) * ((g 76) 55)) ≤ l4)) → ((¬ ((g 76) 55) = 0) ∧ ((¬ ((g 76) 55) = 0) ∧ ((¬ (((39 : Int32) + (l4 - (l4 / ((g 76) 55)) * ((g 76) 55))) < 0 ∨ 5667 ≤ ((39 : Int32) + (l4 - (l4 / ((g 76) 55)) * ((g 76) 55))).toNatClampNeg)) ∧ ((¬ ((((6 : Int32) * (l4 / ((g 76) 55))) + ((g 76) ((39 : Int32) + (l4 - (l4 / ((g 76) 55)) * ((g 76) 55))).toNatClampNeg)) < 0 ∨ 6000 ≤ (((6 : Int32) * (l4 / ((g 76) 55))) + ((g 76) ((39 : Int32) + (l4 - (l4 / ((g 76) 55)) * ((g 76) 55))).toNatClampNeg)).toNatClampNeg)) ∧ ((¬ (((g 91) (((6 : Int32) * (l4 / ((g 76) 55))) + ((g 76) ((39 : Int32) + (l4 - (l4 / ((g 76) 55)) * ((g 76) 55))).toNatClampNeg)).toNatClampNeg) < 0 ∨ 1000 ≤ ((g 91) (((6 : Int32) * (l4 / ((g 76) 55))) + ((g 76) ((39 : Int32) + (l4 - (l4 / ((g 76) 55)) * ((g 76) 55))).toNatClampNeg)).toNatClampNeg).toNatClampNeg)) ∧ ((¬ (((31 : Int32) + (l4 - (l4 / ((g 76) 55)) * ((g 76) 55))) < 0 ∨ 5667 ≤ ((31 : Int32) + (l4 - (l4 / ((g 76) 55)) * ((g 76) 55))).toNatClampNeg)) ∧ ((((((g 92) ((g 91) (((6 : Int32) * (l4 / ((g 76) 55))) + ((g 76) ((39 : Int32) + (l4 - (l4 / ((g 76) 55)) * ((g 76) 55))).toNatClampNeg)).toNatClampNeg).toNatClampNeg) + ((g 76) ((31 : Int32) + (l4 - (l4 / ((g 76) 55)) * ((g 76) 55))).toNatClampNeg)) ≤ (1000000 : Int32)) → ((¬ ((l4 / ((g 76) 55)) < 0 ∨ 1000 ≤ (l4 / ((g 76) 55)).toNatClampNeg)) ∧ ((((((g 92) ((g 91) (((6 : Int32) * (l4 / ((g 76) 55))) + ((g 76) ((39 : Int32) + (l4 - (l4 / ((g 76) 55)) * ((g 76) 55))).toNatClampNeg)).toNatClampNeg).toNatClampNeg) + ((g 76) ((31 : Int32) + (l4 - (l4 / ((g 76) 55)) * ((g 76) 55))).toNatClampNeg)) < ((g 92) (l4 / ((g 76) 55)).toNatClampNeg)) → ((¬ ((l4 / ((g 76) 55)) < 0 ∨ 1000 ≤ (l4 / ((g 76) 55)).toNatClampNeg)) ∧ WP X (d + 2) 214 (84, [some (.ref 74), none, none, some (.int 1), some (.int (l4 + (1 : Int32))), none, none], [], Wd f fl (va_up g 92 (upd (g 92) ((l4 / ((g 76) 55)).toNatClampNeg) (((g 92) ((g 91) (((6 : Int32) * (l4 / ((g 76) 55))) + ((g 76) ((39 : Int32) + (l4 - (l4 / ((g 76) 55)) * ((g 76) 55))).toNatClampNeg)).toNatClampNeg).toNatClampNeg) + ((g 76) ((31 : Int32) + (l4 - (l4 / ((g 76) 55)) * ((g 76) 55))).toNatClampNeg)))) gl hh v tx) P)) ∧
        ((¬ ((((g 92) ((g 91) (((6 : Int32) * (l4 / ((g 76) 55))) + ((g 76) ((39 : Int32) + (l4 - (l4 / ((g 76) 55)) * ((g 76) 55))).toNatClampNeg)).toNatClampNeg).toNatClampNeg) + ((g 76) ((31 : Int32) + (l4 - (l4 / ((g 76) 55)) * ((g 76) 55))).toNatClampNeg)) < ((g 92) (l4 / ((g 76) 55)).toNatClampNeg))) → WP X (d + 2) 214 (84, [some (.ref 74), none, none, some (.int l3), some (.int (l4 + (1 : Int32))), none, none], [], Wd f fl g gl hh v tx) P)))) ∧
      ((¬ ((((g 92) ((g 91) (((6 : Int32) * (l4 / ((g 76) 55))) + ((g 76) ((39 : Int32) + (l4 - (l4 / ((g 76) 55)) * ((g 76) 55))).toNatClampNeg)).toNatClampNeg).toNatClampNeg) + ((g 76) ((31 : Int32) + (l4 - (l4 / ((g 76) 55)) * ((g 76) 55))).toNatClampNeg)) ≤ (1000000 : Int32))) → ((¬ ((l4 / ((g 76) 55)) < 0 ∨ 1000 ≤ (l4 / ((g 76) 55)).toNatClampNeg)) ∧ (((1000000 < ((g 92) (l4 / ((g 76) 55)).toNatClampNeg)) → ((¬ ((l4 / ((g 76) 55)) < 0 ∨ 1000 ≤ (l4 / ((g 76) 55)).toNatClampNeg)) ∧ WP X (d + 2) 214 (84, [some (.ref 74), none, none, some (.int 1), some (.int (l4 + (1 : Int32))), none, none], [], Wd f fl (va_up g 92 (upd (g 92) ((l4 / ((g 76) 55)).toNatClampNeg) 1000000)) gl hh v tx) P)) ∧
        ((¬ (1000000 < ((g 92) (l4 / ((g 76) 55)).toNatClampNeg))) → WP X (d + 2) 214 (84, [some (.ref 74), none, none, some (.int l3), some (.int (l4 + (1 : Int32))), none, none], [], Wd f fl g gl hh v tx) P))))))))))))) :
    WP X (d + 2) 214 (84, [some (.ref 74), none, none, some (.int l3), some (.int l4), none, none], [], Wd f fl g gl hh v tx) P := by
  refine WP.run hP_214 3 (c' := (90, [some (.ref 74), none, none, some (.int l3), some (.int l4), none, none], [.ref 74, .int 1000, .int l4], Wd f fl g gl hh v tx)) rfl ?_
  refine WP.call hP_214 hP_129 (as := [.ref 74]) (pc' := 93) (L' := [some (.ref 74), none, none, some (.int l3), some (.int l4), none, none]) (st' := [.int 1000, .int l4]) (w1 := Wd f fl g gl hh v tx) rfl ⟨Nat.le_of_ble_eq_true rfl, Nat.le_of_ble_eq_true rfl⟩ rfl (b_m_signMany_0 X (d + 1) f fl g gl hh v tx  _ ?_)
  refine WP.run hP_214 1 (c' := (94, [some (.ref 74), none, none, some (.int l3), some (.int l4), none, none], [.int ((1000 : Int32) * ((g 76) 55)), .int l4], Wd f fl g gl hh v tx)) rfl ?_
  refine WP.br hP_214 (q := ((1000 : Int32) * ((g 76) 55)) ≤ l4) (t := 153) (f := 97) (L := [some (.ref 74), none, none, some (.int l3), some (.int l4), none, none]) (st := []) (w := Wd f fl g gl hh v tx) rfl (fun c1 => ?_) (fun c1 => ?_)
  · have h2 := h.1 c1
    refine WP.run hP_214 1 (c' := (75, [some (.ref 74), none, none, some (.int l3), none, none, none], [], Wd f fl g gl hh v tx)) rfl ?_
    exact h2
  · have h3 := h.2 c1
    refine WP.run hP_214 2 (c' := (100, [some (.ref 74), none, none, some (.int l3), some (.int l4), none, none], [.ref 74, .int l4], Wd f fl g gl hh v tx)) rfl ?_
    refine WP.call hP_214 hP_129 (as := [.ref 74]) (pc' := 103) (L' := [some (.ref 74), none, none, some (.int l3), some (.int l4), none, none]) (st' := [.int l4]) (w1 := Wd f fl g gl hh v tx) rfl ⟨Nat.le_of_ble_eq_true rfl, Nat.le_of_ble_eq_true rfl⟩ rfl (b_m_signMany_0 X (d + 1) f fl g gl hh v tx  _ ?_)
    refine WP.of (fun _ _ => Ex.idiv hP_214 rfl h3.1) ?_
    have h4 := h3.2
    refine WP.run hP_214 5 (c' := (112, [some (.ref 74), none, none, some (.int l3), some (.int l4), some (.int (l4 / ((g 76) 55))), none], [.ref 74, .int l4, .int (l4 / ((g 76) 55)), .ref 74], Wd f fl g gl hh v tx)) rfl ?_
    refine WP.call hP_214 hP_129 (as := [.ref 74]) (pc' := 115) (L' := [some (.ref 74), none, none, some (.int l3), some (.int l4), some (.int (l4 / ((g 76) 55))), none]) (st' := [.int l4, .int (l4 / ((g 76) 55)), .ref 74]) (w1 := Wd f fl g gl hh v tx) rfl ⟨Nat.le_of_ble_eq_true rfl, Nat.le_of_ble_eq_true rfl⟩ rfl (b_m_signMany_0 X (d + 1) f fl g gl hh v tx  _ ?_)
    refine WP.of (fun _ _ => Ex.irem hP_214 rfl h4.1) ?_
    have h5 := h4.2
    refine WP.call hP_214 hP_213 (as := [.ref 74, .int (l4 / ((g 76) 55)), .int (l4 - (l4 / ((g 76) 55)) * ((g 76) 55))]) (pc' := 119) (L' := [some (.ref 74), none, none, some (.int l3), some (.int l4), some (.int (l4 / ((g 76) 55))), none]) (st' := []) (w1 := Wd f fl g gl hh v tx) rfl ⟨Nat.le_of_ble_eq_true rfl, Nat.le_of_ble_eq_true rfl⟩ rfl (b_m_leftWith_0 X (d) f fl g gl hh v tx (l4 / ((g 76) 55)) (l4 - (l4 / ((g 76) 55)) * ((g 76) 55)) _ ?_)
    refine ⟨h5.1, ?_⟩
    have h6 := h5.2
    refine ⟨h6.1, ?_⟩
    have h7 := h6.2
    refine ⟨h7.1, ?_⟩
    have h8 := h7.2
    refine ⟨h8.1, ?_⟩
    have h9 := h8.2
    refine ⟨fun c10 => ?_, fun c10 => ?_⟩
    · have h11 := h9.1 c10
      refine WP.run hP_214 5 (c' := (129, [some (.ref 74), none, none, some (.int l3), some (.int l4), some (.int (l4 / ((g 76) 55))), some (.int (((g 92) ((g 91) (((6 : Int32) * (l4 / ((g 76) 55))) + ((g 76) ((39 : Int32) + (l4 - (l4 / ((g 76) 55)) * ((g 76) 55))).toNatClampNeg)).toNatClampNeg).toNatClampNeg) + ((g 76) ((31 : Int32) + (l4 - (l4 / ((g 76) 55)) * ((g 76) 55))).toNatClampNeg)))], [.int (l4 / ((g 76) 55)), .ref 92, .int (((g 92) ((g 91) (((6 : Int32) * (l4 / ((g 76) 55))) + ((g 76) ((39 : Int32) + (l4 - (l4 / ((g 76) 55)) * ((g 76) 55))).toNatClampNeg)).toNatClampNeg).toNatClampNeg) + ((g 76) ((31 : Int32) + (l4 - (l4 / ((g 76) 55)) * ((g 76) 55))).toNatClampNeg))], Wd f fl g gl hh v tx)) rfl ?_
      refine WP.of (fun _ _ => Ex.iald hP_214 rfl (Wa_92 _ _ _ _ _ _ _) h11.1) ?_
      have h12 := h11.2
      refine WP.br hP_214 (q := (((g 92) ((g 91) (((6 : Int32) * (l4 / ((g 76) 55))) + ((g 76) ((39 : Int32) + (l4 - (l4 / ((g 76) 55)) * ((g 76) 55))).toNatClampNeg)).toNatClampNeg).toNatClampNeg) + ((g 76) ((31 : Int32) + (l4 - (l4 / ((g 76) 55)) * ((g 76) 55))).toNatClampNeg)) < ((g 92) (l4 / ((g 76) 55)).toNatClampNeg)) (t := 136) (f := 133) (L := [some (.ref 74), none, none, some (.int l3), some (.int l4), some (.int (l4 / ((g 76) 55))), some (.int (((g 92) ((g 91) (((6 : Int32) * (l4 / ((g 76) 55))) + ((g 76) ((39 : Int32) + (l4 - (l4 / ((g 76) 55)) * ((g 76) 55))).toNatClampNeg)).toNatClampNeg).toNatClampNeg) + ((g 76) ((31 : Int32) + (l4 - (l4 / ((g 76) 55)) * ((g 76) 55))).toNatClampNeg)))]) (st := []) (w := Wd f fl g gl hh v tx) rfl (fun c13 => ?_) (fun c13 => ?_)
      · have h14 := h12.1 c13
        refine WP.run hP_214 4 (c' := (144, [some (.ref 74), none, none, none, some (.int l4), some (.int (l4 / ((g 76) 55))), some (.int (((g 92) ((g 91) (((6 : Int32) * (l4 / ((g 76) 55))) + ((g 76) ((39 : Int32) + (l4 - (l4 / ((g 76) 55)) * ((g 76) 55))).toNatClampNeg)).toNatClampNeg).toNatClampNeg) + ((g 76) ((31 : Int32) + (l4 - (l4 / ((g 76) 55)) * ((g 76) 55))).toNatClampNeg)))], [.int (((g 92) ((g 91) (((6 : Int32) * (l4 / ((g 76) 55))) + ((g 76) ((39 : Int32) + (l4 - (l4 / ((g 76) 55)) * ((g 76) 55))).toNatClampNeg)).toNatClampNeg).toNatClampNeg) + ((g 76) ((31 : Int32) + (l4 - (l4 / ((g 76) 55)) * ((g 76) 55))).toNatClampNeg)), .int (l4 / ((g 76) 55)), .ref 92], Wd f fl g gl hh v tx)) rfl ?_
        refine WP.of (fun _ _ => Ex.iast hP_214 (w2 := Wd f fl (va_up g 92 (upd (g 92) ((l4 / ((g 76) 55)).toNatClampNeg) (((g 92) ((g 91) (((6 : Int32) * (l4 / ((g 76) 55))) + ((g 76) ((39 : Int32) + (l4 - (l4 / ((g 76) 55)) * ((g 76) 55))).toNatClampNeg)).toNatClampNeg).toNatClampNeg) + ((g 76) ((31 : Int32) + (l4 - (l4 / ((g 76) 55)) * ((g 76) 55))).toNatClampNeg)))) gl hh v tx) rfl (Wa_92 _ _ _ _ _ _ _) h14.1 (Ws_92 _ _ _ _ _ _ _ _)) ?_
        have h15 := h14.2
        refine WP.run hP_214 2 (c' := (147, [some (.ref 74), none, none, some (.int 1), some (.int l4), some (.int (l4 / ((g 76) 55))), some (.int (((g 92) ((g 91) (((6 : Int32) * (l4 / ((g 76) 55))) + ((g 76) ((39 : Int32) + (l4 - (l4 / ((g 76) 55)) * ((g 76) 55))).toNatClampNeg)).toNatClampNeg).toNatClampNeg) + ((g 76) ((31 : Int32) + (l4 - (l4 / ((g 76) 55)) * ((g 76) 55))).toNatClampNeg)))], [], Wd f fl (va_up g 92 (upd (g 92) ((l4 / ((g 76) 55)).toNatClampNeg) (((g 92) ((g 91) (((6 : Int32) * (l4 / ((g 76) 55))) + ((g 76) ((39 : Int32) + (l4 - (l4 / ((g 76) 55)) * ((g 76) 55))).toNatClampNeg)).toNatClampNeg).toNatClampNeg) + ((g 76) ((31 : Int32) + (l4 - (l4 / ((g 76) 55)) * ((g 76) 55))).toNatClampNeg)))) gl hh v tx)) rfl ?_
        refine WP.run hP_214 2 (c' := (84, [some (.ref 74), none, none, some (.int 1), some (.int (l4 + (1 : Int32))), none, none], [], Wd f fl (va_up g 92 (upd (g 92) ((l4 / ((g 76) 55)).toNatClampNeg) (((g 92) ((g 91) (((6 : Int32) * (l4 / ((g 76) 55))) + ((g 76) ((39 : Int32) + (l4 - (l4 / ((g 76) 55)) * ((g 76) 55))).toNatClampNeg)).toNatClampNeg).toNatClampNeg) + ((g 76) ((31 : Int32) + (l4 - (l4 / ((g 76) 55)) * ((g 76) 55))).toNatClampNeg)))) gl hh v tx)) rfl ?_
        exact h15
      · have h16 := h12.2 c13
        refine WP.run hP_214 3 (c' := (84, [some (.ref 74), none, none, some (.int l3), some (.int (l4 + (1 : Int32))), none, none], [], Wd f fl g gl hh v tx)) rfl ?_
        exact h16
    · have h17 := h9.2 c10
      refine WP.run hP_214 5 (c' := (129, [some (.ref 74), none, none, some (.int l3), some (.int l4), some (.int (l4 / ((g 76) 55))), some (.int 1000000)], [.int (l4 / ((g 76) 55)), .ref 92, .int 1000000], Wd f fl g gl hh v tx)) rfl ?_
      refine WP.of (fun _ _ => Ex.iald hP_214 rfl (Wa_92 _ _ _ _ _ _ _) h17.1) ?_
      have h18 := h17.2
      refine WP.br hP_214 (q := 1000000 < ((g 92) (l4 / ((g 76) 55)).toNatClampNeg)) (t := 136) (f := 133) (L := [some (.ref 74), none, none, some (.int l3), some (.int l4), some (.int (l4 / ((g 76) 55))), some (.int 1000000)]) (st := []) (w := Wd f fl g gl hh v tx) rfl (fun c19 => ?_) (fun c19 => ?_)
      · have h20 := h18.1 c19
        refine WP.run hP_214 4 (c' := (144, [some (.ref 74), none, none, none, some (.int l4), some (.int (l4 / ((g 76) 55))), some (.int 1000000)], [.int 1000000, .int (l4 / ((g 76) 55)), .ref 92], Wd f fl g gl hh v tx)) rfl ?_
        refine WP.of (fun _ _ => Ex.iast hP_214 (w2 := Wd f fl (va_up g 92 (upd (g 92) ((l4 / ((g 76) 55)).toNatClampNeg) 1000000)) gl hh v tx) rfl (Wa_92 _ _ _ _ _ _ _) h20.1 (Ws_92 _ _ _ _ _ _ _ _)) ?_
        have h21 := h20.2
        refine WP.run hP_214 2 (c' := (147, [some (.ref 74), none, none, some (.int 1), some (.int l4), some (.int (l4 / ((g 76) 55))), some (.int 1000000)], [], Wd f fl (va_up g 92 (upd (g 92) ((l4 / ((g 76) 55)).toNatClampNeg) 1000000)) gl hh v tx)) rfl ?_
        refine WP.run hP_214 2 (c' := (84, [some (.ref 74), none, none, some (.int 1), some (.int (l4 + (1 : Int32))), none, none], [], Wd f fl (va_up g 92 (upd (g 92) ((l4 / ((g 76) 55)).toNatClampNeg) 1000000)) gl hh v tx)) rfl ?_
        exact h21
      · have h22 := h18.2 c19
        refine WP.run hP_214 3 (c' := (84, [some (.ref 74), none, none, some (.int l3), some (.int (l4 + (1 : Int32))), none, none], [], Wd f fl g gl hh v tx)) rfl ?_
        exact h22

set_option maxRecDepth 20000 in
theorem b_m_laysPlan_60 (X : mm_X) (d : Nat) (f : Nat → Int32) (fl : Nat → Int64) (g : Nat → Nat → Int32) (gl : Nat → Nat → Int64) (hh : Nat → Nat → Option Nat) (v : Nat → Value) (tx : mm_W) (l1 : Int32) (l2 : Int32) (l3 : Int32) (l4 : Int32) (s0 : Int32) (s1 : Int32)  (P : Option Value → mm_W → Prop)
    (h : (¬ (s1 < 0 ∨ 6000 ≤ s1.toNatClampNeg)) ∧ WP X (d) 214 (34, [some (.ref 74), some (.int l1), some (.int l2), some (.int l3), some (.int (l4 + (1 : Int32))), none, none], [], Wd f fl (va_up g 91 (upd (g 91) (s1.toNatClampNeg) s0)) gl hh v tx) P) :
    WP X (d) 214 (60, [some (.ref 74), some (.int l1), some (.int l2), some (.int l3), some (.int l4), none, none], [.int s0, .int s1, .ref 91], Wd f fl g gl hh v tx) P := by
  refine WP.of (fun _ _ => Ex.iast hP_214 (w2 := Wd f fl (va_up g 91 (upd (g 91) (s1.toNatClampNeg) s0)) gl hh v tx) rfl (Wa_91 _ _ _ _ _ _ _) h.1 (Ws_91 _ _ _ _ _ _ _ _)) ?_
  have h1 := h.2
  refine WP.run hP_214 2 (c' := (34, [some (.ref 74), some (.int l1), some (.int l2), some (.int l3), some (.int (l4 + (1 : Int32))), none, none], [], Wd f fl (va_up g 91 (upd (g 91) (s1.toNatClampNeg) s0)) gl hh v tx)) rfl ?_
  exact h1

set_option maxRecDepth 20000 in
theorem b_m_plan_0 (X : mm_X) (d : Nat) (f : Nat → Int32) (fl : Nat → Int64) (g : Nat → Nat → Int32) (gl : Nat → Nat → Int64) (hh : Nat → Nat → Option Nat) (v : Nat → Value) (tx : mm_W) (p0 : Int32) (p1 : Int32) (p2 : Int32)  (P : Option Value → mm_W → Prop)
    (h : (((0 : Int32) ≤ p0 ∧ p0 ≤ (((g 76) 56) - (1 : Int32))) → ((((0 : Int32) ≤ p1 ∧ p1 ≤ (24 : Int32)) → ((((-1) ≤ p2) → WP X (d + 1) 214 (0, [some (.ref 74), some (.int p0), some (.int p1), none, none, none, none], [], Wd f fl g gl hh v tx) (fun rv w2 => WP X (d + 2) 215 (31, [some (.ref 74), some (.int p0), some (.int p1), some (.int p2), none, none, none], rv.toList ++ [], w2) P)) ∧
        ((¬ ((-1) ≤ p2)) → P (some (.int (-1))) (Wd f fl g gl hh v tx)))) ∧
      ((¬ ((0 : Int32) ≤ p1 ∧ p1 ≤ (24 : Int32))) → P (some (.int (-1))) (Wd f fl g gl hh v tx)))) ∧
    ((¬ ((0 : Int32) ≤ p0 ∧ p0 ≤ (((g 76) 56) - (1 : Int32)))) → P (some (.int (-1))) (Wd f fl g gl hh v tx))) :
    WP X (d + 2) 215 (0, [some (.ref 74), some (.int p0), some (.int p1), some (.int p2), none, none, none], [], Wd f fl g gl hh v tx) P := by
  refine WP.run hP_215 2 (c' := (2, [some (.ref 74), some (.int p0), some (.int p1), some (.int p2), none, none, none], [.int p0, .ref 74], Wd f fl g gl hh v tx)) rfl ?_
  refine WP.call hP_215 hP_132 (as := [.ref 74, .int p0]) (pc' := 5) (L' := [some (.ref 74), some (.int p0), some (.int p1), some (.int p2), none, none, none]) (st' := []) (w1 := Wd f fl g gl hh v tx) rfl ⟨Nat.le_of_ble_eq_true rfl, Nat.le_of_ble_eq_true rfl⟩ rfl (b_m_isShip_0 X (d) f fl g gl hh v tx p0 _ ?_)
  refine ⟨fun c1 => ?_, fun c1 => ?_⟩
  · have h2 := h.1 c1
    refine WP.run hP_215 4 (c' := (12, [some (.ref 74), some (.int p0), some (.int p1), some (.int p2), none, none, none], [.int 24, .int 0, .int p1], Wd f fl g gl hh v tx)) rfl ?_
    refine WP.call hP_215 hP_116 (as := [.int p1, .int 0, .int 24]) (pc' := 15) (L' := [some (.ref 74), some (.int p0), some (.int p1), some (.int p2), none, none, none]) (st' := []) (w1 := Wd f fl g gl hh v tx) rfl ⟨Nat.le_of_ble_eq_true rfl, Nat.le_of_ble_eq_true rfl⟩ rfl (b_lies_m X (d + 1) f fl g gl hh v tx p1 0 24 _ ?_)
    refine ⟨fun c3 => ?_, fun c3 => ?_⟩
    · have h4 := h2.1 c3
      refine WP.run hP_215 3 (c' := (20, [some (.ref 74), some (.int p0), some (.int p1), some (.int p2), none, none, none], [.int (-1), .int p2], Wd f fl g gl hh v tx)) rfl ?_
      refine WP.br hP_215 (q := (-1) ≤ p2) (t := 25) (f := 23) (L := [some (.ref 74), some (.int p0), some (.int p1), some (.int p2), none, none, none]) (st := []) (w := Wd f fl g gl hh v tx) rfl (fun c5 => ?_) (fun c5 => ?_)
      · have h6 := h4.1 c5
        refine WP.run hP_215 3 (c' := (28, [some (.ref 74), some (.int p0), some (.int p1), some (.int p2), none, none, none], [.int p1, .int p0, .ref 74], Wd f fl g gl hh v tx)) rfl ?_
        refine WP.call hP_215 hP_214 (as := [.ref 74, .int p0, .int p1]) (pc' := 31) (L' := [some (.ref 74), some (.int p0), some (.int p1), some (.int p2), none, none, none]) (st' := []) (w1 := Wd f fl g gl hh v tx) rfl ⟨Nat.le_of_ble_eq_true rfl, Nat.le_of_ble_eq_true rfl⟩ rfl ?_
        exact h6
      · have h7 := h4.2 c5
        refine WP.run hP_215 1 (c' := (24, [none, none, none, none, none, none, none], [.int (-1)], Wd f fl g gl hh v tx)) rfl ?_
        exact WP.retI hP_215 rfl rfl h7
    · have h8 := h2.2 c3
      refine WP.run hP_215 2 (c' := (24, [none, none, none, none, none, none, none], [.int (-1)], Wd f fl g gl hh v tx)) rfl ?_
      exact WP.retI hP_215 rfl rfl h8
  · have h9 := h.2 c1
    refine WP.run hP_215 2 (c' := (24, [none, none, none, none, none, none, none], [.int (-1)], Wd f fl g gl hh v tx)) rfl ?_
    exact WP.retI hP_215 rfl rfl h9

set_option maxRecDepth 20000 in
theorem b_m_plan_31 (X : mm_X) (d : Nat) (f : Nat → Int32) (fl : Nat → Int64) (g : Nat → Nat → Int32) (gl : Nat → Nat → Int64) (hh : Nat → Nat → Option Nat) (v : Nat → Value) (tx : mm_W) (l1 : Int32) (l2 : Int32) (l3 : Int32)  (P : Option Value → mm_W → Prop)
    (h : (¬ (((13 : Int32) + l1) < 0 ∨ 5667 ≤ ((13 : Int32) + l1).toNatClampNeg)) ∧ ((¬ (((16 : Int32) + l1) < 0 ∨ 5667 ≤ ((16 : Int32) + l1).toNatClampNeg)) ∧ ((¬ (((19 : Int32) + l1) < 0 ∨ 5667 ≤ ((19 : Int32) + l1).toNatClampNeg)) ∧ ((¬ ((((((4 : Int32) * ((g 76) ((13 : Int32) + l1).toNatClampNeg)) + ((g 76) ((16 : Int32) + l1).toNatClampNeg)) * (10 : Int32)) + ((g 76) ((19 : Int32) + l1).toNatClampNeg)) < 0 ∨ 1000 ≤ (((((4 : Int32) * ((g 76) ((13 : Int32) + l1).toNatClampNeg)) + ((g 76) ((16 : Int32) + l1).toNatClampNeg)) * (10 : Int32)) + ((g 76) ((19 : Int32) + l1).toNatClampNeg)).toNatClampNeg)) ∧ (((((g 92) (((((4 : Int32) * ((g 76) ((13 : Int32) + l1).toNatClampNeg)) + ((g 76) ((16 : Int32) + l1).toNatClampNeg)) * (10 : Int32)) + ((g 76) ((19 : Int32) + l1).toNatClampNeg)).toNatClampNeg) = 1000000) → ((¬ ((((((4 : Int32) * ((g 76) ((13 : Int32) + l1).toNatClampNeg)) + ((g 76) ((16 : Int32) + l1).toNatClampNeg)) * (10 : Int32)) + ((g 76) ((19 : Int32) + l1).toNatClampNeg)) < 0 ∨ 1000 ≤ (((((4 : Int32) * ((g 76) ((13 : Int32) + l1).toNatClampNeg)) + ((g 76) ((16 : Int32) + l1).toNatClampNeg)) * (10 : Int32)) + ((g 76) ((19 : Int32) + l1).toNatClampNeg)).toNatClampNeg)) ∧ (((¬ ((g 92) (((((4 : Int32) * ((g 76) ((13 : Int32) + l1).toNatClampNeg)) + ((g 76) ((16 : Int32) + l1).toNatClampNeg)) * (10 : Int32)) + ((g 76) ((19 : Int32) + l1).toNatClampNeg)).toNatClampNeg) = 1000000) → ((¬ ((((((4 : Int32) * ((g 76) ((13 : Int32) + l1).toNatClampNeg)) + ((g 76) ((16 : Int32) + l1).toNatClampNeg)) * (10 : Int32)) + ((g 76) ((19 : Int32) + l1).toNatClampNeg)) < 0 ∨ 1000 ≤ (((((4 : Int32) * ((g 76) ((13 : Int32) + l1).toNatClampNeg)) + ((g 76) ((16 : Int32) + l1).toNatClampNeg)) * (10 : Int32)) + ((g 76) ((19 : Int32) + l1).toNatClampNeg)).toNatClampNeg)) ∧ P (some (.int ((g 92) (((((4 : Int32) * ((g 76) ((13 : Int32) + l1).toNatClampNeg)) + ((g 76) ((16 : Int32) + l1).toNatClampNeg)) * (10 : Int32)) + ((g 76) ((19 : Int32) + l1).toNatClampNeg)).toNatClampNeg))) (Wd f fl g gl hh v tx))) ∧
      ((((g 92) (((((4 : Int32) * ((g 76) ((13 : Int32) + l1).toNatClampNeg)) + ((g 76) ((16 : Int32) + l1).toNatClampNeg)) * (10 : Int32)) + ((g 76) ((19 : Int32) + l1).toNatClampNeg)).toNatClampNeg) = 1000000) → P (some (.int (-1))) (Wd f fl g gl hh v tx))))) ∧
    ((¬ ((g 92) (((((4 : Int32) * ((g 76) ((13 : Int32) + l1).toNatClampNeg)) + ((g 76) ((16 : Int32) + l1).toNatClampNeg)) * (10 : Int32)) + ((g 76) ((19 : Int32) + l1).toNatClampNeg)).toNatClampNeg) = 1000000) → (((¬ l3 = (-1)) → WP X (d + 2) 215 (85, [some (.ref 74), none, none, some (.int l3), some (.int (((((4 : Int32) * ((g 76) ((13 : Int32) + l1).toNatClampNeg)) + ((g 76) ((16 : Int32) + l1).toNatClampNeg)) * (10 : Int32)) + ((g 76) ((19 : Int32) + l1).toNatClampNeg))), some (.int (-1)), some (.int 0)], [], Wd f fl g gl hh v tx) P) ∧
      ((l3 = (-1)) → ((¬ ((((((4 : Int32) * ((g 76) ((13 : Int32) + l1).toNatClampNeg)) + ((g 76) ((16 : Int32) + l1).toNatClampNeg)) * (10 : Int32)) + ((g 76) ((19 : Int32) + l1).toNatClampNeg)) < 0 ∨ 1000 ≤ (((((4 : Int32) * ((g 76) ((13 : Int32) + l1).toNatClampNeg)) + ((g 76) ((16 : Int32) + l1).toNatClampNeg)) * (10 : Int32)) + ((g 76) ((19 : Int32) + l1).toNatClampNeg)).toNatClampNeg)) ∧ (((¬ ((g 92) (((((4 : Int32) * ((g 76) ((13 : Int32) + l1).toNatClampNeg)) + ((g 76) ((16 : Int32) + l1).toNatClampNeg)) * (10 : Int32)) + ((g 76) ((19 : Int32) + l1).toNatClampNeg)).toNatClampNeg) = 1000000) → ((¬ ((((((4 : Int32) * ((g 76) ((13 : Int32) + l1).toNatClampNeg)) + ((g 76) ((16 : Int32) + l1).toNatClampNeg)) * (10 : Int32)) + ((g 76) ((19 : Int32) + l1).toNatClampNeg)) < 0 ∨ 1000 ≤ (((((4 : Int32) * ((g 76) ((13 : Int32) + l1).toNatClampNeg)) + ((g 76) ((16 : Int32) + l1).toNatClampNeg)) * (10 : Int32)) + ((g 76) ((19 : Int32) + l1).toNatClampNeg)).toNatClampNeg)) ∧ P (some (.int ((g 92) (((((4 : Int32) * ((g 76) ((13 : Int32) + l1).toNatClampNeg)) + ((g 76) ((16 : Int32) + l1).toNatClampNeg)) * (10 : Int32)) + ((g 76) ((19 : Int32) + l1).toNatClampNeg)).toNatClampNeg))) (Wd f fl g gl hh v tx))) ∧
        ((((g 92) (((((4 : Int32) * ((g 76) ((13 : Int32) + l1).toNatClampNeg)) + ((g 76) ((16 : Int32) + l1).toNatClampNeg)) * (10 : Int32)) + ((g 76) ((19 : Int32) + l1).toNatClampNeg)).toNatClampNeg) = 1000000) → P (some (.int (-1))) (Wd f fl g gl hh v tx)))))))))))) :
    WP X (d + 2) 215 (31, [some (.ref 74), some (.int l1), some (.int l2), some (.int l3), none, none, none], [], Wd f fl g gl hh v tx) P := by
  refine WP.run hP_215 2 (c' := (33, [some (.ref 74), some (.int l1), some (.int l2), some (.int l3), none, none, none], [.int l1, .ref 74], Wd f fl g gl hh v tx)) rfl ?_
  refine WP.call hP_215 hP_208 (as := [.ref 74, .int l1]) (pc' := 36) (L' := [some (.ref 74), some (.int l1), some (.int l2), some (.int l3), none, none, none]) (st' := []) (w1 := Wd f fl g gl hh v tx) rfl ⟨Nat.le_of_ble_eq_true rfl, Nat.le_of_ble_eq_true rfl⟩ rfl (b_m_stateNow_0 X (d) f fl g gl hh v tx l1 _ ?_)
  refine ⟨h.1, ?_⟩
  have h1 := h.2
  refine ⟨h1.1, ?_⟩
  have h2 := h1.2
  refine ⟨h2.1, ?_⟩
  have h3 := h2.2
  refine WP.run hP_215 4 (c' := (44, [some (.ref 74), some (.int l1), some (.int l2), some (.int l3), some (.int (((((4 : Int32) * ((g 76) ((13 : Int32) + l1).toNatClampNeg)) + ((g 76) ((16 : Int32) + l1).toNatClampNeg)) * (10 : Int32)) + ((g 76) ((19 : Int32) + l1).toNatClampNeg))), none, none], [.int (((((4 : Int32) * ((g 76) ((13 : Int32) + l1).toNatClampNeg)) + ((g 76) ((16 : Int32) + l1).toNatClampNeg)) * (10 : Int32)) + ((g 76) ((19 : Int32) + l1).toNatClampNeg)), .ref 92], Wd f fl g gl hh v tx)) rfl ?_
  refine WP.of (fun _ _ => Ex.iald hP_215 rfl (Wa_92 _ _ _ _ _ _ _) h3.1) ?_
  have h4 := h3.2
  refine WP.run hP_215 1 (c' := (47, [some (.ref 74), some (.int l1), some (.int l2), some (.int l3), some (.int (((((4 : Int32) * ((g 76) ((13 : Int32) + l1).toNatClampNeg)) + ((g 76) ((16 : Int32) + l1).toNatClampNeg)) * (10 : Int32)) + ((g 76) ((19 : Int32) + l1).toNatClampNeg))), none, none], [.int 1000000, .int ((g 92) (((((4 : Int32) * ((g 76) ((13 : Int32) + l1).toNatClampNeg)) + ((g 76) ((16 : Int32) + l1).toNatClampNeg)) * (10 : Int32)) + ((g 76) ((19 : Int32) + l1).toNatClampNeg)).toNatClampNeg)], Wd f fl g gl hh v tx)) rfl ?_
  refine WP.br hP_215 (q := ((g 92) (((((4 : Int32) * ((g 76) ((13 : Int32) + l1).toNatClampNeg)) + ((g 76) ((16 : Int32) + l1).toNatClampNeg)) * (10 : Int32)) + ((g 76) ((19 : Int32) + l1).toNatClampNeg)).toNatClampNeg) = 1000000) (t := 55) (f := 50) (L := [some (.ref 74), some (.int l1), some (.int l2), some (.int l3), some (.int (((((4 : Int32) * ((g 76) ((13 : Int32) + l1).toNatClampNeg)) + ((g 76) ((16 : Int32) + l1).toNatClampNeg)) * (10 : Int32)) + ((g 76) ((19 : Int32) + l1).toNatClampNeg))), none, none]) (st := []) (w := Wd f fl g gl hh v tx) rfl (fun c5 => ?_) (fun c5 => ?_)
  · have h6 := h4.1 c5
    refine WP.run hP_215 3 (c' := (61, [some (.ref 74), none, none, none, some (.int (((((4 : Int32) * ((g 76) ((13 : Int32) + l1).toNatClampNeg)) + ((g 76) ((16 : Int32) + l1).toNatClampNeg)) * (10 : Int32)) + ((g 76) ((19 : Int32) + l1).toNatClampNeg))), none, none], [.int (((((4 : Int32) * ((g 76) ((13 : Int32) + l1).toNatClampNeg)) + ((g 76) ((16 : Int32) + l1).toNatClampNeg)) * (10 : Int32)) + ((g 76) ((19 : Int32) + l1).toNatClampNeg)), .ref 92], Wd f fl g gl hh v tx)) rfl ?_
    refine WP.of (fun _ _ => Ex.iald hP_215 rfl (Wa_92 _ _ _ _ _ _ _) h6.1) ?_
    have h7 := h6.2
    refine WP.run hP_215 1 (c' := (64, [some (.ref 74), none, none, none, some (.int (((((4 : Int32) * ((g 76) ((13 : Int32) + l1).toNatClampNeg)) + ((g 76) ((16 : Int32) + l1).toNatClampNeg)) * (10 : Int32)) + ((g 76) ((19 : Int32) + l1).toNatClampNeg))), none, none], [.int 1000000, .int ((g 92) (((((4 : Int32) * ((g 76) ((13 : Int32) + l1).toNatClampNeg)) + ((g 76) ((16 : Int32) + l1).toNatClampNeg)) * (10 : Int32)) + ((g 76) ((19 : Int32) + l1).toNatClampNeg)).toNatClampNeg)], Wd f fl g gl hh v tx)) rfl ?_
    refine WP.br hP_215 (q := ¬ ((g 92) (((((4 : Int32) * ((g 76) ((13 : Int32) + l1).toNatClampNeg)) + ((g 76) ((16 : Int32) + l1).toNatClampNeg)) * (10 : Int32)) + ((g 76) ((19 : Int32) + l1).toNatClampNeg)).toNatClampNeg) = 1000000) (t := 71) (f := 67) (L := [some (.ref 74), none, none, none, some (.int (((((4 : Int32) * ((g 76) ((13 : Int32) + l1).toNatClampNeg)) + ((g 76) ((16 : Int32) + l1).toNatClampNeg)) * (10 : Int32)) + ((g 76) ((19 : Int32) + l1).toNatClampNeg))), none, none]) (st := []) (w := Wd f fl g gl hh v tx) rfl (fun c8 => ?_) (fun c8 => ?_)
    · have h9 := h7.1 c8
      refine WP.run hP_215 3 (c' := (77, [some (.ref 74), none, none, none, some (.int (((((4 : Int32) * ((g 76) ((13 : Int32) + l1).toNatClampNeg)) + ((g 76) ((16 : Int32) + l1).toNatClampNeg)) * (10 : Int32)) + ((g 76) ((19 : Int32) + l1).toNatClampNeg))), none, none], [.int (((((4 : Int32) * ((g 76) ((13 : Int32) + l1).toNatClampNeg)) + ((g 76) ((16 : Int32) + l1).toNatClampNeg)) * (10 : Int32)) + ((g 76) ((19 : Int32) + l1).toNatClampNeg)), .ref 92], Wd f fl g gl hh v tx)) rfl ?_
      refine WP.of (fun _ _ => Ex.iald hP_215 rfl (Wa_92 _ _ _ _ _ _ _) h9.1) ?_
      have h10 := h9.2
      exact WP.retI hP_215 rfl rfl h10
    · have h11 := h7.2 (Classical.not_not.mp c8)
      refine WP.run hP_215 2 (c' := (78, [some (.ref 74), none, none, none, some (.int (((((4 : Int32) * ((g 76) ((13 : Int32) + l1).toNatClampNeg)) + ((g 76) ((16 : Int32) + l1).toNatClampNeg)) * (10 : Int32)) + ((g 76) ((19 : Int32) + l1).toNatClampNeg))), none, none], [.int (-1)], Wd f fl g gl hh v tx)) rfl ?_
      exact WP.retI hP_215 rfl rfl h11
  · have h12 := h4.2 c5
    refine WP.run hP_215 2 (c' := (52, [some (.ref 74), some (.int l1), some (.int l2), some (.int l3), some (.int (((((4 : Int32) * ((g 76) ((13 : Int32) + l1).toNatClampNeg)) + ((g 76) ((16 : Int32) + l1).toNatClampNeg)) * (10 : Int32)) + ((g 76) ((19 : Int32) + l1).toNatClampNeg))), none, none], [.int (-1), .int l3], Wd f fl g gl hh v tx)) rfl ?_
    refine WP.br hP_215 (q := ¬ l3 = (-1)) (t := 79) (f := 55) (L := [some (.ref 74), some (.int l1), some (.int l2), some (.int l3), some (.int (((((4 : Int32) * ((g 76) ((13 : Int32) + l1).toNatClampNeg)) + ((g 76) ((16 : Int32) + l1).toNatClampNeg)) * (10 : Int32)) + ((g 76) ((19 : Int32) + l1).toNatClampNeg))), none, none]) (st := []) (w := Wd f fl g gl hh v tx) rfl (fun c13 => ?_) (fun c13 => ?_)
    · have h14 := h12.1 c13
      refine WP.run hP_215 1 (c' := (80, [some (.ref 74), none, none, some (.int l3), some (.int (((((4 : Int32) * ((g 76) ((13 : Int32) + l1).toNatClampNeg)) + ((g 76) ((16 : Int32) + l1).toNatClampNeg)) * (10 : Int32)) + ((g 76) ((19 : Int32) + l1).toNatClampNeg))), none, none], [.int (-1)], Wd f fl g gl hh v tx)) rfl ?_
      refine WP.run hP_215 2 (c' := (83, [some (.ref 74), none, none, some (.int l3), some (.int (((((4 : Int32) * ((g 76) ((13 : Int32) + l1).toNatClampNeg)) + ((g 76) ((16 : Int32) + l1).toNatClampNeg)) * (10 : Int32)) + ((g 76) ((19 : Int32) + l1).toNatClampNeg))), some (.int (-1)), none], [.int 0], Wd f fl g gl hh v tx)) rfl ?_
      refine WP.run hP_215 1 (c' := (85, [some (.ref 74), none, none, some (.int l3), some (.int (((((4 : Int32) * ((g 76) ((13 : Int32) + l1).toNatClampNeg)) + ((g 76) ((16 : Int32) + l1).toNatClampNeg)) * (10 : Int32)) + ((g 76) ((19 : Int32) + l1).toNatClampNeg))), some (.int (-1)), some (.int 0)], [], Wd f fl g gl hh v tx)) rfl ?_
      exact h14
    · have h15 := h12.2 (Classical.not_not.mp c13)
      refine WP.run hP_215 3 (c' := (61, [some (.ref 74), none, none, none, some (.int (((((4 : Int32) * ((g 76) ((13 : Int32) + l1).toNatClampNeg)) + ((g 76) ((16 : Int32) + l1).toNatClampNeg)) * (10 : Int32)) + ((g 76) ((19 : Int32) + l1).toNatClampNeg))), none, none], [.int (((((4 : Int32) * ((g 76) ((13 : Int32) + l1).toNatClampNeg)) + ((g 76) ((16 : Int32) + l1).toNatClampNeg)) * (10 : Int32)) + ((g 76) ((19 : Int32) + l1).toNatClampNeg)), .ref 92], Wd f fl g gl hh v tx)) rfl ?_
      refine WP.of (fun _ _ => Ex.iald hP_215 rfl (Wa_92 _ _ _ _ _ _ _) h15.1) ?_
      have h16 := h15.2
      refine WP.run hP_215 1 (c' := (64, [some (.ref 74), none, none, none, some (.int (((((4 : Int32) * ((g 76) ((13 : Int32) + l1).toNatClampNeg)) + ((g 76) ((16 : Int32) + l1).toNatClampNeg)) * (10 : Int32)) + ((g 76) ((19 : Int32) + l1).toNatClampNeg))), none, none], [.int 1000000, .int ((g 92) (((((4 : Int32) * ((g 76) ((13 : Int32) + l1).toNatClampNeg)) + ((g 76) ((16 : Int32) + l1).toNatClampNeg)) * (10 : Int32)) + ((g 76) ((19 : Int32) + l1).toNatClampNeg)).toNatClampNeg)], Wd f fl g gl hh v tx)) rfl ?_
      refine WP.br hP_215 (q := ¬ ((g 92) (((((4 : Int32) * ((g 76) ((13 : Int32) + l1).toNatClampNeg)) + ((g 76) ((16 : Int32) + l1).toNatClampNeg)) * (10 : Int32)) + ((g 76) ((19 : Int32) + l1).toNatClampNeg)).toNatClampNeg) = 1000000) (t := 71) (f := 67) (L := [some (.ref 74), none, none, none, some (.int (((((4 : Int32) * ((g 76) ((13 : Int32) + l1).toNatClampNeg)) + ((g 76) ((16 : Int32) + l1).toNatClampNeg)) * (10 : Int32)) + ((g 76) ((19 : Int32) + l1).toNatClampNeg))), none, none]) (st := []) (w := Wd f fl g gl hh v tx) rfl (fun c17 => ?_) (fun c17 => ?_)
      · have h18 := h16.1 c17
        refine WP.run hP_215 3 (c' := (77, [some (.ref 74), none, none, none, some (.int (((((4 : Int32) * ((g 76) ((13 : Int32) + l1).toNatClampNeg)) + ((g 76) ((16 : Int32) + l1).toNatClampNeg)) * (10 : Int32)) + ((g 76) ((19 : Int32) + l1).toNatClampNeg))), none, none], [.int (((((4 : Int32) * ((g 76) ((13 : Int32) + l1).toNatClampNeg)) + ((g 76) ((16 : Int32) + l1).toNatClampNeg)) * (10 : Int32)) + ((g 76) ((19 : Int32) + l1).toNatClampNeg)), .ref 92], Wd f fl g gl hh v tx)) rfl ?_
        refine WP.of (fun _ _ => Ex.iald hP_215 rfl (Wa_92 _ _ _ _ _ _ _) h18.1) ?_
        have h19 := h18.2
        exact WP.retI hP_215 rfl rfl h19
      · have h20 := h16.2 (Classical.not_not.mp c17)
        refine WP.run hP_215 2 (c' := (78, [some (.ref 74), none, none, none, some (.int (((((4 : Int32) * ((g 76) ((13 : Int32) + l1).toNatClampNeg)) + ((g 76) ((16 : Int32) + l1).toNatClampNeg)) * (10 : Int32)) + ((g 76) ((19 : Int32) + l1).toNatClampNeg))), none, none], [.int (-1)], Wd f fl g gl hh v tx)) rfl ?_
        exact WP.retI hP_215 rfl rfl h20

set_option maxRecDepth 20000 in
theorem b_m_plan_85 (X : mm_X) (d : Nat) (f : Nat → Int32) (fl : Nat → Int64) (g : Nat → Nat → Int32) (gl : Nat → Nat → Int64) (hh : Nat → Nat → Option Nat) (v : Nat → Value) (tx : mm_W) (l3 : Int32) (l4 : Int32) (l5 : Int32) (l6 : Int32)  (P : Option Value → mm_W → Prop)
    (h : ((l3 < l6) → P (some (.int l5)) (Wd f fl g gl hh v tx)) ∧
    ((¬ (l3 < l6)) → ((¬ (l4 < 0 ∨ 1000 ≤ l4.toNatClampNeg)) ∧ (((¬ ((g 92) l4.toNatClampNeg) = 0) → WP X (d) 215 (106, [some (.ref 74), none, none, some (.int l3), some (.int l4), some (.int 0), some (.int l6)], [], Wd f fl g gl hh v tx) P) ∧
      ((((g 92) l4.toNatClampNeg) = 0) → P (some (.int (-1))) (Wd f fl g gl hh v tx)))))) :
    WP X (d) 215 (85, [some (.ref 74), none, none, some (.int l3), some (.int l4), some (.int l5), some (.int l6)], [], Wd f fl g gl hh v tx) P := by
  refine WP.run hP_215 2 (c' := (88, [some (.ref 74), none, none, some (.int l3), some (.int l4), some (.int l5), some (.int l6)], [.int l3, .int l6], Wd f fl g gl hh v tx)) rfl ?_
  refine WP.br hP_215 (q := l3 < l6) (t := 159) (f := 91) (L := [some (.ref 74), none, none, some (.int l3), some (.int l4), some (.int l5), some (.int l6)]) (st := []) (w := Wd f fl g gl hh v tx) rfl (fun c1 => ?_) (fun c1 => ?_)
  · have h2 := h.1 c1
    refine WP.run hP_215 1 (c' := (161, [none, none, none, none, none, some (.int l5), none], [.int l5], Wd f fl g gl hh v tx)) rfl ?_
    exact WP.retI hP_215 rfl rfl h2
  · have h3 := h.2 c1
    refine WP.run hP_215 3 (c' := (97, [some (.ref 74), none, none, some (.int l3), some (.int l4), some (.int l5), some (.int l6)], [.int l4, .ref 92], Wd f fl g gl hh v tx)) rfl ?_
    refine WP.of (fun _ _ => Ex.iald hP_215 rfl (Wa_92 _ _ _ _ _ _ _) h3.1) ?_
    have h4 := h3.2
    refine WP.br hP_215 (q := ¬ ((g 92) l4.toNatClampNeg) = 0) (t := 103) (f := 101) (L := [some (.ref 74), none, none, some (.int l3), some (.int l4), some (.int l5), some (.int l6)]) (st := []) (w := Wd f fl g gl hh v tx) rfl (fun c5 => ?_) (fun c5 => ?_)
    · have h6 := h4.1 c5
      refine WP.run hP_215 1 (c' := (104, [some (.ref 74), none, none, some (.int l3), some (.int l4), none, some (.int l6)], [.int 0], Wd f fl g gl hh v tx)) rfl ?_
      refine WP.run hP_215 1 (c' := (106, [some (.ref 74), none, none, some (.int l3), some (.int l4), some (.int 0), some (.int l6)], [], Wd f fl g gl hh v tx)) rfl ?_
      exact h6
    · have h7 := h4.2 (Classical.not_not.mp c5)
      refine WP.run hP_215 1 (c' := (102, [some (.ref 74), none, none, some (.int l3), some (.int l4), some (.int l5), some (.int l6)], [.int (-1)], Wd f fl g gl hh v tx)) rfl ?_
      exact WP.retI hP_215 rfl rfl h7

set_option maxRecDepth 20000 in
theorem b_m_plan_106 (X : mm_X) (d : Nat) (f : Nat → Int32) (fl : Nat → Int64) (g : Nat → Nat → Int32) (gl : Nat → Nat → Int64) (hh : Nat → Nat → Option Nat) (v : Nat → Value) (tx : mm_W) (l3 : Int32) (l4 : Int32) (l5 : Int32) (l6 : Int32)  (P : Option Value → mm_W → Prop)
    (h : (¬ (((39 : Int32) + l5) < 0 ∨ 5667 ≤ ((39 : Int32) + l5).toNatClampNeg)) ∧ ((¬ ((((6 : Int32) * l4) + ((g 76) ((39 : Int32) + l5).toNatClampNeg)) < 0 ∨ 6000 ≤ (((6 : Int32) * l4) + ((g 76) ((39 : Int32) + l5).toNatClampNeg)).toNatClampNeg)) ∧ ((¬ (((g 91) (((6 : Int32) * l4) + ((g 76) ((39 : Int32) + l5).toNatClampNeg)).toNatClampNeg) < 0 ∨ 1000 ≤ ((g 91) (((6 : Int32) * l4) + ((g 76) ((39 : Int32) + l5).toNatClampNeg)).toNatClampNeg).toNatClampNeg)) ∧ ((¬ (((31 : Int32) + l5) < 0 ∨ 5667 ≤ ((31 : Int32) + l5).toNatClampNeg)) ∧ ((((((g 92) ((g 91) (((6 : Int32) * l4) + ((g 76) ((39 : Int32) + l5).toNatClampNeg)).toNatClampNeg).toNatClampNeg) + ((g 76) ((31 : Int32) + l5).toNatClampNeg)) ≤ (1000000 : Int32)) → ((¬ (l4 < 0 ∨ 1000 ≤ l4.toNatClampNeg)) ∧ ((((((g 92) ((g 91) (((6 : Int32) * l4) + ((g 76) ((39 : Int32) + l5).toNatClampNeg)).toNatClampNeg).toNatClampNeg) + ((g 76) ((31 : Int32) + l5).toNatClampNeg)) = ((g 92) l4.toNatClampNeg)) → ((¬ (((39 : Int32) + l5) < 0 ∨ 5667 ≤ ((39 : Int32) + l5).toNatClampNeg)) ∧ ((¬ ((((6 : Int32) * l4) + ((g 76) ((39 : Int32) + l5).toNatClampNeg)) < 0 ∨ 6000 ≤ (((6 : Int32) * l4) + ((g 76) ((39 : Int32) + l5).toNatClampNeg)).toNatClampNeg)) ∧ WP X (d + 2) 215 (85, [some (.ref 74), none, none, some (.int l3), some (.int ((g 91) (((6 : Int32) * l4) + ((g 76) ((39 : Int32) + l5).toNatClampNeg)).toNatClampNeg)), some (.int l5), some (.int (l6 + (1 : Int32)))], [], Wd f fl g gl hh v tx) P))) ∧
      ((¬ (((g 92) ((g 91) (((6 : Int32) * l4) + ((g 76) ((39 : Int32) + l5).toNatClampNeg)).toNatClampNeg).toNatClampNeg) + ((g 76) ((31 : Int32) + l5).toNatClampNeg)) = ((g 92) l4.toNatClampNeg)) → WP X (d + 2) 215 (106, [some (.ref 74), none, none, some (.int l3), some (.int l4), some (.int (l5 + (1 : Int32))), some (.int l6)], [], Wd f fl g gl hh v tx) P)))) ∧
    ((¬ ((((g 92) ((g 91) (((6 : Int32) * l4) + ((g 76) ((39 : Int32) + l5).toNatClampNeg)).toNatClampNeg).toNatClampNeg) + ((g 76) ((31 : Int32) + l5).toNatClampNeg)) ≤ (1000000 : Int32))) → ((¬ (l4 < 0 ∨ 1000 ≤ l4.toNatClampNeg)) ∧ (((1000000 = ((g 92) l4.toNatClampNeg)) → ((¬ (((39 : Int32) + l5) < 0 ∨ 5667 ≤ ((39 : Int32) + l5).toNatClampNeg)) ∧ ((¬ ((((6 : Int32) * l4) + ((g 76) ((39 : Int32) + l5).toNatClampNeg)) < 0 ∨ 6000 ≤ (((6 : Int32) * l4) + ((g 76) ((39 : Int32) + l5).toNatClampNeg)).toNatClampNeg)) ∧ WP X (d + 2) 215 (85, [some (.ref 74), none, none, some (.int l3), some (.int ((g 91) (((6 : Int32) * l4) + ((g 76) ((39 : Int32) + l5).toNatClampNeg)).toNatClampNeg)), some (.int l5), some (.int (l6 + (1 : Int32)))], [], Wd f fl g gl hh v tx) P))) ∧
      ((¬ 1000000 = ((g 92) l4.toNatClampNeg)) → WP X (d + 2) 215 (106, [some (.ref 74), none, none, some (.int l3), some (.int l4), some (.int (l5 + (1 : Int32))), some (.int l6)], [], Wd f fl g gl hh v tx) P))))))))) :
    WP X (d + 2) 215 (106, [some (.ref 74), none, none, some (.int l3), some (.int l4), some (.int l5), some (.int l6)], [], Wd f fl g gl hh v tx) P := by
  refine WP.run hP_215 3 (c' := (111, [some (.ref 74), none, none, some (.int l3), some (.int l4), some (.int l5), some (.int l6)], [.int l5, .int l4, .ref 74], Wd f fl g gl hh v tx)) rfl ?_
  refine WP.call hP_215 hP_213 (as := [.ref 74, .int l4, .int l5]) (pc' := 114) (L' := [some (.ref 74), none, none, some (.int l3), some (.int l4), some (.int l5), some (.int l6)]) (st' := []) (w1 := Wd f fl g gl hh v tx) rfl ⟨Nat.le_of_ble_eq_true rfl, Nat.le_of_ble_eq_true rfl⟩ rfl (b_m_leftWith_0 X (d) f fl g gl hh v tx l4 l5 _ ?_)
  refine ⟨h.1, ?_⟩
  have h1 := h.2
  refine ⟨h1.1, ?_⟩
  have h2 := h1.2
  refine ⟨h2.1, ?_⟩
  have h3 := h2.2
  refine ⟨h3.1, ?_⟩
  have h4 := h3.2
  refine ⟨fun c5 => ?_, fun c5 => ?_⟩
  · have h6 := h4.1 c5
    refine WP.run hP_215 3 (c' := (120, [some (.ref 74), none, none, some (.int l3), some (.int l4), some (.int l5), some (.int l6)], [.int l4, .ref 92, .int (((g 92) ((g 91) (((6 : Int32) * l4) + ((g 76) ((39 : Int32) + l5).toNatClampNeg)).toNatClampNeg).toNatClampNeg) + ((g 76) ((31 : Int32) + l5).toNatClampNeg))], Wd f fl g gl hh v tx)) rfl ?_
    refine WP.of (fun _ _ => Ex.iald hP_215 rfl (Wa_92 _ _ _ _ _ _ _) h6.1) ?_
    have h7 := h6.2
    refine WP.br hP_215 (q := (((g 92) ((g 91) (((6 : Int32) * l4) + ((g 76) ((39 : Int32) + l5).toNatClampNeg)).toNatClampNeg).toNatClampNeg) + ((g 76) ((31 : Int32) + l5).toNatClampNeg)) = ((g 92) l4.toNatClampNeg)) (t := 130) (f := 124) (L := [some (.ref 74), none, none, some (.int l3), some (.int l4), some (.int l5), some (.int l6)]) (st := []) (w := Wd f fl g gl hh v tx) rfl (fun c8 => ?_) (fun c8 => ?_)
    · have h9 := h7.1 c8
      refine WP.run hP_215 10 (c' := (148, [some (.ref 74), none, none, some (.int l3), some (.int l4), some (.int l5), some (.int l6)], [.int ((39 : Int32) + l5), .ref 76, .int ((6 : Int32) * l4), .ref 91], Wd f fl g gl hh v tx)) rfl ?_
      refine WP.of (fun _ _ => Ex.iald hP_215 rfl (Wa_76 _ _ _ _ _ _ _) h9.1) ?_
      have h10 := h9.2
      refine WP.run hP_215 1 (c' := (150, [some (.ref 74), none, none, some (.int l3), some (.int l4), some (.int l5), some (.int l6)], [.int (((6 : Int32) * l4) + ((g 76) ((39 : Int32) + l5).toNatClampNeg)), .ref 91], Wd f fl g gl hh v tx)) rfl ?_
      refine WP.of (fun _ _ => Ex.iald hP_215 rfl (Wa_91 _ _ _ _ _ _ _) h10.1) ?_
      have h11 := h10.2
      refine WP.run hP_215 1 (c' := (153, [some (.ref 74), none, none, some (.int l3), some (.int ((g 91) (((6 : Int32) * l4) + ((g 76) ((39 : Int32) + l5).toNatClampNeg)).toNatClampNeg)), some (.int l5), some (.int l6)], [], Wd f fl g gl hh v tx)) rfl ?_
      refine WP.run hP_215 2 (c' := (85, [some (.ref 74), none, none, some (.int l3), some (.int ((g 91) (((6 : Int32) * l4) + ((g 76) ((39 : Int32) + l5).toNatClampNeg)).toNatClampNeg)), some (.int l5), some (.int (l6 + (1 : Int32)))], [], Wd f fl g gl hh v tx)) rfl ?_
      exact h11
    · have h12 := h7.2 c8
      refine WP.run hP_215 2 (c' := (106, [some (.ref 74), none, none, some (.int l3), some (.int l4), some (.int (l5 + (1 : Int32))), some (.int l6)], [], Wd f fl g gl hh v tx)) rfl ?_
      exact h12
  · have h13 := h4.2 c5
    refine WP.run hP_215 3 (c' := (120, [some (.ref 74), none, none, some (.int l3), some (.int l4), some (.int l5), some (.int l6)], [.int l4, .ref 92, .int 1000000], Wd f fl g gl hh v tx)) rfl ?_
    refine WP.of (fun _ _ => Ex.iald hP_215 rfl (Wa_92 _ _ _ _ _ _ _) h13.1) ?_
    have h14 := h13.2
    refine WP.br hP_215 (q := 1000000 = ((g 92) l4.toNatClampNeg)) (t := 130) (f := 124) (L := [some (.ref 74), none, none, some (.int l3), some (.int l4), some (.int l5), some (.int l6)]) (st := []) (w := Wd f fl g gl hh v tx) rfl (fun c15 => ?_) (fun c15 => ?_)
    · have h16 := h14.1 c15
      refine WP.run hP_215 10 (c' := (148, [some (.ref 74), none, none, some (.int l3), some (.int l4), some (.int l5), some (.int l6)], [.int ((39 : Int32) + l5), .ref 76, .int ((6 : Int32) * l4), .ref 91], Wd f fl g gl hh v tx)) rfl ?_
      refine WP.of (fun _ _ => Ex.iald hP_215 rfl (Wa_76 _ _ _ _ _ _ _) h16.1) ?_
      have h17 := h16.2
      refine WP.run hP_215 1 (c' := (150, [some (.ref 74), none, none, some (.int l3), some (.int l4), some (.int l5), some (.int l6)], [.int (((6 : Int32) * l4) + ((g 76) ((39 : Int32) + l5).toNatClampNeg)), .ref 91], Wd f fl g gl hh v tx)) rfl ?_
      refine WP.of (fun _ _ => Ex.iald hP_215 rfl (Wa_91 _ _ _ _ _ _ _) h17.1) ?_
      have h18 := h17.2
      refine WP.run hP_215 1 (c' := (153, [some (.ref 74), none, none, some (.int l3), some (.int ((g 91) (((6 : Int32) * l4) + ((g 76) ((39 : Int32) + l5).toNatClampNeg)).toNatClampNeg)), some (.int l5), some (.int l6)], [], Wd f fl g gl hh v tx)) rfl ?_
      refine WP.run hP_215 2 (c' := (85, [some (.ref 74), none, none, some (.int l3), some (.int ((g 91) (((6 : Int32) * l4) + ((g 76) ((39 : Int32) + l5).toNatClampNeg)).toNatClampNeg)), some (.int l5), some (.int (l6 + (1 : Int32)))], [], Wd f fl g gl hh v tx)) rfl ?_
      exact h18
    · have h19 := h14.2 c15
      refine WP.run hP_215 2 (c' := (106, [some (.ref 74), none, none, some (.int l3), some (.int l4), some (.int (l5 + (1 : Int32))), some (.int l6)], [], Wd f fl g gl hh v tx)) rfl ?_
      exact h19

set_option maxRecDepth 20000 in
theorem b_m_restOf_0 (X : mm_X) (d : Nat) (f : Nat → Int32) (fl : Nat → Int64) (g : Nat → Nat → Int32) (gl : Nat → Nat → Int64) (hh : Nat → Nat → Option Nat) (v : Nat → Value) (tx : mm_W) (p0 : Int32) (p1 : Int32)  (P : Option Value → mm_W → Prop)
    (h : WP X (d) 216 (5, [some (.ref 74), some (.int p0), none, some (.int 0), some (.int p1)], [], Wd f fl g gl hh v tx) P) :
    WP X (d) 216 (0, [some (.ref 74), some (.int p0), some (.int p1), none, none], [], Wd f fl g gl hh v tx) P := by
  refine WP.run hP_216 3 (c' := (3, [some (.ref 74), some (.int p0), some (.int p1), some (.int 0), none], [.int p1], Wd f fl g gl hh v tx)) rfl ?_
  refine WP.run hP_216 1 (c' := (5, [some (.ref 74), some (.int p0), some (.int p1), some (.int 0), some (.int p1)], [], Wd f fl g gl hh v tx)) rfl ?_
  refine WP.clr hP_216 (pc := 5) rfl ?_
  exact h

set_option maxRecDepth 20000 in
theorem b_m_restOf_5 (X : mm_X) (d : Nat) (f : Nat → Int32) (fl : Nat → Int64) (g : Nat → Nat → Int32) (gl : Nat → Nat → Int64) (hh : Nat → Nat → Option Nat) (v : Nat → Value) (tx : mm_W) (l1 : Int32) (l3 : Int32) (l4 : Int32)  (P : Option Value → mm_W → Prop)
    (h : (¬ (((31 : Int32) + l1) < 0 ∨ 5667 ≤ ((31 : Int32) + l1).toNatClampNeg)) ∧ (((((g 76) ((31 : Int32) + l1).toNatClampNeg) ≤ l4) → P (some (.int l3)) (Wd f fl g gl hh v tx)) ∧
    ((¬ (((g 76) ((31 : Int32) + l1).toNatClampNeg) ≤ l4)) → WP X (d) 137 (0, [some (.ref 74), some (.int l1), some (.int l4), none, none], [], Wd f fl g gl hh v tx) (fun rv w2 => WP X (d + 1) 216 (29, [some (.ref 74), some (.int l1), none, some (.int l3), some (.int l4)], rv.toList ++ [.int ((5 : Int32) * l3)], w2) P)))) :
    WP X (d + 1) 216 (5, [some (.ref 74), some (.int l1), none, some (.int l3), some (.int l4)], [], Wd f fl g gl hh v tx) P := by
  refine WP.run hP_216 6 (c' := (15, [some (.ref 74), some (.int l1), none, some (.int l3), some (.int l4)], [.int ((31 : Int32) + l1), .ref 76, .int l4], Wd f fl g gl hh v tx)) rfl ?_
  refine WP.of (fun _ _ => Ex.iald hP_216 rfl (Wa_76 _ _ _ _ _ _ _) h.1) ?_
  have h1 := h.2
  refine WP.br hP_216 (q := ((g 76) ((31 : Int32) + l1).toNatClampNeg) ≤ l4) (t := 39) (f := 19) (L := [some (.ref 74), some (.int l1), none, some (.int l3), some (.int l4)]) (st := []) (w := Wd f fl g gl hh v tx) rfl (fun c2 => ?_) (fun c2 => ?_)
  · have h3 := h1.1 c2
    refine WP.run hP_216 1 (c' := (40, [none, none, none, some (.int l3), none], [.int l3], Wd f fl g gl hh v tx)) rfl ?_
    exact WP.retI hP_216 rfl rfl h3
  · have h4 := h1.2 c2
    refine WP.run hP_216 6 (c' := (26, [some (.ref 74), some (.int l1), none, some (.int l3), some (.int l4)], [.int l4, .int l1, .ref 74, .int ((5 : Int32) * l3)], Wd f fl g gl hh v tx)) rfl ?_
    refine WP.call hP_216 hP_137 (as := [.ref 74, .int l1, .int l4]) (pc' := 29) (L' := [some (.ref 74), some (.int l1), none, some (.int l3), some (.int l4)]) (st' := [.int ((5 : Int32) * l3)]) (w1 := Wd f fl g gl hh v tx) rfl ⟨Nat.le_of_ble_eq_true rfl, Nat.le_of_ble_eq_true rfl⟩ rfl ?_
    exact h4

set_option maxRecDepth 20000 in
theorem b_m_restOf_29 (X : mm_X) (d : Nat) (f : Nat → Int32) (fl : Nat → Int64) (g : Nat → Nat → Int32) (gl : Nat → Nat → Int64) (hh : Nat → Nat → Option Nat) (v : Nat → Value) (tx : mm_W) (l1 : Int32) (l3 : Int32) (l4 : Int32) (s0 : Int32) (s1 : Int32)  (P : Option Value → mm_W → Prop)
    (h : WP X (d) 216 (5, [some (.ref 74), some (.int l1), none, some (.int ((s1 + s0) + (1 : Int32))), some (.int (l4 + (1 : Int32)))], [], Wd f fl g gl hh v tx) P) :
    WP X (d) 216 (29, [some (.ref 74), some (.int l1), none, some (.int l3), some (.int l4)], [.int s0, .int s1], Wd f fl g gl hh v tx) P := by
  refine WP.run hP_216 4 (c' := (33, [some (.ref 74), some (.int l1), none, some (.int ((s1 + s0) + (1 : Int32))), some (.int l4)], [], Wd f fl g gl hh v tx)) rfl ?_
  refine WP.run hP_216 2 (c' := (5, [some (.ref 74), some (.int l1), none, some (.int ((s1 + s0) + (1 : Int32))), some (.int (l4 + (1 : Int32)))], [], Wd f fl g gl hh v tx)) rfl ?_
  exact h

set_option maxRecDepth 20000 in
theorem b_m_longFive_0 (X : mm_X) (d : Nat) (f : Nat → Int32) (fl : Nat → Int64) (g : Nat → Nat → Int32) (gl : Nat → Nat → Int64) (hh : Nat → Nat → Option Nat) (v : Nat → Value) (tx : mm_W) (p0 : Int32)  (P : Option Value → mm_W → Prop)
    (h : WP X (d) 217 (4, [none, some (.int 0), some (.int p0)], [], Wd f fl g gl hh v tx) P) :
    WP X (d) 217 (0, [some (.int p0), none, none], [], Wd f fl g gl hh v tx) P := by
  refine WP.run hP_217 3 (c' := (3, [some (.int p0), some (.int 0), none], [.int p0], Wd f fl g gl hh v tx)) rfl ?_
  refine WP.run hP_217 1 (c' := (4, [some (.int p0), some (.int 0), some (.int p0)], [], Wd f fl g gl hh v tx)) rfl ?_
  refine WP.clr hP_217 (pc := 4) rfl ?_
  exact h

set_option maxRecDepth 20000 in
theorem b_m_longFive_4 (X : mm_X) (d : Nat) (f : Nat → Int32) (fl : Nat → Int64) (g : Nat → Nat → Int32) (gl : Nat → Nat → Int64) (hh : Nat → Nat → Option Nat) (v : Nat → Value) (tx : mm_W) (l1 : Int32) (l2 : Int32)  (P : Option Value → mm_W → Prop)
    (h : ((l2 ≤ 0) → P (some (.int l1)) (Wd f fl g gl hh v tx)) ∧
    ((¬ (l2 ≤ 0)) → WP X (d) 217 (4, [none, some (.int (l1 + (1 : Int32))), some (.int (l2 / (5 : Int32)))], [], Wd f fl g gl hh v tx) P)) :
    WP X (d) 217 (4, [none, some (.int l1), some (.int l2)], [], Wd f fl g gl hh v tx) P := by
  refine WP.run hP_217 1 (c' := (5, [none, some (.int l1), some (.int l2)], [.int l2], Wd f fl g gl hh v tx)) rfl ?_
  refine WP.br hP_217 (q := l2 ≤ 0) (t := 18) (f := 8) (L := [none, some (.int l1), some (.int l2)]) (st := []) (w := Wd f fl g gl hh v tx) rfl (fun c1 => ?_) (fun c1 => ?_)
  · have h2 := h.1 c1
    refine WP.run hP_217 1 (c' := (19, [none, some (.int l1), none], [.int l1], Wd f fl g gl hh v tx)) rfl ?_
    exact WP.retI hP_217 rfl rfl h2
  · have h3 := h.2 c1
    refine WP.run hP_217 4 (c' := (14, [none, some (.int (l1 + (1 : Int32))), some (.int l2)], [.int (l2 / (5 : Int32))], Wd f fl g gl hh v tx)) rfl ?_
    refine WP.run hP_217 2 (c' := (4, [none, some (.int (l1 + (1 : Int32))), some (.int (l2 / (5 : Int32)))], [], Wd f fl g gl hh v tx)) rfl ?_
    exact h3

set_option maxRecDepth 20000 in
theorem b_m_digitOf_0 (X : mm_X) (d : Nat) (f : Nat → Int32) (fl : Nat → Int64) (g : Nat → Nat → Int32) (gl : Nat → Nat → Int64) (hh : Nat → Nat → Option Nat) (v : Nat → Value) (tx : mm_W) (p0 : Int32) (p1 : Int32) (p2 : Int32)  (P : Option Value → mm_W → Prop)
    (h : WP X (d) 218 (7, [none, none, some (.int p2), some (.int p0), some (.int (p1 - (1 : Int32)))], [], Wd f fl g gl hh v tx) P) :
    WP X (d) 218 (0, [some (.int p0), some (.int p1), some (.int p2), none, none], [], Wd f fl g gl hh v tx) P := by
  refine WP.run hP_218 5 (c' := (5, [some (.int p0), some (.int p1), some (.int p2), some (.int p0), none], [.int (p1 - (1 : Int32))], Wd f fl g gl hh v tx)) rfl ?_
  refine WP.run hP_218 1 (c' := (7, [some (.int p0), some (.int p1), some (.int p2), some (.int p0), some (.int (p1 - (1 : Int32)))], [], Wd f fl g gl hh v tx)) rfl ?_
  refine WP.clr hP_218 (pc := 7) rfl ?_
  exact h

set_option maxRecDepth 20000 in
theorem b_m_digitOf_7 (X : mm_X) (d : Nat) (f : Nat → Int32) (fl : Nat → Int64) (g : Nat → Nat → Int32) (gl : Nat → Nat → Int64) (hh : Nat → Nat → Option Nat) (v : Nat → Value) (tx : mm_W) (l2 : Int32) (l3 : Int32) (l4 : Int32)  (P : Option Value → mm_W → Prop)
    (h : ((l4 ≤ l2) → P (some (.int (l3 - (l3 / (5 : Int32)) * (5 : Int32)))) (Wd f fl g gl hh v tx)) ∧
    ((¬ (l4 ≤ l2)) → WP X (d) 218 (7, [none, none, some (.int l2), some (.int (l3 / (5 : Int32))), some (.int (l4 + (-1 : Int32)))], [], Wd f fl g gl hh v tx) P)) :
    WP X (d) 218 (7, [none, none, some (.int l2), some (.int l3), some (.int l4)], [], Wd f fl g gl hh v tx) P := by
  refine WP.run hP_218 2 (c' := (10, [none, none, some (.int l2), some (.int l3), some (.int l4)], [.int l2, .int l4], Wd f fl g gl hh v tx)) rfl ?_
  refine WP.br hP_218 (q := l4 ≤ l2) (t := 23) (f := 13) (L := [none, none, some (.int l2), some (.int l3), some (.int l4)]) (st := []) (w := Wd f fl g gl hh v tx) rfl (fun c1 => ?_) (fun c1 => ?_)
  · have h2 := h.1 c1
    refine WP.run hP_218 3 (c' := (26, [none, none, none, some (.int l3), none], [.int (l3 - (l3 / (5 : Int32)) * (5 : Int32))], Wd f fl g gl hh v tx)) rfl ?_
    exact WP.retI hP_218 rfl rfl h2
  · have h3 := h.2 c1
    refine WP.run hP_218 4 (c' := (17, [none, none, some (.int l2), some (.int (l3 / (5 : Int32))), some (.int l4)], [], Wd f fl g gl hh v tx)) rfl ?_
    refine WP.run hP_218 2 (c' := (7, [none, none, some (.int l2), some (.int (l3 / (5 : Int32))), some (.int (l4 + (-1 : Int32)))], [], Wd f fl g gl hh v tx)) rfl ?_
    exact h3

set_option maxRecDepth 20000 in
theorem b_m_areAlike_0 (X : mm_X) (d : Nat) (f : Nat → Int32) (fl : Nat → Int64) (g : Nat → Nat → Int32) (gl : Nat → Nat → Int64) (hh : Nat → Nat → Option Nat) (v : Nat → Value) (tx : mm_W) (p0 : Int32) (p1 : Int32)  (P : Option Value → mm_W → Prop)
    (h : WP X (d) 217 (0, [some (.int p0), none, none], [], Wd f fl g gl hh v tx) (fun rv w2 => WP X (d + 1) 219 (4, [some (.ref 74), some (.int p0), some (.int p1), none, none, none], rv.toList ++ [], w2) P)) :
    WP X (d + 1) 219 (0, [some (.ref 74), some (.int p0), some (.int p1), none, none, none], [], Wd f fl g gl hh v tx) P := by
  refine WP.run hP_219 1 (c' := (1, [some (.ref 74), some (.int p0), some (.int p1), none, none, none], [.int p0], Wd f fl g gl hh v tx)) rfl ?_
  refine WP.call hP_219 hP_217 (as := [.int p0]) (pc' := 4) (L' := [some (.ref 74), some (.int p0), some (.int p1), none, none, none]) (st' := []) (w1 := Wd f fl g gl hh v tx) rfl ⟨Nat.le_of_ble_eq_true rfl, Nat.le_of_ble_eq_true rfl⟩ rfl ?_
  exact h

set_option maxRecDepth 20000 in
theorem b_m_areAlike_4 (X : mm_X) (d : Nat) (f : Nat → Int32) (fl : Nat → Int64) (g : Nat → Nat → Int32) (gl : Nat → Nat → Int64) (hh : Nat → Nat → Option Nat) (v : Nat → Value) (tx : mm_W) (l1 : Int32) (l2 : Int32) (s0 : Int32)  (P : Option Value → mm_W → Prop)
    (h : WP X (d) 219 (11, [some (.ref 74), some (.int l1), some (.int l2), some (.int s0), some (.int 1), some (.int 0)], [], Wd f fl g gl hh v tx) P) :
    WP X (d) 219 (4, [some (.ref 74), some (.int l1), some (.int l2), none, none, none], [.int s0], Wd f fl g gl hh v tx) P := by
  refine WP.run hP_219 2 (c' := (6, [some (.ref 74), some (.int l1), some (.int l2), some (.int s0), none, none], [.int 1], Wd f fl g gl hh v tx)) rfl ?_
  refine WP.run hP_219 2 (c' := (9, [some (.ref 74), some (.int l1), some (.int l2), some (.int s0), some (.int 1), none], [.int 0], Wd f fl g gl hh v tx)) rfl ?_
  refine WP.run hP_219 1 (c' := (11, [some (.ref 74), some (.int l1), some (.int l2), some (.int s0), some (.int 1), some (.int 0)], [], Wd f fl g gl hh v tx)) rfl ?_
  exact h

set_option maxRecDepth 20000 in
theorem b_m_areAlike_11 (X : mm_X) (d : Nat) (f : Nat → Int32) (fl : Nat → Int64) (g : Nat → Nat → Int32) (gl : Nat → Nat → Int64) (hh : Nat → Nat → Option Nat) (v : Nat → Value) (tx : mm_W) (l1 : Int32) (l2 : Int32) (l3 : Int32) (l4 : Int32) (l5 : Int32)  (P : Option Value → mm_W → Prop)
    (h : ((l3 ≤ l5) → ((l4 = 0 ∨ l4 = 1) ∧ P (some (.int l4)) (Wd f fl g gl hh v tx))) ∧
    ((¬ (l3 ≤ l5)) → ((¬ (((31 : Int32) + l2) < 0 ∨ 5667 ≤ ((31 : Int32) + l2).toNatClampNeg)) ∧ (((((g 76) ((31 : Int32) + l2).toNatClampNeg) ≤ l5) → ((l4 = 0 ∨ l4 = 1) ∧ P (some (.int l4)) (Wd f fl g gl hh v tx))) ∧
      ((¬ (((g 76) ((31 : Int32) + l2).toNatClampNeg) ≤ l5)) → (((l4 = 0) → WP X (d + 1) 219 (11, [some (.ref 74), some (.int l1), some (.int l2), some (.int l3), some (.int 0), some (.int (l5 + (1 : Int32)))], [], Wd f fl g gl hh v tx) P) ∧
        ((¬ l4 = 0) → WP X (d) 218 (0, [some (.int l1), some (.int l3), some (.int l5), none, none], [], Wd f fl g gl hh v tx) (fun rv w2 => WP X (d + 1) 219 (43, [some (.ref 74), some (.int l1), some (.int l2), some (.int l3), some (.int l4), some (.int l5)], rv.toList ++ [], w2) P)))))))) :
    WP X (d + 1) 219 (11, [some (.ref 74), some (.int l1), some (.int l2), some (.int l3), some (.int l4), some (.int l5)], [], Wd f fl g gl hh v tx) P := by
  refine WP.run hP_219 2 (c' := (14, [some (.ref 74), some (.int l1), some (.int l2), some (.int l3), some (.int l4), some (.int l5)], [.int l3, .int l5], Wd f fl g gl hh v tx)) rfl ?_
  refine WP.br hP_219 (q := l3 ≤ l5) (t := 68) (f := 17) (L := [some (.ref 74), some (.int l1), some (.int l2), some (.int l3), some (.int l4), some (.int l5)]) (st := []) (w := Wd f fl g gl hh v tx) rfl (fun c1 => ?_) (fun c1 => ?_)
  · have h2 := h.1 c1
    refine WP.run hP_219 1 (c' := (70, [none, none, none, none, some (.int l4), none], [.int l4], Wd f fl g gl hh v tx)) rfl ?_
    exact WP.retZ hP_219 rfl rfl h2.1 h2.2
  · have h3 := h.2 c1
    refine WP.run hP_219 6 (c' := (27, [some (.ref 74), some (.int l1), some (.int l2), some (.int l3), some (.int l4), some (.int l5)], [.int ((31 : Int32) + l2), .ref 76, .int l5], Wd f fl g gl hh v tx)) rfl ?_
    refine WP.of (fun _ _ => Ex.iald hP_219 rfl (Wa_76 _ _ _ _ _ _ _) h3.1) ?_
    have h4 := h3.2
    refine WP.br hP_219 (q := ((g 76) ((31 : Int32) + l2).toNatClampNeg) ≤ l5) (t := 68) (f := 31) (L := [some (.ref 74), some (.int l1), some (.int l2), some (.int l3), some (.int l4), some (.int l5)]) (st := []) (w := Wd f fl g gl hh v tx) rfl (fun c5 => ?_) (fun c5 => ?_)
    · have h6 := h4.1 c5
      refine WP.run hP_219 1 (c' := (70, [none, none, none, none, some (.int l4), none], [.int l4], Wd f fl g gl hh v tx)) rfl ?_
      exact WP.retZ hP_219 rfl rfl h6.1 h6.2
    · have h7 := h4.2 c5
      refine WP.run hP_219 1 (c' := (33, [some (.ref 74), some (.int l1), some (.int l2), some (.int l3), some (.int l4), some (.int l5)], [.int l4], Wd f fl g gl hh v tx)) rfl ?_
      refine WP.br hP_219 (q := l4 = 0) (t := 59) (f := 36) (L := [some (.ref 74), some (.int l1), some (.int l2), some (.int l3), some (.int l4), some (.int l5)]) (st := []) (w := Wd f fl g gl hh v tx) rfl (fun c8 => ?_) (fun c8 => ?_)
      · have h9 := h7.1 c8
        refine WP.run hP_219 1 (c' := (60, [some (.ref 74), some (.int l1), some (.int l2), some (.int l3), none, some (.int l5)], [.int 0], Wd f fl g gl hh v tx)) rfl ?_
        refine WP.run hP_219 1 (c' := (62, [some (.ref 74), some (.int l1), some (.int l2), some (.int l3), some (.int 0), some (.int l5)], [], Wd f fl g gl hh v tx)) rfl ?_
        refine WP.run hP_219 2 (c' := (11, [some (.ref 74), some (.int l1), some (.int l2), some (.int l3), some (.int 0), some (.int (l5 + (1 : Int32)))], [], Wd f fl g gl hh v tx)) rfl ?_
        exact h9
      · have h10 := h7.2 c8
        refine WP.run hP_219 3 (c' := (40, [some (.ref 74), some (.int l1), some (.int l2), some (.int l3), some (.int l4), some (.int l5)], [.int l5, .int l3, .int l1], Wd f fl g gl hh v tx)) rfl ?_
        refine WP.call hP_219 hP_218 (as := [.int l1, .int l3, .int l5]) (pc' := 43) (L' := [some (.ref 74), some (.int l1), some (.int l2), some (.int l3), some (.int l4), some (.int l5)]) (st' := []) (w1 := Wd f fl g gl hh v tx) rfl ⟨Nat.le_of_ble_eq_true rfl, Nat.le_of_ble_eq_true rfl⟩ rfl ?_
        exact h10

set_option maxRecDepth 20000 in
theorem b_m_areAlike_43 (X : mm_X) (d : Nat) (f : Nat → Int32) (fl : Nat → Int64) (g : Nat → Nat → Int32) (gl : Nat → Nat → Int64) (hh : Nat → Nat → Option Nat) (v : Nat → Value) (tx : mm_W) (l1 : Int32) (l2 : Int32) (l3 : Int32) (l4 : Int32) (l5 : Int32) (s0 : Int32)  (P : Option Value → mm_W → Prop)
    (h : WP X (d) 137 (0, [some (.ref 74), some (.int l2), some (.int l5), none, none], [], Wd f fl g gl hh v tx) (fun rv w2 => WP X (d + 1) 219 (50, [some (.ref 74), some (.int l1), some (.int l2), some (.int l3), some (.int l4), some (.int l5)], rv.toList ++ [.int s0], w2) P)) :
    WP X (d + 1) 219 (43, [some (.ref 74), some (.int l1), some (.int l2), some (.int l3), some (.int l4), some (.int l5)], [.int s0], Wd f fl g gl hh v tx) P := by
  refine WP.run hP_219 3 (c' := (47, [some (.ref 74), some (.int l1), some (.int l2), some (.int l3), some (.int l4), some (.int l5)], [.int l5, .int l2, .ref 74, .int s0], Wd f fl g gl hh v tx)) rfl ?_
  refine WP.call hP_219 hP_137 (as := [.ref 74, .int l2, .int l5]) (pc' := 50) (L' := [some (.ref 74), some (.int l1), some (.int l2), some (.int l3), some (.int l4), some (.int l5)]) (st' := [.int s0]) (w1 := Wd f fl g gl hh v tx) rfl ⟨Nat.le_of_ble_eq_true rfl, Nat.le_of_ble_eq_true rfl⟩ rfl ?_
  exact h

set_option maxRecDepth 20000 in
theorem b_m_areAlike_50 (X : mm_X) (d : Nat) (f : Nat → Int32) (fl : Nat → Int64) (g : Nat → Nat → Int32) (gl : Nat → Nat → Int64) (hh : Nat → Nat → Option Nat) (v : Nat → Value) (tx : mm_W) (l1 : Int32) (l2 : Int32) (l3 : Int32) (l4 : Int32) (l5 : Int32) (s0 : Int32) (s1 : Int32)  (P : Option Value → mm_W → Prop)
    (h : ((¬ s1 = (s0 + (1 : Int32))) → WP X (d) 219 (11, [some (.ref 74), some (.int l1), some (.int l2), some (.int l3), some (.int 0), some (.int (l5 + (1 : Int32)))], [], Wd f fl g gl hh v tx) P) ∧
    ((s1 = (s0 + (1 : Int32))) → WP X (d) 219 (11, [some (.ref 74), some (.int l1), some (.int l2), some (.int l3), some (.int 1), some (.int (l5 + (1 : Int32)))], [], Wd f fl g gl hh v tx) P)) :
    WP X (d) 219 (50, [some (.ref 74), some (.int l1), some (.int l2), some (.int l3), some (.int l4), some (.int l5)], [.int s0, .int s1], Wd f fl g gl hh v tx) P := by
  refine WP.run hP_219 2 (c' := (52, [some (.ref 74), some (.int l1), some (.int l2), some (.int l3), some (.int l4), some (.int l5)], [.int (s0 + (1 : Int32)), .int s1], Wd f fl g gl hh v tx)) rfl ?_
  refine WP.br hP_219 (q := ¬ s1 = (s0 + (1 : Int32))) (t := 59) (f := 55) (L := [some (.ref 74), some (.int l1), some (.int l2), some (.int l3), some (.int l4), some (.int l5)]) (st := []) (w := Wd f fl g gl hh v tx) rfl (fun c1 => ?_) (fun c1 => ?_)
  · have h2 := h.1 c1
    refine WP.run hP_219 1 (c' := (60, [some (.ref 74), some (.int l1), some (.int l2), some (.int l3), none, some (.int l5)], [.int 0], Wd f fl g gl hh v tx)) rfl ?_
    refine WP.run hP_219 1 (c' := (62, [some (.ref 74), some (.int l1), some (.int l2), some (.int l3), some (.int 0), some (.int l5)], [], Wd f fl g gl hh v tx)) rfl ?_
    refine WP.run hP_219 2 (c' := (11, [some (.ref 74), some (.int l1), some (.int l2), some (.int l3), some (.int 0), some (.int (l5 + (1 : Int32)))], [], Wd f fl g gl hh v tx)) rfl ?_
    exact h2
  · have h3 := h.2 (Classical.not_not.mp c1)
    refine WP.run hP_219 3 (c' := (62, [some (.ref 74), some (.int l1), some (.int l2), some (.int l3), some (.int 1), some (.int l5)], [], Wd f fl g gl hh v tx)) rfl ?_
    refine WP.run hP_219 2 (c' := (11, [some (.ref 74), some (.int l1), some (.int l2), some (.int l3), some (.int 1), some (.int (l5 + (1 : Int32)))], [], Wd f fl g gl hh v tx)) rfl ?_
    exact h3

set_option maxRecDepth 20000 in
theorem b_m_without_0 (X : mm_X) (d : Nat) (f : Nat → Int32) (fl : Nat → Int64) (g : Nat → Nat → Int32) (gl : Nat → Nat → Int64) (hh : Nat → Nat → Option Nat) (v : Nat → Value) (tx : mm_W) (p0 : Int32) (p1 : Int32) (p2 : Int32)  (P : Option Value → mm_W → Prop)
    (h : WP X (d) 220 (5, [some (.int p0), some (.int p1), none, some (.int 0), some (.int p2)], [], Wd f fl g gl hh v tx) P) :
    WP X (d) 220 (0, [some (.int p0), some (.int p1), some (.int p2), none, none], [], Wd f fl g gl hh v tx) P := by
  refine WP.run hP_220 3 (c' := (3, [some (.int p0), some (.int p1), some (.int p2), some (.int 0), none], [.int p2], Wd f fl g gl hh v tx)) rfl ?_
  refine WP.run hP_220 1 (c' := (5, [some (.int p0), some (.int p1), some (.int p2), some (.int 0), some (.int p2)], [], Wd f fl g gl hh v tx)) rfl ?_
  refine WP.clr hP_220 (pc := 5) rfl ?_
  exact h

set_option maxRecDepth 20000 in
theorem b_m_without_5 (X : mm_X) (d : Nat) (f : Nat → Int32) (fl : Nat → Int64) (g : Nat → Nat → Int32) (gl : Nat → Nat → Int64) (hh : Nat → Nat → Option Nat) (v : Nat → Value) (tx : mm_W) (l0 : Int32) (l1 : Int32) (l3 : Int32) (l4 : Int32)  (P : Option Value → mm_W → Prop)
    (h : ((l1 ≤ l4) → P (some (.int l3)) (Wd f fl g gl hh v tx)) ∧
    ((¬ (l1 ≤ l4)) → WP X (d) 218 (0, [some (.int l0), some (.int l1), some (.int l4), none, none], [], Wd f fl g gl hh v tx) (fun rv w2 => WP X (d + 1) 220 (21, [some (.int l0), some (.int l1), none, some (.int l3), some (.int l4)], rv.toList ++ [.int ((5 : Int32) * l3)], w2) P))) :
    WP X (d + 1) 220 (5, [some (.int l0), some (.int l1), none, some (.int l3), some (.int l4)], [], Wd f fl g gl hh v tx) P := by
  refine WP.run hP_220 2 (c' := (8, [some (.int l0), some (.int l1), none, some (.int l3), some (.int l4)], [.int l1, .int l4], Wd f fl g gl hh v tx)) rfl ?_
  refine WP.br hP_220 (q := l1 ≤ l4) (t := 29) (f := 11) (L := [some (.int l0), some (.int l1), none, some (.int l3), some (.int l4)]) (st := []) (w := Wd f fl g gl hh v tx) rfl (fun c1 => ?_) (fun c1 => ?_)
  · have h2 := h.1 c1
    refine WP.run hP_220 1 (c' := (30, [none, none, none, some (.int l3), none], [.int l3], Wd f fl g gl hh v tx)) rfl ?_
    exact WP.retI hP_220 rfl rfl h2
  · have h3 := h.2 c1
    refine WP.run hP_220 6 (c' := (18, [some (.int l0), some (.int l1), none, some (.int l3), some (.int l4)], [.int l4, .int l1, .int l0, .int ((5 : Int32) * l3)], Wd f fl g gl hh v tx)) rfl ?_
    refine WP.call hP_220 hP_218 (as := [.int l0, .int l1, .int l4]) (pc' := 21) (L' := [some (.int l0), some (.int l1), none, some (.int l3), some (.int l4)]) (st' := [.int ((5 : Int32) * l3)]) (w1 := Wd f fl g gl hh v tx) rfl ⟨Nat.le_of_ble_eq_true rfl, Nat.le_of_ble_eq_true rfl⟩ rfl ?_
    exact h3

set_option maxRecDepth 20000 in
theorem b_m_without_21 (X : mm_X) (d : Nat) (f : Nat → Int32) (fl : Nat → Int64) (g : Nat → Nat → Int32) (gl : Nat → Nat → Int64) (hh : Nat → Nat → Option Nat) (v : Nat → Value) (tx : mm_W) (l0 : Int32) (l1 : Int32) (l3 : Int32) (l4 : Int32) (s0 : Int32) (s1 : Int32)  (P : Option Value → mm_W → Prop)
    (h : WP X (d) 220 (5, [some (.int l0), some (.int l1), none, some (.int (s1 + s0)), some (.int (l4 + (1 : Int32)))], [], Wd f fl g gl hh v tx) P) :
    WP X (d) 220 (21, [some (.int l0), some (.int l1), none, some (.int l3), some (.int l4)], [.int s0, .int s1], Wd f fl g gl hh v tx) P := by
  refine WP.run hP_220 2 (c' := (23, [some (.int l0), some (.int l1), none, some (.int (s1 + s0)), some (.int l4)], [], Wd f fl g gl hh v tx)) rfl ?_
  refine WP.run hP_220 2 (c' := (5, [some (.int l0), some (.int l1), none, some (.int (s1 + s0)), some (.int (l4 + (1 : Int32)))], [], Wd f fl g gl hh v tx)) rfl ?_
  exact h

set_option maxRecDepth 20000 in
theorem b_m_comesNear_0 (X : mm_X) (d : Nat) (f : Nat → Int32) (fl : Nat → Int64) (g : Nat → Nat → Int32) (gl : Nat → Nat → Int64) (hh : Nat → Nat → Option Nat) (v : Nat → Value) (tx : mm_W) (p0 : Int32) (p1 : Int32)  (P : Option Value → mm_W → Prop)
    (h : (¬ (p0 < 0 ∨ 125 ≤ p0.toNatClampNeg)) ∧ (((((g 93) p0.toNatClampNeg) ≤ p1) → ((¬ (p0 < 0 ∨ 125 ≤ p0.toNatClampNeg)) ∧ (((p1 ≤ ((g 93) p0.toNatClampNeg)) → ((¬ (p0 < 0 ∨ 125 ≤ p0.toNatClampNeg)) ∧ P (some (.int 0)) (Wd f fl (va_up g 93 (upd (g 93) (p0.toNatClampNeg) p1)) gl hh v tx))) ∧
      ((¬ (p1 ≤ ((g 93) p0.toNatClampNeg))) → ((¬ (p0 < 0 ∨ 125 ≤ p0.toNatClampNeg)) ∧ P (some (.int 0)) (Wd f fl (va_up g 93 (upd (g 93) (p0.toNatClampNeg) ((g 93) p0.toNatClampNeg))) gl hh v tx)))))) ∧
    ((¬ (((g 93) p0.toNatClampNeg) ≤ p1)) → ((¬ (p0 < 0 ∨ 125 ≤ p0.toNatClampNeg)) ∧ (((p1 ≤ ((g 93) p0.toNatClampNeg)) → ((¬ (p0 < 0 ∨ 125 ≤ p0.toNatClampNeg)) ∧ P (some (.int 1)) (Wd f fl (va_up g 93 (upd (g 93) (p0.toNatClampNeg) p1)) gl hh v tx))) ∧
      ((¬ (p1 ≤ ((g 93) p0.toNatClampNeg))) → ((¬ (p0 < 0 ∨ 125 ≤ p0.toNatClampNeg)) ∧ P (some (.int 1)) (Wd f fl (va_up g 93 (upd (g 93) (p0.toNatClampNeg) ((g 93) p0.toNatClampNeg))) gl hh v tx)))))))) :
    WP X (d + 1) 221 (0, [some (.ref 74), some (.int p0), some (.int p1), none], [], Wd f fl g gl hh v tx) P := by
  refine WP.run hP_221 4 (c' := (6, [some (.ref 74), some (.int p0), some (.int p1), none], [.int p0, .ref 93, .int p1], Wd f fl g gl hh v tx)) rfl ?_
  refine WP.of (fun _ _ => Ex.iald hP_221 rfl (Wa_93 _ _ _ _ _ _ _) h.1) ?_
  have h1 := h.2
  refine WP.br hP_221 (q := ((g 93) p0.toNatClampNeg) ≤ p1) (t := 14) (f := 10) (L := [some (.ref 74), some (.int p0), some (.int p1), none]) (st := []) (w := Wd f fl g gl hh v tx) rfl (fun c2 => ?_) (fun c2 => ?_)
  · have h3 := h1.1 c2
    refine WP.run hP_221 1 (c' := (15, [some (.ref 74), some (.int p0), some (.int p1), none], [.int 0], Wd f fl g gl hh v tx)) rfl ?_
    refine WP.run hP_221 7 (c' := (26, [some (.ref 74), some (.int p0), some (.int p1), some (.int 0)], [.int p0, .ref 93, .int p0, .ref 93], Wd f fl g gl hh v tx)) rfl ?_
    refine WP.of (fun _ _ => Ex.iald hP_221 rfl (Wa_93 _ _ _ _ _ _ _) h3.1) ?_
    have h4 := h3.2
    refine WP.run hP_221 1 (c' := (28, [some (.ref 74), some (.int p0), some (.int p1), some (.int 0)], [.int p1, .int ((g 93) p0.toNatClampNeg), .int p0, .ref 93], Wd f fl g gl hh v tx)) rfl ?_
    refine WP.call hP_221 hP_117 (as := [.int ((g 93) p0.toNatClampNeg), .int p1]) (pc' := 31) (L' := [some (.ref 74), some (.int p0), some (.int p1), some (.int 0)]) (st' := [.int p0, .ref 93]) (w1 := Wd f fl g gl hh v tx) rfl ⟨Nat.le_of_ble_eq_true rfl, Nat.le_of_ble_eq_true rfl⟩ rfl (b_m_lesser_0 X (d) f fl g gl hh v tx ((g 93) p0.toNatClampNeg) p1 _ ?_)
    refine ⟨fun c5 => ?_, fun c5 => ?_⟩
    · have h6 := h4.1 c5
      refine WP.of (fun _ _ => Ex.iast hP_221 (w2 := Wd f fl (va_up g 93 (upd (g 93) (p0.toNatClampNeg) p1)) gl hh v tx) rfl (Wa_93 _ _ _ _ _ _ _) h6.1 (Ws_93 _ _ _ _ _ _ _ _)) ?_
      have h7 := h6.2
      refine WP.run hP_221 1 (c' := (33, [some (.ref 74), some (.int p0), some (.int p1), some (.int 0)], [.int 0], Wd f fl (va_up g 93 (upd (g 93) (p0.toNatClampNeg) p1)) gl hh v tx)) rfl ?_
      exact WP.ret hP_221 (r := some (.int 0)) (w' := Wd f fl (va_up g 93 (upd (g 93) (p0.toNatClampNeg) p1)) gl hh v tx) rfl h7
    · have h8 := h4.2 c5
      refine WP.of (fun _ _ => Ex.iast hP_221 (w2 := Wd f fl (va_up g 93 (upd (g 93) (p0.toNatClampNeg) ((g 93) p0.toNatClampNeg))) gl hh v tx) rfl (Wa_93 _ _ _ _ _ _ _) h8.1 (Ws_93 _ _ _ _ _ _ _ _)) ?_
      have h9 := h8.2
      refine WP.run hP_221 1 (c' := (33, [some (.ref 74), some (.int p0), some (.int p1), some (.int 0)], [.int 0], Wd f fl (va_up g 93 (upd (g 93) (p0.toNatClampNeg) ((g 93) p0.toNatClampNeg))) gl hh v tx)) rfl ?_
      exact WP.ret hP_221 (r := some (.int 0)) (w' := Wd f fl (va_up g 93 (upd (g 93) (p0.toNatClampNeg) ((g 93) p0.toNatClampNeg))) gl hh v tx) rfl h9
  · have h10 := h1.2 c2
    refine WP.run hP_221 9 (c' := (26, [some (.ref 74), some (.int p0), some (.int p1), some (.int 1)], [.int p0, .ref 93, .int p0, .ref 93], Wd f fl g gl hh v tx)) rfl ?_
    refine WP.of (fun _ _ => Ex.iald hP_221 rfl (Wa_93 _ _ _ _ _ _ _) h10.1) ?_
    have h11 := h10.2
    refine WP.run hP_221 1 (c' := (28, [some (.ref 74), some (.int p0), some (.int p1), some (.int 1)], [.int p1, .int ((g 93) p0.toNatClampNeg), .int p0, .ref 93], Wd f fl g gl hh v tx)) rfl ?_
    refine WP.call hP_221 hP_117 (as := [.int ((g 93) p0.toNatClampNeg), .int p1]) (pc' := 31) (L' := [some (.ref 74), some (.int p0), some (.int p1), some (.int 1)]) (st' := [.int p0, .ref 93]) (w1 := Wd f fl g gl hh v tx) rfl ⟨Nat.le_of_ble_eq_true rfl, Nat.le_of_ble_eq_true rfl⟩ rfl (b_m_lesser_0 X (d) f fl g gl hh v tx ((g 93) p0.toNatClampNeg) p1 _ ?_)
    refine ⟨fun c12 => ?_, fun c12 => ?_⟩
    · have h13 := h11.1 c12
      refine WP.of (fun _ _ => Ex.iast hP_221 (w2 := Wd f fl (va_up g 93 (upd (g 93) (p0.toNatClampNeg) p1)) gl hh v tx) rfl (Wa_93 _ _ _ _ _ _ _) h13.1 (Ws_93 _ _ _ _ _ _ _ _)) ?_
      have h14 := h13.2
      refine WP.run hP_221 1 (c' := (33, [some (.ref 74), some (.int p0), some (.int p1), some (.int 1)], [.int 1], Wd f fl (va_up g 93 (upd (g 93) (p0.toNatClampNeg) p1)) gl hh v tx)) rfl ?_
      exact WP.ret hP_221 (r := some (.int 1)) (w' := Wd f fl (va_up g 93 (upd (g 93) (p0.toNatClampNeg) p1)) gl hh v tx) rfl h14
    · have h15 := h11.2 c12
      refine WP.of (fun _ _ => Ex.iast hP_221 (w2 := Wd f fl (va_up g 93 (upd (g 93) (p0.toNatClampNeg) ((g 93) p0.toNatClampNeg))) gl hh v tx) rfl (Wa_93 _ _ _ _ _ _ _) h15.1 (Ws_93 _ _ _ _ _ _ _ _)) ?_
      have h16 := h15.2
      refine WP.run hP_221 1 (c' := (33, [some (.ref 74), some (.int p0), some (.int p1), some (.int 1)], [.int 1], Wd f fl (va_up g 93 (upd (g 93) (p0.toNatClampNeg) ((g 93) p0.toNatClampNeg))) gl hh v tx)) rfl ?_
      exact WP.ret hP_221 (r := some (.int 1)) (w' := Wd f fl (va_up g 93 (upd (g 93) (p0.toNatClampNeg) ((g 93) p0.toNatClampNeg))) gl hh v tx) rfl h16

set_option maxRecDepth 20000 in
theorem b_m_begins_0 (X : mm_X) (d : Nat) (f : Nat → Int32) (fl : Nat → Int64) (g : Nat → Nat → Int32) (gl : Nat → Nat → Int64) (hh : Nat → Nat → Option Nat) (v : Nat → Value) (tx : mm_W) (p0 : Int32)  (P : Option Value → mm_W → Prop)
    (h : WP X (d) 222 (2, [some (.ref 74), some (.int p0), some (.int 0), none], [], Wd f fl g gl hh v tx) P) :
    WP X (d) 222 (0, [some (.ref 74), some (.int p0), none, none], [], Wd f fl g gl hh v tx) P := by
  refine WP.run hP_222 2 (c' := (2, [some (.ref 74), some (.int p0), some (.int 0), none], [], Wd f fl g gl hh v tx)) rfl ?_
  exact h

set_option maxRecDepth 20000 in
theorem b_m_begins_2 (X : mm_X) (d : Nat) (f : Nat → Int32) (fl : Nat → Int64) (g : Nat → Nat → Int32) (gl : Nat → Nat → Int64) (hh : Nat → Nat → Option Nat) (v : Nat → Value) (tx : mm_W) (l1 : Int32) (l2 : Int32)  (P : Option Value → mm_W → Prop)
    (h : ((125 ≤ l2) → WP X (d) 222 (24, [some (.ref 74), some (.int l1), some (.int 0), none], [], Wd f fl g gl hh v tx) P) ∧
    ((¬ (125 ≤ l2)) → ((¬ (l2 < 0 ∨ 125 ≤ l2.toNatClampNeg)) ∧ WP X (d) 222 (2, [some (.ref 74), some (.int l1), some (.int (l2 + (1 : Int32))), none], [], Wd f fl (va_up g 93 (upd (g 93) (l2.toNatClampNeg) 1000000)) gl hh v tx) P))) :
    WP X (d) 222 (2, [some (.ref 74), some (.int l1), some (.int l2), none], [], Wd f fl g gl hh v tx) P := by
  refine WP.run hP_222 2 (c' := (5, [some (.ref 74), some (.int l1), some (.int l2), none], [.int 125, .int l2], Wd f fl g gl hh v tx)) rfl ?_
  refine WP.br hP_222 (q := 125 ≤ l2) (t := 22) (f := 8) (L := [some (.ref 74), some (.int l1), some (.int l2), none]) (st := []) (w := Wd f fl g gl hh v tx) rfl (fun c1 => ?_) (fun c1 => ?_)
  · have h2 := h.1 c1
    refine WP.run hP_222 1 (c' := (23, [some (.ref 74), some (.int l1), none, none], [.int 0], Wd f fl g gl hh v tx)) rfl ?_
    refine WP.run hP_222 1 (c' := (24, [some (.ref 74), some (.int l1), some (.int 0), none], [], Wd f fl g gl hh v tx)) rfl ?_
    exact h2
  · have h3 := h.2 c1
    refine WP.run hP_222 4 (c' := (15, [some (.ref 74), some (.int l1), some (.int l2), none], [.int 1000000, .int l2, .ref 93], Wd f fl g gl hh v tx)) rfl ?_
    refine WP.of (fun _ _ => Ex.iast hP_222 (w2 := Wd f fl (va_up g 93 (upd (g 93) (l2.toNatClampNeg) 1000000)) gl hh v tx) rfl (Wa_93 _ _ _ _ _ _ _) h3.1 (Ws_93 _ _ _ _ _ _ _ _)) ?_
    have h4 := h3.2
    refine WP.run hP_222 2 (c' := (2, [some (.ref 74), some (.int l1), some (.int (l2 + (1 : Int32))), none], [], Wd f fl (va_up g 93 (upd (g 93) (l2.toNatClampNeg) 1000000)) gl hh v tx)) rfl ?_
    exact h4

set_option maxRecDepth 20000 in
theorem b_m_begins_24 (X : mm_X) (d : Nat) (f : Nat → Int32) (fl : Nat → Int64) (g : Nat → Nat → Int32) (gl : Nat → Nat → Int64) (hh : Nat → Nat → Option Nat) (v : Nat → Value) (tx : mm_W) (l1 : Int32) (l2 : Int32)  (P : Option Value → mm_W → Prop)
    (h : ((((g 76) 55) ≤ l2) → P none (Wd f fl g gl hh v tx)) ∧
    ((¬ (((g 76) 55) ≤ l2)) → WP X (d + 1) 222 (34, [some (.ref 74), some (.int l1), some (.int l2), some (.int 0)], [], Wd f fl g gl hh v tx) P)) :
    WP X (d + 1) 222 (24, [some (.ref 74), some (.int l1), some (.int l2), none], [], Wd f fl g gl hh v tx) P := by
  refine WP.run hP_222 2 (c' := (26, [some (.ref 74), some (.int l1), some (.int l2), none], [.ref 74, .int l2], Wd f fl g gl hh v tx)) rfl ?_
  refine WP.call hP_222 hP_129 (as := [.ref 74]) (pc' := 29) (L' := [some (.ref 74), some (.int l1), some (.int l2), none]) (st' := [.int l2]) (w1 := Wd f fl g gl hh v tx) rfl ⟨Nat.le_of_ble_eq_true rfl, Nat.le_of_ble_eq_true rfl⟩ rfl (b_m_signMany_0 X (d) f fl g gl hh v tx  _ ?_)
  refine WP.br hP_222 (q := ((g 76) 55) ≤ l2) (t := 141) (f := 32) (L := [some (.ref 74), some (.int l1), some (.int l2), none]) (st := []) (w := Wd f fl g gl hh v tx) rfl (fun c1 => ?_) (fun c1 => ?_)
  · have h2 := h.1 c1
    exact WP.ret hP_222 (r := none) (w' := Wd f fl g gl hh v tx) rfl h2
  · have h3 := h.2 c1
    refine WP.run hP_222 2 (c' := (34, [some (.ref 74), some (.int l1), some (.int l2), some (.int 0)], [], Wd f fl g gl hh v tx)) rfl ?_
    exact h3

set_option maxRecDepth 20000 in
theorem b_m_begins_34 (X : mm_X) (d : Nat) (f : Nat → Int32) (fl : Nat → Int64) (g : Nat → Nat → Int32) (gl : Nat → Nat → Int64) (hh : Nat → Nat → Option Nat) (v : Nat → Value) (tx : mm_W) (l1 : Int32) (l2 : Int32) (l3 : Int32)  (P : Option Value → mm_W → Prop)
    (h : ((((g 76) 55) ≤ l3) → WP X (d + 1) 222 (24, [some (.ref 74), some (.int l1), some (.int (l2 + (1 : Int32))), none], [], Wd f fl g gl hh v tx) P) ∧
    ((¬ (((g 76) 55) ≤ l3)) → (((l2 = l3) → WP X (d + 1) 222 (34, [some (.ref 74), some (.int l1), some (.int l2), some (.int (l3 + (1 : Int32)))], [], Wd f fl g gl hh v tx) P) ∧
      ((¬ l2 = l3) → (((¬ (((l1 >>> (l2 &&& (31 : Int32))) : Int32) &&& (1 : Int32)) = 1) → WP X (d + 1) 222 (34, [some (.ref 74), some (.int l1), some (.int l2), some (.int (l3 + (1 : Int32)))], [], Wd f fl g gl hh v tx) P) ∧
        (((((l1 >>> (l2 &&& (31 : Int32))) : Int32) &&& (1 : Int32)) = 1) → (((¬ (((l1 >>> (l3 &&& (31 : Int32))) : Int32) &&& (1 : Int32)) = 1) → WP X (d + 1) 222 (34, [some (.ref 74), some (.int l1), some (.int l2), some (.int (l3 + (1 : Int32)))], [], Wd f fl g gl hh v tx) P) ∧
          (((((l1 >>> (l3 &&& (31 : Int32))) : Int32) &&& (1 : Int32)) = 1) → ((¬ (((31 : Int32) + l2) < 0 ∨ 5667 ≤ ((31 : Int32) + l2).toNatClampNeg)) ∧ ((¬ (((31 : Int32) + l3) < 0 ∨ 5667 ≤ ((31 : Int32) + l3).toNatClampNeg)) ∧ (((((g 76) ((31 : Int32) + l3).toNatClampNeg) < ((g 76) ((31 : Int32) + l2).toNatClampNeg)) → WP X (d + 1) 222 (34, [some (.ref 74), some (.int l1), some (.int l2), some (.int (l3 + (1 : Int32)))], [], Wd f fl g gl hh v tx) P) ∧
            ((¬ (((g 76) ((31 : Int32) + l3).toNatClampNeg) < ((g 76) ((31 : Int32) + l2).toNatClampNeg))) → WP X (d) 216 (0, [some (.ref 74), some (.int l2), some (.int 0), none, none], [], Wd f fl g gl hh v tx) (fun rv w2 => WP X (d + 1) 222 (91, [some (.ref 74), some (.int l1), some (.int l2), some (.int l3)], rv.toList ++ [.ref 74], w2) P))))))))))))) :
    WP X (d + 1) 222 (34, [some (.ref 74), some (.int l1), some (.int l2), some (.int l3)], [], Wd f fl g gl hh v tx) P := by
  refine WP.run hP_222 2 (c' := (36, [some (.ref 74), some (.int l1), some (.int l2), some (.int l3)], [.ref 74, .int l3], Wd f fl g gl hh v tx)) rfl ?_
  refine WP.call hP_222 hP_129 (as := [.ref 74]) (pc' := 39) (L' := [some (.ref 74), some (.int l1), some (.int l2), some (.int l3)]) (st' := [.int l3]) (w1 := Wd f fl g gl hh v tx) rfl ⟨Nat.le_of_ble_eq_true rfl, Nat.le_of_ble_eq_true rfl⟩ rfl (b_m_signMany_0 X (d) f fl g gl hh v tx  _ ?_)
  refine WP.br hP_222 (q := ((g 76) 55) ≤ l3) (t := 135) (f := 42) (L := [some (.ref 74), some (.int l1), some (.int l2), some (.int l3)]) (st := []) (w := Wd f fl g gl hh v tx) rfl (fun c1 => ?_) (fun c1 => ?_)
  · have h2 := h.1 c1
    refine WP.run hP_222 2 (c' := (24, [some (.ref 74), some (.int l1), some (.int (l2 + (1 : Int32))), none], [], Wd f fl g gl hh v tx)) rfl ?_
    exact h2
  · have h3 := h.2 c1
    refine WP.run hP_222 2 (c' := (44, [some (.ref 74), some (.int l1), some (.int l2), some (.int l3)], [.int l3, .int l2], Wd f fl g gl hh v tx)) rfl ?_
    refine WP.br hP_222 (q := l2 = l3) (t := 129) (f := 47) (L := [some (.ref 74), some (.int l1), some (.int l2), some (.int l3)]) (st := []) (w := Wd f fl g gl hh v tx) rfl (fun c4 => ?_) (fun c4 => ?_)
    · have h5 := h3.1 c4
      refine WP.run hP_222 2 (c' := (34, [some (.ref 74), some (.int l1), some (.int l2), some (.int (l3 + (1 : Int32)))], [], Wd f fl g gl hh v tx)) rfl ?_
      exact h5
    · have h6 := h3.2 c4
      refine WP.run hP_222 2 (c' := (49, [some (.ref 74), some (.int l1), some (.int l2), some (.int l3)], [.int l2, .int l1], Wd f fl g gl hh v tx)) rfl ?_
      refine WP.call hP_222 hP_122 (as := [.int l1, .int l2]) (pc' := 52) (L' := [some (.ref 74), some (.int l1), some (.int l2), some (.int l3)]) (st' := []) (w1 := Wd f fl g gl hh v tx) rfl ⟨Nat.le_of_ble_eq_true rfl, Nat.le_of_ble_eq_true rfl⟩ rfl (b_m_isIn_0 X (d) f fl g gl hh v tx l1 l2 _ ?_)
      refine ⟨fun c7 => ?_, fun c7 => ?_⟩
      · have h8 := h6.1 c7
        refine WP.run hP_222 3 (c' := (34, [some (.ref 74), some (.int l1), some (.int l2), some (.int (l3 + (1 : Int32)))], [], Wd f fl g gl hh v tx)) rfl ?_
        exact h8
      · have h9 := h6.2 c7
        refine WP.run hP_222 3 (c' := (57, [some (.ref 74), some (.int l1), some (.int l2), some (.int l3)], [.int l3, .int l1], Wd f fl g gl hh v tx)) rfl ?_
        refine WP.call hP_222 hP_122 (as := [.int l1, .int l3]) (pc' := 60) (L' := [some (.ref 74), some (.int l1), some (.int l2), some (.int l3)]) (st' := []) (w1 := Wd f fl g gl hh v tx) rfl ⟨Nat.le_of_ble_eq_true rfl, Nat.le_of_ble_eq_true rfl⟩ rfl (b_m_isIn_0 X (d) f fl g gl hh v tx l1 l3 _ ?_)
        refine ⟨fun c10 => ?_, fun c10 => ?_⟩
        · have h11 := h9.1 c10
          refine WP.run hP_222 3 (c' := (34, [some (.ref 74), some (.int l1), some (.int l2), some (.int (l3 + (1 : Int32)))], [], Wd f fl g gl hh v tx)) rfl ?_
          exact h11
        · have h12 := h9.2 c10
          refine WP.run hP_222 6 (c' := (71, [some (.ref 74), some (.int l1), some (.int l2), some (.int l3)], [.int ((31 : Int32) + l2), .ref 76], Wd f fl g gl hh v tx)) rfl ?_
          refine WP.of (fun _ _ => Ex.iald hP_222 rfl (Wa_76 _ _ _ _ _ _ _) h12.1) ?_
          have h13 := h12.2
          refine WP.run hP_222 5 (c' := (80, [some (.ref 74), some (.int l1), some (.int l2), some (.int l3)], [.int ((31 : Int32) + l3), .ref 76, .int ((g 76) ((31 : Int32) + l2).toNatClampNeg)], Wd f fl g gl hh v tx)) rfl ?_
          refine WP.of (fun _ _ => Ex.iald hP_222 rfl (Wa_76 _ _ _ _ _ _ _) h13.1) ?_
          have h14 := h13.2
          refine WP.br hP_222 (q := ((g 76) ((31 : Int32) + l3).toNatClampNeg) < ((g 76) ((31 : Int32) + l2).toNatClampNeg)) (t := 129) (f := 84) (L := [some (.ref 74), some (.int l1), some (.int l2), some (.int l3)]) (st := []) (w := Wd f fl g gl hh v tx) rfl (fun c15 => ?_) (fun c15 => ?_)
          · have h16 := h14.1 c15
            refine WP.run hP_222 2 (c' := (34, [some (.ref 74), some (.int l1), some (.int l2), some (.int (l3 + (1 : Int32)))], [], Wd f fl g gl hh v tx)) rfl ?_
            exact h16
          · have h17 := h14.2 c15
            refine WP.run hP_222 4 (c' := (88, [some (.ref 74), some (.int l1), some (.int l2), some (.int l3)], [.int 0, .int l2, .ref 74, .ref 74], Wd f fl g gl hh v tx)) rfl ?_
            refine WP.call hP_222 hP_216 (as := [.ref 74, .int l2, .int 0]) (pc' := 91) (L' := [some (.ref 74), some (.int l1), some (.int l2), some (.int l3)]) (st' := [.ref 74]) (w1 := Wd f fl g gl hh v tx) rfl ⟨Nat.le_of_ble_eq_true rfl, Nat.le_of_ble_eq_true rfl⟩ rfl ?_
            exact h17

set_option maxRecDepth 20000 in
theorem b_m_begins_91 (X : mm_X) (d : Nat) (f : Nat → Int32) (fl : Nat → Int64) (g : Nat → Nat → Int32) (gl : Nat → Nat → Int64) (hh : Nat → Nat → Option Nat) (v : Nat → Value) (tx : mm_W) (l1 : Int32) (l2 : Int32) (l3 : Int32) (s0 : Int32)  (P : Option Value → mm_W → Prop)
    (h : WP X (d) 219 (0, [some (.ref 74), some (.int s0), some (.int l3), none, none, none], [], Wd f fl g gl hh v tx) (fun rv w2 => WP X (d + 1) 222 (95, [some (.ref 74), some (.int l1), some (.int l2), some (.int l3)], rv.toList ++ [], w2) P)) :
    WP X (d + 1) 222 (91, [some (.ref 74), some (.int l1), some (.int l2), some (.int l3)], [.int s0, .ref 74], Wd f fl g gl hh v tx) P := by
  refine WP.run hP_222 1 (c' := (92, [some (.ref 74), some (.int l1), some (.int l2), some (.int l3)], [.int l3, .int s0, .ref 74], Wd f fl g gl hh v tx)) rfl ?_
  refine WP.call hP_222 hP_219 (as := [.ref 74, .int s0, .int l3]) (pc' := 95) (L' := [some (.ref 74), some (.int l1), some (.int l2), some (.int l3)]) (st' := []) (w1 := Wd f fl g gl hh v tx) rfl ⟨Nat.le_of_ble_eq_true rfl, Nat.le_of_ble_eq_true rfl⟩ rfl ?_
  exact h

set_option maxRecDepth 20000 in
theorem b_m_begins_95 (X : mm_X) (d : Nat) (f : Nat → Int32) (fl : Nat → Int64) (g : Nat → Nat → Int32) (gl : Nat → Nat → Int64) (hh : Nat → Nat → Option Nat) (v : Nat → Value) (tx : mm_W) (l1 : Int32) (l2 : Int32) (l3 : Int32) (s0 : Int32)  (P : Option Value → mm_W → Prop)
    (h : ((¬ s0 = 0) → ((¬ (((31 : Int32) + l2) < 0 ∨ 5667 ≤ ((31 : Int32) + l2).toNatClampNeg)) ∧ WP X (d) 216 (0, [some (.ref 74), some (.int l3), some (.int ((g 76) ((31 : Int32) + l2).toNatClampNeg)), none, none], [], Wd f fl g gl hh v tx) (fun rv w2 => WP X (d + 1) 222 (116, [some (.ref 74), some (.int l1), some (.int l2), some (.int l3)], rv.toList ++ [.ref 74], w2) P))) ∧
    ((s0 = 0) → WP X (d + 1) 222 (34, [some (.ref 74), some (.int l1), some (.int l2), some (.int (l3 + (1 : Int32)))], [], Wd f fl g gl hh v tx) P)) :
    WP X (d + 1) 222 (95, [some (.ref 74), some (.int l1), some (.int l2), some (.int l3)], [.int s0], Wd f fl g gl hh v tx) P := by
  refine WP.br hP_222 (q := ¬ s0 = 0) (t := 101) (f := 98) (L := [some (.ref 74), some (.int l1), some (.int l2), some (.int l3)]) (st := []) (w := Wd f fl g gl hh v tx) rfl (fun c1 => ?_) (fun c1 => ?_)
  · have h2 := h.1 c1
    refine WP.run hP_222 8 (c' := (112, [some (.ref 74), some (.int l1), some (.int l2), some (.int l3)], [.int ((31 : Int32) + l2), .ref 76, .int l3, .ref 74, .ref 74], Wd f fl g gl hh v tx)) rfl ?_
    refine WP.of (fun _ _ => Ex.iald hP_222 rfl (Wa_76 _ _ _ _ _ _ _) h2.1) ?_
    have h3 := h2.2
    refine WP.call hP_222 hP_216 (as := [.ref 74, .int l3, .int ((g 76) ((31 : Int32) + l2).toNatClampNeg)]) (pc' := 116) (L' := [some (.ref 74), some (.int l1), some (.int l2), some (.int l3)]) (st' := [.ref 74]) (w1 := Wd f fl g gl hh v tx) rfl ⟨Nat.le_of_ble_eq_true rfl, Nat.le_of_ble_eq_true rfl⟩ rfl ?_
    exact h3
  · have h4 := h.2 (Classical.not_not.mp c1)
    refine WP.run hP_222 3 (c' := (34, [some (.ref 74), some (.int l1), some (.int l2), some (.int (l3 + (1 : Int32)))], [], Wd f fl g gl hh v tx)) rfl ?_
    exact h4

set_option maxRecDepth 20000 in
theorem b_m_begins_116 (X : mm_X) (d : Nat) (f : Nat → Int32) (fl : Nat → Int64) (g : Nat → Nat → Int32) (gl : Nat → Nat → Int64) (hh : Nat → Nat → Option Nat) (v : Nat → Value) (tx : mm_W) (l1 : Int32) (l2 : Int32) (l3 : Int32) (s0 : Int32)  (P : Option Value → mm_W → Prop)
    (h : (¬ (((31 : Int32) + l3) < 0 ∨ 5667 ≤ ((31 : Int32) + l3).toNatClampNeg)) ∧ ((¬ (s0 < 0 ∨ 125 ≤ s0.toNatClampNeg)) ∧ (((((g 93) s0.toNatClampNeg) ≤ ((g 76) ((31 : Int32) + l3).toNatClampNeg)) → ((¬ (s0 < 0 ∨ 125 ≤ s0.toNatClampNeg)) ∧ (((((g 76) ((31 : Int32) + l3).toNatClampNeg) ≤ ((g 93) s0.toNatClampNeg)) → ((¬ (s0 < 0 ∨ 125 ≤ s0.toNatClampNeg)) ∧ WP X (d + 2) 222 (34, [some (.ref 74), some (.int l1), some (.int l2), some (.int (l3 + (1 : Int32)))], [], Wd f fl (va_up g 93 (upd (g 93) (s0.toNatClampNeg) ((g 76) ((31 : Int32) + l3).toNatClampNeg))) gl hh v tx) P)) ∧
      ((¬ (((g 76) ((31 : Int32) + l3).toNatClampNeg) ≤ ((g 93) s0.toNatClampNeg))) → ((¬ (s0 < 0 ∨ 125 ≤ s0.toNatClampNeg)) ∧ WP X (d + 2) 222 (34, [some (.ref 74), some (.int l1), some (.int l2), some (.int (l3 + (1 : Int32)))], [], Wd f fl (va_up g 93 (upd (g 93) (s0.toNatClampNeg) ((g 93) s0.toNatClampNeg))) gl hh v tx) P))))) ∧
    ((¬ (((g 93) s0.toNatClampNeg) ≤ ((g 76) ((31 : Int32) + l3).toNatClampNeg))) → ((¬ (s0 < 0 ∨ 125 ≤ s0.toNatClampNeg)) ∧ (((((g 76) ((31 : Int32) + l3).toNatClampNeg) ≤ ((g 93) s0.toNatClampNeg)) → ((¬ (s0 < 0 ∨ 125 ≤ s0.toNatClampNeg)) ∧ WP X (d + 2) 222 (34, [some (.ref 74), some (.int l1), some (.int l2), some (.int (l3 + (1 : Int32)))], [], Wd f fl (va_up g 93 (upd (g 93) (s0.toNatClampNeg) ((g 76) ((31 : Int32) + l3).toNatClampNeg))) gl hh v tx) P)) ∧
      ((¬ (((g 76) ((31 : Int32) + l3).toNatClampNeg) ≤ ((g 93) s0.toNatClampNeg))) → ((¬ (s0 < 0 ∨ 125 ≤ s0.toNatClampNeg)) ∧ WP X (d + 2) 222 (34, [some (.ref 74), some (.int l1), some (.int l2), some (.int (l3 + (1 : Int32)))], [], Wd f fl (va_up g 93 (upd (g 93) (s0.toNatClampNeg) ((g 93) s0.toNatClampNeg))) gl hh v tx) P)))))))) :
    WP X (d + 2) 222 (116, [some (.ref 74), some (.int l1), some (.int l2), some (.int l3)], [.int s0, .ref 74], Wd f fl g gl hh v tx) P := by
  refine WP.run hP_222 5 (c' := (124, [some (.ref 74), some (.int l1), some (.int l2), some (.int l3)], [.int ((31 : Int32) + l3), .ref 76, .int s0, .ref 74], Wd f fl g gl hh v tx)) rfl ?_
  refine WP.of (fun _ _ => Ex.iald hP_222 rfl (Wa_76 _ _ _ _ _ _ _) h.1) ?_
  have h1 := h.2
  refine WP.call hP_222 hP_221 (as := [.ref 74, .int s0, .int ((g 76) ((31 : Int32) + l3).toNatClampNeg)]) (pc' := 128) (L' := [some (.ref 74), some (.int l1), some (.int l2), some (.int l3)]) (st' := []) (w1 := Wd f fl g gl hh v tx) rfl ⟨Nat.le_of_ble_eq_true rfl, Nat.le_of_ble_eq_true rfl⟩ rfl (b_m_comesNear_0 X (d) f fl g gl hh v tx s0 ((g 76) ((31 : Int32) + l3).toNatClampNeg) _ ?_)
  refine ⟨h1.1, ?_⟩
  have h2 := h1.2
  refine ⟨fun c3 => ?_, fun c3 => ?_⟩
  · have h4 := h2.1 c3
    refine ⟨h4.1, ?_⟩
    have h5 := h4.2
    refine ⟨fun c6 => ?_, fun c6 => ?_⟩
    · have h7 := h5.1 c6
      refine ⟨h7.1, ?_⟩
      have h8 := h7.2
      refine WP.run hP_222 3 (c' := (34, [some (.ref 74), some (.int l1), some (.int l2), some (.int (l3 + (1 : Int32)))], [], Wd f fl (va_up g 93 (upd (g 93) (s0.toNatClampNeg) ((g 76) ((31 : Int32) + l3).toNatClampNeg))) gl hh v tx)) rfl ?_
      exact h8
    · have h9 := h5.2 c6
      refine ⟨h9.1, ?_⟩
      have h10 := h9.2
      refine WP.run hP_222 3 (c' := (34, [some (.ref 74), some (.int l1), some (.int l2), some (.int (l3 + (1 : Int32)))], [], Wd f fl (va_up g 93 (upd (g 93) (s0.toNatClampNeg) ((g 93) s0.toNatClampNeg))) gl hh v tx)) rfl ?_
      exact h10
  · have h11 := h2.2 c3
    refine ⟨h11.1, ?_⟩
    have h12 := h11.2
    refine ⟨fun c13 => ?_, fun c13 => ?_⟩
    · have h14 := h12.1 c13
      refine ⟨h14.1, ?_⟩
      have h15 := h14.2
      refine WP.run hP_222 3 (c' := (34, [some (.ref 74), some (.int l1), some (.int l2), some (.int (l3 + (1 : Int32)))], [], Wd f fl (va_up g 93 (upd (g 93) (s0.toNatClampNeg) ((g 76) ((31 : Int32) + l3).toNatClampNeg))) gl hh v tx)) rfl ?_
      exact h15
    · have h16 := h12.2 c13
      refine ⟨h16.1, ?_⟩
      have h17 := h16.2
      refine WP.run hP_222 3 (c' := (34, [some (.ref 74), some (.int l1), some (.int l2), some (.int (l3 + (1 : Int32)))], [], Wd f fl (va_up g 93 (upd (g 93) (s0.toNatClampNeg) ((g 93) s0.toNatClampNeg))) gl hh v tx)) rfl ?_
      exact h17

set_option maxRecDepth 20000 in
theorem b_m_goesOnWith_0 (X : mm_X) (d : Nat) (f : Nat → Int32) (fl : Nat → Int64) (g : Nat → Nat → Int32) (gl : Nat → Nat → Int64) (hh : Nat → Nat → Option Nat) (v : Nat → Value) (tx : mm_W) (p0 : Int32) (p1 : Int32)  (P : Option Value → mm_W → Prop)
    (h : WP X (d) 217 (0, [some (.int p0), none, none], [], Wd f fl g gl hh v tx) (fun rv w2 => WP X (d + 1) 223 (4, [some (.ref 74), some (.int p0), some (.int p1), none], rv.toList ++ [], w2) P)) :
    WP X (d + 1) 223 (0, [some (.ref 74), some (.int p0), some (.int p1), none], [], Wd f fl g gl hh v tx) P := by
  refine WP.run hP_223 1 (c' := (1, [some (.ref 74), some (.int p0), some (.int p1), none], [.int p0], Wd f fl g gl hh v tx)) rfl ?_
  refine WP.call hP_223 hP_217 (as := [.int p0]) (pc' := 4) (L' := [some (.ref 74), some (.int p0), some (.int p1), none]) (st' := []) (w1 := Wd f fl g gl hh v tx) rfl ⟨Nat.le_of_ble_eq_true rfl, Nat.le_of_ble_eq_true rfl⟩ rfl ?_
  exact h

set_option maxRecDepth 20000 in
theorem b_m_goesOnWith_4 (X : mm_X) (d : Nat) (f : Nat → Int32) (fl : Nat → Int64) (g : Nat → Nat → Int32) (gl : Nat → Nat → Int64) (hh : Nat → Nat → Option Nat) (v : Nat → Value) (tx : mm_W) (l1 : Int32) (l2 : Int32) (s0 : Int32)  (P : Option Value → mm_W → Prop)
    (h : WP X (d) 219 (0, [some (.ref 74), some (.int l1), some (.int l2), none, none, none], [], Wd f fl g gl hh v tx) (fun rv w2 => WP X (d + 1) 223 (11, [some (.ref 74), some (.int l1), some (.int l2), some (.int s0)], rv.toList ++ [], w2) P)) :
    WP X (d + 1) 223 (4, [some (.ref 74), some (.int l1), some (.int l2), none], [.int s0], Wd f fl g gl hh v tx) P := by
  refine WP.run hP_223 4 (c' := (8, [some (.ref 74), some (.int l1), some (.int l2), some (.int s0)], [.int l2, .int l1, .ref 74], Wd f fl g gl hh v tx)) rfl ?_
  refine WP.call hP_223 hP_219 (as := [.ref 74, .int l1, .int l2]) (pc' := 11) (L' := [some (.ref 74), some (.int l1), some (.int l2), some (.int s0)]) (st' := []) (w1 := Wd f fl g gl hh v tx) rfl ⟨Nat.le_of_ble_eq_true rfl, Nat.le_of_ble_eq_true rfl⟩ rfl ?_
  exact h

set_option maxRecDepth 20000 in
theorem b_m_goesOnWith_11 (X : mm_X) (d : Nat) (f : Nat → Int32) (fl : Nat → Int64) (g : Nat → Nat → Int32) (gl : Nat → Nat → Int64) (hh : Nat → Nat → Option Nat) (v : Nat → Value) (tx : mm_W) (l1 : Int32) (l2 : Int32) (l3 : Int32) (s0 : Int32)  (P : Option Value → mm_W → Prop)
    (h : ((¬ s0 = 0) → ((¬ (((31 : Int32) + l2) < 0 ∨ 5667 ≤ ((31 : Int32) + l2).toNatClampNeg)) ∧ (((l3 < ((g 76) ((31 : Int32) + l2).toNatClampNeg)) → WP X (d) 216 (0, [some (.ref 74), some (.int l2), some (.int l3), none, none], [], Wd f fl g gl hh v tx) (fun rv w2 => WP X (d + 1) 223 (61, [some (.ref 74), some (.int l1), some (.int l2), some (.int l3)], rv.toList ++ [.ref 74], w2) P)) ∧
      ((¬ (l3 < ((g 76) ((31 : Int32) + l2).toNatClampNeg))) → ((¬ (((31 : Int32) + l2) < 0 ∨ 5667 ≤ ((31 : Int32) + l2).toNatClampNeg)) ∧ WP X (d) 220 (0, [some (.int l1), some (.int l3), some (.int ((g 76) ((31 : Int32) + l2).toNatClampNeg)), none, none], [], Wd f fl g gl hh v tx) (fun rv w2 => WP X (d + 1) 223 (44, [some (.ref 74), some (.int l1), some (.int l2), some (.int l3)], rv.toList ++ [.ref 74], w2) P)))))) ∧
    ((s0 = 0) → P (some (.int 0)) (Wd f fl g gl hh v tx))) :
    WP X (d + 1) 223 (11, [some (.ref 74), some (.int l1), some (.int l2), some (.int l3)], [.int s0], Wd f fl g gl hh v tx) P := by
  refine WP.br hP_223 (q := ¬ s0 = 0) (t := 16) (f := 14) (L := [some (.ref 74), some (.int l1), some (.int l2), some (.int l3)]) (st := []) (w := Wd f fl g gl hh v tx) rfl (fun c1 => ?_) (fun c1 => ?_)
  · have h2 := h.1 c1
    refine WP.run hP_223 5 (c' := (24, [some (.ref 74), some (.int l1), some (.int l2), some (.int l3)], [.int ((31 : Int32) + l2), .ref 76], Wd f fl g gl hh v tx)) rfl ?_
    refine WP.of (fun _ _ => Ex.iald hP_223 rfl (Wa_76 _ _ _ _ _ _ _) h2.1) ?_
    have h3 := h2.2
    refine WP.run hP_223 1 (c' := (26, [some (.ref 74), some (.int l1), some (.int l2), some (.int l3)], [.int l3, .int ((g 76) ((31 : Int32) + l2).toNatClampNeg)], Wd f fl g gl hh v tx)) rfl ?_
    refine WP.br hP_223 (q := l3 < ((g 76) ((31 : Int32) + l2).toNatClampNeg)) (t := 54) (f := 29) (L := [some (.ref 74), some (.int l1), some (.int l2), some (.int l3)]) (st := []) (w := Wd f fl g gl hh v tx) rfl (fun c4 => ?_) (fun c4 => ?_)
    · have h5 := h3.1 c4
      refine WP.run hP_223 4 (c' := (58, [some (.ref 74), some (.int l1), some (.int l2), some (.int l3)], [.int l3, .int l2, .ref 74, .ref 74], Wd f fl g gl hh v tx)) rfl ?_
      refine WP.call hP_223 hP_216 (as := [.ref 74, .int l2, .int l3]) (pc' := 61) (L' := [some (.ref 74), some (.int l1), some (.int l2), some (.int l3)]) (st' := [.ref 74]) (w1 := Wd f fl g gl hh v tx) rfl ⟨Nat.le_of_ble_eq_true rfl, Nat.le_of_ble_eq_true rfl⟩ rfl ?_
      exact h5
    · have h6 := h3.2 c4
      refine WP.run hP_223 8 (c' := (40, [some (.ref 74), some (.int l1), some (.int l2), some (.int l3)], [.int ((31 : Int32) + l2), .ref 76, .int l3, .int l1, .ref 74], Wd f fl g gl hh v tx)) rfl ?_
      refine WP.of (fun _ _ => Ex.iald hP_223 rfl (Wa_76 _ _ _ _ _ _ _) h6.1) ?_
      have h7 := h6.2
      refine WP.call hP_223 hP_220 (as := [.int l1, .int l3, .int ((g 76) ((31 : Int32) + l2).toNatClampNeg)]) (pc' := 44) (L' := [some (.ref 74), some (.int l1), some (.int l2), some (.int l3)]) (st' := [.ref 74]) (w1 := Wd f fl g gl hh v tx) rfl ⟨Nat.le_of_ble_eq_true rfl, Nat.le_of_ble_eq_true rfl⟩ rfl ?_
      exact h7
  · have h8 := h.2 (Classical.not_not.mp c1)
    refine WP.run hP_223 1 (c' := (15, [some (.ref 74), some (.int l1), some (.int l2), some (.int l3)], [.int 0], Wd f fl g gl hh v tx)) rfl ?_
    exact WP.ret hP_223 (r := some (.int 0)) (w' := Wd f fl g gl hh v tx) rfl h8

set_option maxRecDepth 20000 in
theorem b_m_goesOnWith_61 (X : mm_X) (d : Nat) (f : Nat → Int32) (fl : Nat → Int64) (g : Nat → Nat → Int32) (gl : Nat → Nat → Int64) (hh : Nat → Nat → Option Nat) (v : Nat → Value) (tx : mm_W) (l1 : Int32) (l2 : Int32) (l3 : Int32) (s0 : Int32)  (P : Option Value → mm_W → Prop)
    (h : (¬ (l1 < 0 ∨ 125 ≤ l1.toNatClampNeg)) ∧ ((¬ (((31 : Int32) + l2) < 0 ∨ 5667 ≤ ((31 : Int32) + l2).toNatClampNeg)) ∧ ((¬ (s0 < 0 ∨ 125 ≤ s0.toNatClampNeg)) ∧ (((((g 93) s0.toNatClampNeg) ≤ ((((g 93) l1.toNatClampNeg) + ((g 76) ((31 : Int32) + l2).toNatClampNeg)) - l3)) → ((¬ (s0 < 0 ∨ 125 ≤ s0.toNatClampNeg)) ∧ (((((((g 93) l1.toNatClampNeg) + ((g 76) ((31 : Int32) + l2).toNatClampNeg)) - l3) ≤ ((g 93) s0.toNatClampNeg)) → ((¬ (s0 < 0 ∨ 125 ≤ s0.toNatClampNeg)) ∧ P (some (.int 0)) (Wd f fl (va_up g 93 (upd (g 93) (s0.toNatClampNeg) ((((g 93) l1.toNatClampNeg) + ((g 76) ((31 : Int32) + l2).toNatClampNeg)) - l3))) gl hh v tx))) ∧
      ((¬ (((((g 93) l1.toNatClampNeg) + ((g 76) ((31 : Int32) + l2).toNatClampNeg)) - l3) ≤ ((g 93) s0.toNatClampNeg))) → ((¬ (s0 < 0 ∨ 125 ≤ s0.toNatClampNeg)) ∧ P (some (.int 0)) (Wd f fl (va_up g 93 (upd (g 93) (s0.toNatClampNeg) ((g 93) s0.toNatClampNeg))) gl hh v tx)))))) ∧
    ((¬ (((g 93) s0.toNatClampNeg) ≤ ((((g 93) l1.toNatClampNeg) + ((g 76) ((31 : Int32) + l2).toNatClampNeg)) - l3))) → ((¬ (s0 < 0 ∨ 125 ≤ s0.toNatClampNeg)) ∧ (((((((g 93) l1.toNatClampNeg) + ((g 76) ((31 : Int32) + l2).toNatClampNeg)) - l3) ≤ ((g 93) s0.toNatClampNeg)) → ((¬ (s0 < 0 ∨ 125 ≤ s0.toNatClampNeg)) ∧ P (some (.int 1)) (Wd f fl (va_up g 93 (upd (g 93) (s0.toNatClampNeg) ((((g 93) l1.toNatClampNeg) + ((g 76) ((31 : Int32) + l2).toNatClampNeg)) - l3))) gl hh v tx))) ∧
      ((¬ (((((g 93) l1.toNatClampNeg) + ((g 76) ((31 : Int32) + l2).toNatClampNeg)) - l3) ≤ ((g 93) s0.toNatClampNeg))) → ((¬ (s0 < 0 ∨ 125 ≤ s0.toNatClampNeg)) ∧ P (some (.int 1)) (Wd f fl (va_up g 93 (upd (g 93) (s0.toNatClampNeg) ((g 93) s0.toNatClampNeg))) gl hh v tx)))))))))) :
    WP X (d + 2) 223 (61, [some (.ref 74), some (.int l1), some (.int l2), some (.int l3)], [.int s0, .ref 74], Wd f fl g gl hh v tx) P := by
  refine WP.run hP_223 3 (c' := (66, [some (.ref 74), some (.int l1), some (.int l2), some (.int l3)], [.int l1, .ref 93, .int s0, .ref 74], Wd f fl g gl hh v tx)) rfl ?_
  refine WP.of (fun _ _ => Ex.iald hP_223 rfl (Wa_93 _ _ _ _ _ _ _) h.1) ?_
  have h1 := h.2
  refine WP.run hP_223 5 (c' := (75, [some (.ref 74), some (.int l1), some (.int l2), some (.int l3)], [.int ((31 : Int32) + l2), .ref 76, .int ((g 93) l1.toNatClampNeg), .int s0, .ref 74], Wd f fl g gl hh v tx)) rfl ?_
  refine WP.of (fun _ _ => Ex.iald hP_223 rfl (Wa_76 _ _ _ _ _ _ _) h1.1) ?_
  have h2 := h1.2
  refine WP.run hP_223 3 (c' := (79, [some (.ref 74), some (.int l1), some (.int l2), some (.int l3)], [.int ((((g 93) l1.toNatClampNeg) + ((g 76) ((31 : Int32) + l2).toNatClampNeg)) - l3), .int s0, .ref 74], Wd f fl g gl hh v tx)) rfl ?_
  refine WP.call hP_223 hP_221 (as := [.ref 74, .int s0, .int ((((g 93) l1.toNatClampNeg) + ((g 76) ((31 : Int32) + l2).toNatClampNeg)) - l3)]) (pc' := 82) (L' := [some (.ref 74), some (.int l1), some (.int l2), some (.int l3)]) (st' := []) (w1 := Wd f fl g gl hh v tx) rfl ⟨Nat.le_of_ble_eq_true rfl, Nat.le_of_ble_eq_true rfl⟩ rfl (b_m_comesNear_0 X (d) f fl g gl hh v tx s0 ((((g 93) l1.toNatClampNeg) + ((g 76) ((31 : Int32) + l2).toNatClampNeg)) - l3) _ ?_)
  refine ⟨h2.1, ?_⟩
  have h3 := h2.2
  refine ⟨fun c4 => ?_, fun c4 => ?_⟩
  · have h5 := h3.1 c4
    refine ⟨h5.1, ?_⟩
    have h6 := h5.2
    refine ⟨fun c7 => ?_, fun c7 => ?_⟩
    · have h8 := h6.1 c7
      refine ⟨h8.1, ?_⟩
      have h9 := h8.2
      exact WP.ret hP_223 (r := some (.int 0)) (w' := Wd f fl (va_up g 93 (upd (g 93) (s0.toNatClampNeg) ((((g 93) l1.toNatClampNeg) + ((g 76) ((31 : Int32) + l2).toNatClampNeg)) - l3))) gl hh v tx) rfl h9
    · have h10 := h6.2 c7
      refine ⟨h10.1, ?_⟩
      have h11 := h10.2
      exact WP.ret hP_223 (r := some (.int 0)) (w' := Wd f fl (va_up g 93 (upd (g 93) (s0.toNatClampNeg) ((g 93) s0.toNatClampNeg))) gl hh v tx) rfl h11
  · have h12 := h3.2 c4
    refine ⟨h12.1, ?_⟩
    have h13 := h12.2
    refine ⟨fun c14 => ?_, fun c14 => ?_⟩
    · have h15 := h13.1 c14
      refine ⟨h15.1, ?_⟩
      have h16 := h15.2
      exact WP.ret hP_223 (r := some (.int 1)) (w' := Wd f fl (va_up g 93 (upd (g 93) (s0.toNatClampNeg) ((((g 93) l1.toNatClampNeg) + ((g 76) ((31 : Int32) + l2).toNatClampNeg)) - l3))) gl hh v tx) rfl h16
    · have h17 := h13.2 c14
      refine ⟨h17.1, ?_⟩
      have h18 := h17.2
      exact WP.ret hP_223 (r := some (.int 1)) (w' := Wd f fl (va_up g 93 (upd (g 93) (s0.toNatClampNeg) ((g 93) s0.toNatClampNeg))) gl hh v tx) rfl h18

set_option maxRecDepth 20000 in
theorem b_m_goesOnWith_44 (X : mm_X) (d : Nat) (f : Nat → Int32) (fl : Nat → Int64) (g : Nat → Nat → Int32) (gl : Nat → Nat → Int64) (hh : Nat → Nat → Option Nat) (v : Nat → Value) (tx : mm_W) (l1 : Int32) (l2 : Int32) (l3 : Int32) (s0 : Int32)  (P : Option Value → mm_W → Prop)
    (h : (¬ (l1 < 0 ∨ 125 ≤ l1.toNatClampNeg)) ∧ ((¬ (s0 < 0 ∨ 125 ≤ s0.toNatClampNeg)) ∧ (((((g 93) s0.toNatClampNeg) ≤ ((g 93) l1.toNatClampNeg)) → ((¬ (s0 < 0 ∨ 125 ≤ s0.toNatClampNeg)) ∧ (((((g 93) l1.toNatClampNeg) ≤ ((g 93) s0.toNatClampNeg)) → ((¬ (s0 < 0 ∨ 125 ≤ s0.toNatClampNeg)) ∧ P (some (.int 0)) (Wd f fl (va_up g 93 (upd (g 93) (s0.toNatClampNeg) ((g 93) l1.toNatClampNeg))) gl hh v tx))) ∧
      ((¬ (((g 93) l1.toNatClampNeg) ≤ ((g 93) s0.toNatClampNeg))) → ((¬ (s0 < 0 ∨ 125 ≤ s0.toNatClampNeg)) ∧ P (some (.int 0)) (Wd f fl (va_up g 93 (upd (g 93) (s0.toNatClampNeg) ((g 93) s0.toNatClampNeg))) gl hh v tx)))))) ∧
    ((¬ (((g 93) s0.toNatClampNeg) ≤ ((g 93) l1.toNatClampNeg))) → ((¬ (s0 < 0 ∨ 125 ≤ s0.toNatClampNeg)) ∧ (((((g 93) l1.toNatClampNeg) ≤ ((g 93) s0.toNatClampNeg)) → ((¬ (s0 < 0 ∨ 125 ≤ s0.toNatClampNeg)) ∧ P (some (.int 1)) (Wd f fl (va_up g 93 (upd (g 93) (s0.toNatClampNeg) ((g 93) l1.toNatClampNeg))) gl hh v tx))) ∧
      ((¬ (((g 93) l1.toNatClampNeg) ≤ ((g 93) s0.toNatClampNeg))) → ((¬ (s0 < 0 ∨ 125 ≤ s0.toNatClampNeg)) ∧ P (some (.int 1)) (Wd f fl (va_up g 93 (upd (g 93) (s0.toNatClampNeg) ((g 93) s0.toNatClampNeg))) gl hh v tx))))))))) :
    WP X (d + 2) 223 (44, [some (.ref 74), some (.int l1), some (.int l2), some (.int l3)], [.int s0, .ref 74], Wd f fl g gl hh v tx) P := by
  refine WP.run hP_223 3 (c' := (49, [some (.ref 74), some (.int l1), some (.int l2), some (.int l3)], [.int l1, .ref 93, .int s0, .ref 74], Wd f fl g gl hh v tx)) rfl ?_
  refine WP.of (fun _ _ => Ex.iald hP_223 rfl (Wa_93 _ _ _ _ _ _ _) h.1) ?_
  have h1 := h.2
  refine WP.call hP_223 hP_221 (as := [.ref 74, .int s0, .int ((g 93) l1.toNatClampNeg)]) (pc' := 53) (L' := [some (.ref 74), some (.int l1), some (.int l2), some (.int l3)]) (st' := []) (w1 := Wd f fl g gl hh v tx) rfl ⟨Nat.le_of_ble_eq_true rfl, Nat.le_of_ble_eq_true rfl⟩ rfl (b_m_comesNear_0 X (d) f fl g gl hh v tx s0 ((g 93) l1.toNatClampNeg) _ ?_)
  refine ⟨h1.1, ?_⟩
  have h2 := h1.2
  refine ⟨fun c3 => ?_, fun c3 => ?_⟩
  · have h4 := h2.1 c3
    refine ⟨h4.1, ?_⟩
    have h5 := h4.2
    refine ⟨fun c6 => ?_, fun c6 => ?_⟩
    · have h7 := h5.1 c6
      refine ⟨h7.1, ?_⟩
      have h8 := h7.2
      exact WP.ret hP_223 (r := some (.int 0)) (w' := Wd f fl (va_up g 93 (upd (g 93) (s0.toNatClampNeg) ((g 93) l1.toNatClampNeg))) gl hh v tx) rfl h8
    · have h9 := h5.2 c6
      refine ⟨h9.1, ?_⟩
      have h10 := h9.2
      exact WP.ret hP_223 (r := some (.int 0)) (w' := Wd f fl (va_up g 93 (upd (g 93) (s0.toNatClampNeg) ((g 93) s0.toNatClampNeg))) gl hh v tx) rfl h10
  · have h11 := h2.2 c3
    refine ⟨h11.1, ?_⟩
    have h12 := h11.2
    refine ⟨fun c13 => ?_, fun c13 => ?_⟩
    · have h14 := h12.1 c13
      refine ⟨h14.1, ?_⟩
      have h15 := h14.2
      exact WP.ret hP_223 (r := some (.int 1)) (w' := Wd f fl (va_up g 93 (upd (g 93) (s0.toNatClampNeg) ((g 93) l1.toNatClampNeg))) gl hh v tx) rfl h15
    · have h16 := h12.2 c13
      refine ⟨h16.1, ?_⟩
      have h17 := h16.2
      exact WP.ret hP_223 (r := some (.int 1)) (w' := Wd f fl (va_up g 93 (upd (g 93) (s0.toNatClampNeg) ((g 93) s0.toNatClampNeg))) gl hh v tx) rfl h17

set_option maxRecDepth 20000 in
theorem b_m_twofoldOf_0 (X : mm_X) (d : Nat) (f : Nat → Int32) (fl : Nat → Int64) (g : Nat → Nat → Int32) (gl : Nat → Nat → Int64) (hh : Nat → Nat → Option Nat) (v : Nat → Value) (tx : mm_W) (p0 : Int32)  (P : Option Value → mm_W → Prop)
    (h : WP X (d) 222 (0, [some (.ref 74), some (.int p0), none, none], [], Wd f fl g gl hh v tx) (fun rv w2 => WP X (d + 1) 224 (5, [some (.ref 74), some (.int p0), none, none, none], rv.toList ++ [], w2) P)) :
    WP X (d + 1) 224 (0, [some (.ref 74), some (.int p0), none, none, none], [], Wd f fl g gl hh v tx) P := by
  refine WP.run hP_224 2 (c' := (2, [some (.ref 74), some (.int p0), none, none, none], [.int p0, .ref 74], Wd f fl g gl hh v tx)) rfl ?_
  refine WP.call hP_224 hP_222 (as := [.ref 74, .int p0]) (pc' := 5) (L' := [some (.ref 74), some (.int p0), none, none, none]) (st' := []) (w1 := Wd f fl g gl hh v tx) rfl ⟨Nat.le_of_ble_eq_true rfl, Nat.le_of_ble_eq_true rfl⟩ rfl ?_
  exact h

set_option maxRecDepth 20000 in
theorem b_m_twofoldOf_5 (X : mm_X) (d : Nat) (f : Nat → Int32) (fl : Nat → Int64) (g : Nat → Nat → Int32) (gl : Nat → Nat → Int64) (hh : Nat → Nat → Option Nat) (v : Nat → Value) (tx : mm_W) (l1 : Int32)  (P : Option Value → mm_W → Prop)
    (h : WP X (d) 224 (7, [some (.ref 74), some (.int l1), some (.int 1), none, none], [], Wd f fl g gl hh v tx) P) :
    WP X (d) 224 (5, [some (.ref 74), some (.int l1), none, none, none], [], Wd f fl g gl hh v tx) P := by
  refine WP.run hP_224 2 (c' := (7, [some (.ref 74), some (.int l1), some (.int 1), none, none], [], Wd f fl g gl hh v tx)) rfl ?_
  exact h

set_option maxRecDepth 20000 in
theorem b_m_twofoldOf_7 (X : mm_X) (d : Nat) (f : Nat → Int32) (fl : Nat → Int64) (g : Nat → Nat → Int32) (gl : Nat → Nat → Int64) (hh : Nat → Nat → Option Nat) (v : Nat → Value) (tx : mm_W) (l1 : Int32) (l2 : Int32)  (P : Option Value → mm_W → Prop)
    (h : ((l2 = 0) → P (some (.int ((g 93) 0))) (Wd f fl g gl hh v tx)) ∧
    ((¬ l2 = 0) → WP X (d) 224 (15, [some (.ref 74), some (.int l1), some (.int 0), some (.int 1), none], [], Wd f fl g gl hh v tx) P)) :
    WP X (d) 224 (7, [some (.ref 74), some (.int l1), some (.int l2), none, none], [], Wd f fl g gl hh v tx) P := by
  refine WP.run hP_224 1 (c' := (8, [some (.ref 74), some (.int l1), some (.int l2), none, none], [.int l2], Wd f fl g gl hh v tx)) rfl ?_
  refine WP.br hP_224 (q := l2 = 0) (t := 88) (f := 11) (L := [some (.ref 74), some (.int l1), some (.int l2), none, none]) (st := []) (w := Wd f fl g gl hh v tx) rfl (fun c1 => ?_) (fun c1 => ?_)
  · have h2 := h.1 c1
    refine WP.run hP_224 3 (c' := (93, [some (.ref 74), none, none, none, none], [.int 0, .ref 93], Wd f fl g gl hh v tx)) rfl ?_
    refine WP.of (fun _ _ => Ex.iald hP_224 rfl (Wa_93 _ _ _ _ _ _ _) (by decide)) ?_
    show WP X _ 224 (94, [some (.ref 74), none, none, none, none], [.int ((g 93) 0)], Wd f fl g gl hh v tx) P
    exact WP.retI hP_224 rfl rfl h2
  · have h3 := h.2 c1
    refine WP.run hP_224 3 (c' := (14, [some (.ref 74), some (.int l1), some (.int 0), none, none], [.int 1], Wd f fl g gl hh v tx)) rfl ?_
    refine WP.run hP_224 1 (c' := (15, [some (.ref 74), some (.int l1), some (.int 0), some (.int 1), none], [], Wd f fl g gl hh v tx)) rfl ?_
    exact h3

set_option maxRecDepth 20000 in
theorem b_m_twofoldOf_15 (X : mm_X) (d : Nat) (f : Nat → Int32) (fl : Nat → Int64) (g : Nat → Nat → Int32) (gl : Nat → Nat → Int64) (hh : Nat → Nat → Option Nat) (v : Nat → Value) (tx : mm_W) (l1 : Int32) (l2 : Int32) (l3 : Int32)  (P : Option Value → mm_W → Prop)
    (h : ((125 ≤ l3) → WP X (d) 224 (7, [some (.ref 74), some (.int l1), some (.int l2), none, none], [], Wd f fl g gl hh v tx) P) ∧
    ((¬ (125 ≤ l3)) → WP X (d) 224 (24, [some (.ref 74), some (.int l1), some (.int l2), some (.int l3), some (.int 0)], [], Wd f fl g gl hh v tx) P)) :
    WP X (d) 224 (15, [some (.ref 74), some (.int l1), some (.int l2), some (.int l3), none], [], Wd f fl g gl hh v tx) P := by
  refine WP.run hP_224 2 (c' := (18, [some (.ref 74), some (.int l1), some (.int l2), some (.int l3), none], [.int 125, .int l3], Wd f fl g gl hh v tx)) rfl ?_
  refine WP.br hP_224 (q := 125 ≤ l3) (t := 85) (f := 21) (L := [some (.ref 74), some (.int l1), some (.int l2), some (.int l3), none]) (st := []) (w := Wd f fl g gl hh v tx) rfl (fun c1 => ?_) (fun c1 => ?_)
  · have h2 := h.1 c1
    refine WP.run hP_224 1 (c' := (7, [some (.ref 74), some (.int l1), some (.int l2), none, none], [], Wd f fl g gl hh v tx)) rfl ?_
    exact h2
  · have h3 := h.2 c1
    refine WP.run hP_224 2 (c' := (24, [some (.ref 74), some (.int l1), some (.int l2), some (.int l3), some (.int 0)], [], Wd f fl g gl hh v tx)) rfl ?_
    exact h3

set_option maxRecDepth 20000 in
theorem b_m_twofoldOf_24 (X : mm_X) (d : Nat) (f : Nat → Int32) (fl : Nat → Int64) (g : Nat → Nat → Int32) (gl : Nat → Nat → Int64) (hh : Nat → Nat → Option Nat) (v : Nat → Value) (tx : mm_W) (l1 : Int32) (l2 : Int32) (l3 : Int32) (l4 : Int32)  (P : Option Value → mm_W → Prop)
    (h : ((((g 76) 55) ≤ l4) → WP X (d + 1) 224 (15, [some (.ref 74), some (.int l1), some (.int l2), some (.int (l3 + (1 : Int32))), none], [], Wd f fl g gl hh v tx) P) ∧
    ((¬ (((g 76) 55) ≤ l4)) → ((¬ (l3 < 0 ∨ 125 ≤ l3.toNatClampNeg)) ∧ (((1000000 ≤ ((g 93) l3.toNatClampNeg)) → WP X (d + 1) 224 (24, [some (.ref 74), some (.int l1), some (.int l2), some (.int l3), some (.int (l4 + (1 : Int32)))], [], Wd f fl g gl hh v tx) P) ∧
      ((¬ (1000000 ≤ ((g 93) l3.toNatClampNeg))) → (((¬ (((l1 >>> (l4 &&& (31 : Int32))) : Int32) &&& (1 : Int32)) = 1) → WP X (d + 1) 224 (24, [some (.ref 74), some (.int l1), some (.int l2), some (.int l3), some (.int (l4 + (1 : Int32)))], [], Wd f fl g gl hh v tx) P) ∧
        (((((l1 >>> (l4 &&& (31 : Int32))) : Int32) &&& (1 : Int32)) = 1) → WP X (d) 223 (0, [some (.ref 74), some (.int l3), some (.int l4), none], [], Wd f fl g gl hh v tx) (fun rv w2 => WP X (d + 1) 224 (60, [some (.ref 74), some (.int l1), some (.int l2), some (.int l3), some (.int l4)], rv.toList ++ [], w2) P)))))))) :
    WP X (d + 1) 224 (24, [some (.ref 74), some (.int l1), some (.int l2), some (.int l3), some (.int l4)], [], Wd f fl g gl hh v tx) P := by
  refine WP.run hP_224 2 (c' := (27, [some (.ref 74), some (.int l1), some (.int l2), some (.int l3), some (.int l4)], [.ref 74, .int l4], Wd f fl g gl hh v tx)) rfl ?_
  refine WP.call hP_224 hP_129 (as := [.ref 74]) (pc' := 30) (L' := [some (.ref 74), some (.int l1), some (.int l2), some (.int l3), some (.int l4)]) (st' := [.int l4]) (w1 := Wd f fl g gl hh v tx) rfl ⟨Nat.le_of_ble_eq_true rfl, Nat.le_of_ble_eq_true rfl⟩ rfl (b_m_signMany_0 X (d) f fl g gl hh v tx  _ ?_)
  refine WP.br hP_224 (q := ((g 76) 55) ≤ l4) (t := 79) (f := 33) (L := [some (.ref 74), some (.int l1), some (.int l2), some (.int l3), some (.int l4)]) (st := []) (w := Wd f fl g gl hh v tx) rfl (fun c1 => ?_) (fun c1 => ?_)
  · have h2 := h.1 c1
    refine WP.run hP_224 2 (c' := (15, [some (.ref 74), some (.int l1), some (.int l2), some (.int (l3 + (1 : Int32))), none], [], Wd f fl g gl hh v tx)) rfl ?_
    exact h2
  · have h3 := h.2 c1
    refine WP.run hP_224 3 (c' := (38, [some (.ref 74), some (.int l1), some (.int l2), some (.int l3), some (.int l4)], [.int l3, .ref 93], Wd f fl g gl hh v tx)) rfl ?_
    refine WP.of (fun _ _ => Ex.iald hP_224 rfl (Wa_93 _ _ _ _ _ _ _) h3.1) ?_
    have h4 := h3.2
    refine WP.run hP_224 1 (c' := (41, [some (.ref 74), some (.int l1), some (.int l2), some (.int l3), some (.int l4)], [.int 1000000, .int ((g 93) l3.toNatClampNeg)], Wd f fl g gl hh v tx)) rfl ?_
    refine WP.br hP_224 (q := 1000000 ≤ ((g 93) l3.toNatClampNeg)) (t := 73) (f := 44) (L := [some (.ref 74), some (.int l1), some (.int l2), some (.int l3), some (.int l4)]) (st := []) (w := Wd f fl g gl hh v tx) rfl (fun c5 => ?_) (fun c5 => ?_)
    · have h6 := h4.1 c5
      refine WP.run hP_224 2 (c' := (24, [some (.ref 74), some (.int l1), some (.int l2), some (.int l3), some (.int (l4 + (1 : Int32)))], [], Wd f fl g gl hh v tx)) rfl ?_
      exact h6
    · have h7 := h4.2 c5
      refine WP.run hP_224 2 (c' := (47, [some (.ref 74), some (.int l1), some (.int l2), some (.int l3), some (.int l4)], [.int l4, .int l1], Wd f fl g gl hh v tx)) rfl ?_
      refine WP.call hP_224 hP_122 (as := [.int l1, .int l4]) (pc' := 50) (L' := [some (.ref 74), some (.int l1), some (.int l2), some (.int l3), some (.int l4)]) (st' := []) (w1 := Wd f fl g gl hh v tx) rfl ⟨Nat.le_of_ble_eq_true rfl, Nat.le_of_ble_eq_true rfl⟩ rfl (b_m_isIn_0 X (d) f fl g gl hh v tx l1 l4 _ ?_)
      refine ⟨fun c8 => ?_, fun c8 => ?_⟩
      · have h9 := h7.1 c8
        refine WP.run hP_224 3 (c' := (24, [some (.ref 74), some (.int l1), some (.int l2), some (.int l3), some (.int (l4 + (1 : Int32)))], [], Wd f fl g gl hh v tx)) rfl ?_
        exact h9
      · have h10 := h7.2 c8
        refine WP.run hP_224 4 (c' := (57, [some (.ref 74), some (.int l1), some (.int l2), some (.int l3), some (.int l4)], [.int l4, .int l3, .ref 74], Wd f fl g gl hh v tx)) rfl ?_
        refine WP.call hP_224 hP_223 (as := [.ref 74, .int l3, .int l4]) (pc' := 60) (L' := [some (.ref 74), some (.int l1), some (.int l2), some (.int l3), some (.int l4)]) (st' := []) (w1 := Wd f fl g gl hh v tx) rfl ⟨Nat.le_of_ble_eq_true rfl, Nat.le_of_ble_eq_true rfl⟩ rfl ?_
        exact h10

set_option maxRecDepth 20000 in
theorem b_m_twofoldOf_60 (X : mm_X) (d : Nat) (f : Nat → Int32) (fl : Nat → Int64) (g : Nat → Nat → Int32) (gl : Nat → Nat → Int64) (hh : Nat → Nat → Option Nat) (v : Nat → Value) (tx : mm_W) (l1 : Int32) (l2 : Int32) (l3 : Int32) (l4 : Int32) (s0 : Int32)  (P : Option Value → mm_W → Prop)
    (h : ((¬ s0 = 0) → WP X (d) 224 (24, [some (.ref 74), some (.int l1), some (.int 1), some (.int l3), some (.int (l4 + (1 : Int32)))], [], Wd f fl g gl hh v tx) P) ∧
    ((s0 = 0) → (((l2 = 0) → WP X (d) 224 (24, [some (.ref 74), some (.int l1), some (.int 0), some (.int l3), some (.int (l4 + (1 : Int32)))], [], Wd f fl g gl hh v tx) P) ∧
      ((¬ l2 = 0) → WP X (d) 224 (24, [some (.ref 74), some (.int l1), some (.int 1), some (.int l3), some (.int (l4 + (1 : Int32)))], [], Wd f fl g gl hh v tx) P)))) :
    WP X (d) 224 (60, [some (.ref 74), some (.int l1), some (.int l2), some (.int l3), some (.int l4)], [.int s0], Wd f fl g gl hh v tx) P := by
  refine WP.br hP_224 (q := ¬ s0 = 0) (t := 67) (f := 63) (L := [some (.ref 74), some (.int l1), some (.int l2), some (.int l3), some (.int l4)]) (st := []) (w := Wd f fl g gl hh v tx) rfl (fun c1 => ?_) (fun c1 => ?_)
  · have h2 := h.1 c1
    refine WP.run hP_224 2 (c' := (72, [some (.ref 74), some (.int l1), none, some (.int l3), some (.int l4)], [.int 1], Wd f fl g gl hh v tx)) rfl ?_
    refine WP.run hP_224 1 (c' := (73, [some (.ref 74), some (.int l1), some (.int 1), some (.int l3), some (.int l4)], [], Wd f fl g gl hh v tx)) rfl ?_
    refine WP.run hP_224 2 (c' := (24, [some (.ref 74), some (.int l1), some (.int 1), some (.int l3), some (.int (l4 + (1 : Int32)))], [], Wd f fl g gl hh v tx)) rfl ?_
    exact h2
  · have h3 := h.2 (Classical.not_not.mp c1)
    refine WP.run hP_224 1 (c' := (64, [some (.ref 74), some (.int l1), some (.int l2), some (.int l3), some (.int l4)], [.int l2], Wd f fl g gl hh v tx)) rfl ?_
    refine WP.br hP_224 (q := l2 = 0) (t := 71) (f := 67) (L := [some (.ref 74), some (.int l1), some (.int l2), some (.int l3), some (.int l4)]) (st := []) (w := Wd f fl g gl hh v tx) rfl (fun c4 => ?_) (fun c4 => ?_)
    · have h5 := h3.1 c4
      refine WP.run hP_224 1 (c' := (72, [some (.ref 74), some (.int l1), none, some (.int l3), some (.int l4)], [.int 0], Wd f fl g gl hh v tx)) rfl ?_
      refine WP.run hP_224 1 (c' := (73, [some (.ref 74), some (.int l1), some (.int 0), some (.int l3), some (.int l4)], [], Wd f fl g gl hh v tx)) rfl ?_
      refine WP.run hP_224 2 (c' := (24, [some (.ref 74), some (.int l1), some (.int 0), some (.int l3), some (.int (l4 + (1 : Int32)))], [], Wd f fl g gl hh v tx)) rfl ?_
      exact h5
    · have h6 := h3.2 c4
      refine WP.run hP_224 2 (c' := (72, [some (.ref 74), some (.int l1), none, some (.int l3), some (.int l4)], [.int 1], Wd f fl g gl hh v tx)) rfl ?_
      refine WP.run hP_224 1 (c' := (73, [some (.ref 74), some (.int l1), some (.int 1), some (.int l3), some (.int l4)], [], Wd f fl g gl hh v tx)) rfl ?_
      refine WP.run hP_224 2 (c' := (24, [some (.ref 74), some (.int l1), some (.int 1), some (.int l3), some (.int (l4 + (1 : Int32)))], [], Wd f fl g gl hh v tx)) rfl ?_
      exact h6
