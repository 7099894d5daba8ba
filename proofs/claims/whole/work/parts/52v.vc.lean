set_option maxRecDepth 20000 in
theorem b_m_setsAsked_0 (X : mm_X) (d : Nat) (f : Nat → Int32) (fl : Nat → Int64) (g : Nat → Nat → Int32) (gl : Nat → Nat → Int64) (hh : Nat → Nat → Option Nat) (v : Nat → Value) (tx : mm_W) (p0 : Int32) (p1 : Int32) (p2 : Int32) (p3 : Int32) (p4 : Int32)  (P : Option Value → mm_W → Prop)
    (h : ((¬ p1 = (-1)) → ((¬ (((31 : Int32) + p1) < 0 ∨ 5667 ≤ ((31 : Int32) + p1).toNatClampNeg)) ∧ WP X (d) 189 (37, [some (.ref 74), none, none, some (.int p2), some (.int p3), some (.int p4)], [.int ((g 76) ((31 : Int32) + p1).toNatClampNeg), .int 2, .ref 86], Wd f fl (va_up (va_up g 86 (upd (g 86) 0 p0)) 86 (upd (upd (g 86) 0 p0) 1 p1)) gl hh v tx) P)) ∧
    ((p1 = (-1)) → WP X (d) 189 (37, [some (.ref 74), none, none, some (.int p2), some (.int p3), some (.int p4)], [.int (-1), .int 2, .ref 86], Wd f fl (va_up (va_up g 86 (upd (g 86) 0 p0)) 86 (upd (upd (g 86) 0 p0) 1 p1)) gl hh v tx) P)) :
    WP X (d) 189 (0, [some (.ref 74), some (.int p0), some (.int p1), some (.int p2), some (.int p3), some (.int p4)], [], Wd f fl g gl hh v tx) P := by
  refine WP.run hP_189 4 (c' := (6, [some (.ref 74), some (.int p0), some (.int p1), some (.int p2), some (.int p3), some (.int p4)], [.int p0, .int 0, .ref 86], Wd f fl g gl hh v tx)) rfl ?_
  refine WP.of (fun _ _ => Ex.iast hP_189 (w2 := Wd f fl (va_up g 86 (upd (g 86) 0 p0)) gl hh v tx) rfl (Wa_86 _ _ _ _ _ _ _) (by decide) (Ws_86 _ _ _ _ _ _ _ _)) ?_
  refine WP.run hP_189 4 (c' := (13, [some (.ref 74), some (.int p0), some (.int p1), some (.int p2), some (.int p3), some (.int p4)], [.int p1, .int 1, .ref 86], Wd f fl (va_up g 86 (upd (g 86) 0 p0)) gl hh v tx)) rfl ?_
  refine WP.of (fun _ _ => Ex.iast hP_189 (w2 := Wd f fl (va_up (va_up g 86 (upd (g 86) 0 p0)) 86 (upd (upd (g 86) 0 p0) 1 p1)) gl hh v tx) rfl (Wa_86 _ _ _ _ _ _ _) (by decide) (Ws_86 _ _ _ _ _ _ _ _)) ?_
  refine WP.run hP_189 5 (c' := (21, [some (.ref 74), some (.int p0), some (.int p1), some (.int p2), some (.int p3), some (.int p4)], [.int (-1), .int p1, .int 2, .ref 86], Wd f fl (va_up (va_up g 86 (upd (g 86) 0 p0)) 86 (upd (upd (g 86) 0 p0) 1 p1)) gl hh v tx)) rfl ?_
  refine WP.br hP_189 (q := ¬ p1 = (-1)) (t := 28) (f := 24) (L := [some (.ref 74), some (.int p0), some (.int p1), some (.int p2), some (.int p3), some (.int p4)]) (st := [.int 2, .ref 86]) (w := Wd f fl (va_up (va_up g 86 (upd (g 86) 0 p0)) 86 (upd (upd (g 86) 0 p0) 1 p1)) gl hh v tx) rfl (fun c1 => ?_) (fun c1 => ?_)
  · have h2 := h.1 c1
    refine WP.run hP_189 5 (c' := (36, [some (.ref 74), none, some (.int p1), some (.int p2), some (.int p3), some (.int p4)], [.int ((31 : Int32) + p1), .ref 76, .int 2, .ref 86], Wd f fl (va_up (va_up g 86 (upd (g 86) 0 p0)) 86 (upd (upd (g 86) 0 p0) 1 p1)) gl hh v tx)) rfl ?_
    refine WP.of (fun _ _ => Ex.iald hP_189 rfl (Wa_76 _ _ _ _ _ _ _) h2.1) ?_
    have h3 := h2.2
    refine WP.clr hP_189 (pc := 37) rfl ?_
    exact h3
  · have h4 := h.2 (Classical.not_not.mp c1)
    refine WP.run hP_189 2 (c' := (37, [some (.ref 74), some (.int p0), some (.int p1), some (.int p2), some (.int p3), some (.int p4)], [.int (-1), .int 2, .ref 86], Wd f fl (va_up (va_up g 86 (upd (g 86) 0 p0)) 86 (upd (upd (g 86) 0 p0) 1 p1)) gl hh v tx)) rfl ?_
    refine WP.clr hP_189 (pc := 37) rfl ?_
    exact h4

set_option maxRecDepth 20000 in
theorem b_m_setsAsked_37 (X : mm_X) (d : Nat) (f : Nat → Int32) (fl : Nat → Int64) (g : Nat → Nat → Int32) (gl : Nat → Nat → Int64) (hh : Nat → Nat → Option Nat) (v : Nat → Value) (tx : mm_W) (l3 : Int32) (l4 : Int32) (l5 : Int32) (s0 : Int32) (s1 : Int32)  (P : Option Value → mm_W → Prop)
    (h : (¬ (s1 < 0 ∨ 8 ≤ s1.toNatClampNeg)) ∧ P none (Wd f fl (va_up (va_up (va_up (va_up (va_up (va_up g 86 (upd (g 86) (s1.toNatClampNeg) s0)) 86 (upd (upd (g 86) (s1.toNatClampNeg) s0) 3 l3)) 86 (upd (upd (upd (g 86) (s1.toNatClampNeg) s0) 3 l3) 4 ((g 76) 54))) 86 (upd (upd (upd (upd (g 86) (s1.toNatClampNeg) s0) 3 l3) 4 ((g 76) 54)) 5 l4)) 86 (upd (upd (upd (upd (upd (g 86) (s1.toNatClampNeg) s0) 3 l3) 4 ((g 76) 54)) 5 l4) 6 l5)) 86 (upd (upd (upd (upd (upd (upd (g 86) (s1.toNatClampNeg) s0) 3 l3) 4 ((g 76) 54)) 5 l4) 6 l5) 7 ((g 76) 22))) gl hh v tx)) :
    WP X (d) 189 (37, [some (.ref 74), none, none, some (.int l3), some (.int l4), some (.int l5)], [.int s0, .int s1, .ref 86], Wd f fl g gl hh v tx) P := by
  refine WP.of (fun _ _ => Ex.iast hP_189 (w2 := Wd f fl (va_up g 86 (upd (g 86) (s1.toNatClampNeg) s0)) gl hh v tx) rfl (Wa_86 _ _ _ _ _ _ _) h.1 (Ws_86 _ _ _ _ _ _ _ _)) ?_
  have h1 := h.2
  refine WP.run hP_189 4 (c' := (44, [some (.ref 74), none, none, some (.int l3), some (.int l4), some (.int l5)], [.int l3, .int 3, .ref 86], Wd f fl (va_up g 86 (upd (g 86) (s1.toNatClampNeg) s0)) gl hh v tx)) rfl ?_
  refine WP.of (fun _ _ => Ex.iast hP_189 (w2 := Wd f fl (va_up (va_up g 86 (upd (g 86) (s1.toNatClampNeg) s0)) 86 (upd (upd (g 86) (s1.toNatClampNeg) s0) 3 l3)) gl hh v tx) rfl (Wa_86 _ _ _ _ _ _ _) (by decide) (Ws_86 _ _ _ _ _ _ _ _)) ?_
  refine WP.run hP_189 6 (c' := (56, [some (.ref 74), none, none, some (.int l3), some (.int l4), some (.int l5)], [.int 54, .ref 76, .int 4, .ref 86], Wd f fl (va_up (va_up g 86 (upd (g 86) (s1.toNatClampNeg) s0)) 86 (upd (upd (g 86) (s1.toNatClampNeg) s0) 3 l3)) gl hh v tx)) rfl ?_
  refine WP.of (fun _ _ => Ex.iald hP_189 rfl (Wa_76 _ _ _ _ _ _ _) (by decide)) ?_
  show WP X _ 189 (57, [some (.ref 74), none, none, some (.int l3), some (.int l4), some (.int l5)], [.int ((g 76) 54), .int 4, .ref 86], Wd f fl (va_up (va_up g 86 (upd (g 86) (s1.toNatClampNeg) s0)) 86 (upd (upd (g 86) (s1.toNatClampNeg) s0) 3 l3)) gl hh v tx) P
  refine WP.of (fun _ _ => Ex.iast hP_189 (w2 := Wd f fl (va_up (va_up (va_up g 86 (upd (g 86) (s1.toNatClampNeg) s0)) 86 (upd (upd (g 86) (s1.toNatClampNeg) s0) 3 l3)) 86 (upd (upd (upd (g 86) (s1.toNatClampNeg) s0) 3 l3) 4 ((g 76) 54))) gl hh v tx) rfl (Wa_86 _ _ _ _ _ _ _) (by decide) (Ws_86 _ _ _ _ _ _ _ _)) ?_
  refine WP.run hP_189 4 (c' := (65, [some (.ref 74), none, none, some (.int l3), some (.int l4), some (.int l5)], [.int l4, .int 5, .ref 86], Wd f fl (va_up (va_up (va_up g 86 (upd (g 86) (s1.toNatClampNeg) s0)) 86 (upd (upd (g 86) (s1.toNatClampNeg) s0) 3 l3)) 86 (upd (upd (upd (g 86) (s1.toNatClampNeg) s0) 3 l3) 4 ((g 76) 54))) gl hh v tx)) rfl ?_
  refine WP.of (fun _ _ => Ex.iast hP_189 (w2 := Wd f fl (va_up (va_up (va_up (va_up g 86 (upd (g 86) (s1.toNatClampNeg) s0)) 86 (upd (upd (g 86) (s1.toNatClampNeg) s0) 3 l3)) 86 (upd (upd (upd (g 86) (s1.toNatClampNeg) s0) 3 l3) 4 ((g 76) 54))) 86 (upd (upd (upd (upd (g 86) (s1.toNatClampNeg) s0) 3 l3) 4 ((g 76) 54)) 5 l4)) gl hh v tx) rfl (Wa_86 _ _ _ _ _ _ _) (by decide) (Ws_86 _ _ _ _ _ _ _ _)) ?_
  refine WP.run hP_189 4 (c' := (74, [some (.ref 74), none, none, some (.int l3), some (.int l4), some (.int l5)], [.int l5, .int 6, .ref 86], Wd f fl (va_up (va_up (va_up (va_up g 86 (upd (g 86) (s1.toNatClampNeg) s0)) 86 (upd (upd (g 86) (s1.toNatClampNeg) s0) 3 l3)) 86 (upd (upd (upd (g 86) (s1.toNatClampNeg) s0) 3 l3) 4 ((g 76) 54))) 86 (upd (upd (upd (upd (g 86) (s1.toNatClampNeg) s0) 3 l3) 4 ((g 76) 54)) 5 l4)) gl hh v tx)) rfl ?_
  refine WP.of (fun _ _ => Ex.iast hP_189 (w2 := Wd f fl (va_up (va_up (va_up (va_up (va_up g 86 (upd (g 86) (s1.toNatClampNeg) s0)) 86 (upd (upd (g 86) (s1.toNatClampNeg) s0) 3 l3)) 86 (upd (upd (upd (g 86) (s1.toNatClampNeg) s0) 3 l3) 4 ((g 76) 54))) 86 (upd (upd (upd (upd (g 86) (s1.toNatClampNeg) s0) 3 l3) 4 ((g 76) 54)) 5 l4)) 86 (upd (upd (upd (upd (upd (g 86) (s1.toNatClampNeg) s0) 3 l3) 4 ((g 76) 54)) 5 l4) 6 l5)) gl hh v tx) rfl (Wa_86 _ _ _ _ _ _ _) (by decide) (Ws_86 _ _ _ _ _ _ _ _)) ?_
  refine WP.run hP_189 6 (c' := (87, [some (.ref 74), none, none, some (.int l3), some (.int l4), some (.int l5)], [.int 22, .ref 76, .int 7, .ref 86], Wd f fl (va_up (va_up (va_up (va_up (va_up g 86 (upd (g 86) (s1.toNatClampNeg) s0)) 86 (upd (upd (g 86) (s1.toNatClampNeg) s0) 3 l3)) 86 (upd (upd (upd (g 86) (s1.toNatClampNeg) s0) 3 l3) 4 ((g 76) 54))) 86 (upd (upd (upd (upd (g 86) (s1.toNatClampNeg) s0) 3 l3) 4 ((g 76) 54)) 5 l4)) 86 (upd (upd (upd (upd (upd (g 86) (s1.toNatClampNeg) s0) 3 l3) 4 ((g 76) 54)) 5 l4) 6 l5)) gl hh v tx)) rfl ?_
  refine WP.of (fun _ _ => Ex.iald hP_189 rfl (Wa_76 _ _ _ _ _ _ _) (by decide)) ?_
  show WP X _ 189 (88, [some (.ref 74), none, none, some (.int l3), some (.int l4), some (.int l5)], [.int ((g 76) 22), .int 7, .ref 86], Wd f fl (va_up (va_up (va_up (va_up (va_up g 86 (upd (g 86) (s1.toNatClampNeg) s0)) 86 (upd (upd (g 86) (s1.toNatClampNeg) s0) 3 l3)) 86 (upd (upd (upd (g 86) (s1.toNatClampNeg) s0) 3 l3) 4 ((g 76) 54))) 86 (upd (upd (upd (upd (g 86) (s1.toNatClampNeg) s0) 3 l3) 4 ((g 76) 54)) 5 l4)) 86 (upd (upd (upd (upd (upd (g 86) (s1.toNatClampNeg) s0) 3 l3) 4 ((g 76) 54)) 5 l4) 6 l5)) gl hh v tx) P
  refine WP.of (fun _ _ => Ex.iast hP_189 (w2 := Wd f fl (va_up (va_up (va_up (va_up (va_up (va_up g 86 (upd (g 86) (s1.toNatClampNeg) s0)) 86 (upd (upd (g 86) (s1.toNatClampNeg) s0) 3 l3)) 86 (upd (upd (upd (g 86) (s1.toNatClampNeg) s0) 3 l3) 4 ((g 76) 54))) 86 (upd (upd (upd (upd (g 86) (s1.toNatClampNeg) s0) 3 l3) 4 ((g 76) 54)) 5 l4)) 86 (upd (upd (upd (upd (upd (g 86) (s1.toNatClampNeg) s0) 3 l3) 4 ((g 76) 54)) 5 l4) 6 l5)) 86 (upd (upd (upd (upd (upd (upd (g 86) (s1.toNatClampNeg) s0) 3 l3) 4 ((g 76) 54)) 5 l4) 6 l5) 7 ((g 76) 22))) gl hh v tx) rfl (Wa_86 _ _ _ _ _ _ _) (by decide) (Ws_86 _ _ _ _ _ _ _ _)) ?_
  exact WP.ret hP_189 (r := none) (w' := Wd f fl (va_up (va_up (va_up (va_up (va_up (va_up g 86 (upd (g 86) (s1.toNatClampNeg) s0)) 86 (upd (upd (g 86) (s1.toNatClampNeg) s0) 3 l3)) 86 (upd (upd (upd (g 86) (s1.toNatClampNeg) s0) 3 l3) 4 ((g 76) 54))) 86 (upd (upd (upd (upd (g 86) (s1.toNatClampNeg) s0) 3 l3) 4 ((g 76) 54)) 5 l4)) 86 (upd (upd (upd (upd (upd (g 86) (s1.toNatClampNeg) s0) 3 l3) 4 ((g 76) 54)) 5 l4) 6 l5)) 86 (upd (upd (upd (upd (upd (upd (g 86) (s1.toNatClampNeg) s0) 3 l3) 4 ((g 76) 54)) 5 l4) 6 l5) 7 ((g 76) 22))) gl hh v tx) rfl h1

set_option maxRecDepth 20000 in
theorem b_m_glyph_0 (X : mm_X) (d : Nat) (f : Nat → Int32) (fl : Nat → Int64) (g : Nat → Nat → Int32) (gl : Nat → Nat → Int64) (hh : Nat → Nat → Option Nat) (v : Nat → Value) (tx : mm_W) (p0 : Int32)  (P : Option Value → mm_W → Prop)
    (h : P (some (.int ((100 : Int32) + p0))) (Wd f fl g gl hh v tx)) :
    WP X (d) 160 (0, [some (.int p0)], [], Wd f fl g gl hh v tx) P := by
  refine WP.run hP_160 3 (c' := (4, [some (.int p0)], [.int ((100 : Int32) + p0)], Wd f fl g gl hh v tx)) rfl ?_
  exact WP.retI hP_160 rfl rfl h

set_option maxRecDepth 20000 in
theorem b_m_orderValue_0 (X : mm_X) (d : Nat) (f : Nat → Int32) (fl : Nat → Int64) (g : Nat → Nat → Int32) (gl : Nat → Nat → Int64) (hh : Nat → Nat → Option Nat) (v : Nat → Value) (tx : mm_W) (p0 : Int32) (p1 : Int32)  (P : Option Value → mm_W → Prop)
    (h : ((p0 = 13) → ((((0 : Int32) ≤ p1 ∧ p1 ≤ (((g 76) 56) - (1 : Int32))) → ((¬ (((13 : Int32) + p1) < 0 ∨ 5667 ≤ ((13 : Int32) + p1).toNatClampNeg)) ∧ P (some (.int ((g 76) ((13 : Int32) + p1).toNatClampNeg))) (Wd f fl g gl hh v tx))) ∧
      ((¬ ((0 : Int32) ≤ p1 ∧ p1 ≤ (((g 76) 56) - (1 : Int32)))) → P (some (.int (-1))) (Wd f fl g gl hh v tx)))) ∧
    ((¬ p0 = 13) → (((p0 = 14) → ((((0 : Int32) ≤ p1 ∧ p1 ≤ (((g 76) 56) - (1 : Int32))) → ((¬ (((19 : Int32) + p1) < 0 ∨ 5667 ≤ ((19 : Int32) + p1).toNatClampNeg)) ∧ P (some (.int ((g 76) ((19 : Int32) + p1).toNatClampNeg))) (Wd f fl g gl hh v tx))) ∧
        ((¬ ((0 : Int32) ≤ p1 ∧ p1 ≤ (((g 76) 56) - (1 : Int32)))) → P (some (.int (-1))) (Wd f fl g gl hh v tx)))) ∧
      ((¬ p0 = 14) → (((p0 = 15) → P (some (.int ((g 76) 22))) (Wd f fl g gl hh v tx)) ∧
        ((¬ p0 = 15) → (((p0 = 16) → P (some (.int (f 4763))) (Wd f fl g gl hh v tx)) ∧
          ((¬ p0 = 16) → (((p0 = 17) → P (some (.int (f 4764))) (Wd f fl g gl hh v tx)) ∧
            ((¬ p0 = 17) → (((p0 = 18) → P (some (.int ((g 76) 12))) (Wd f fl g gl hh v tx)) ∧
              ((¬ p0 = 18) → WP X (d + 1) 195 (0, [some (.ref 74), none, none], [], Wd f fl g gl hh v tx) (fun rv w2 => WP X (d + 2) 184 (111, [some (.ref 74), none, none], rv.toList ++ [], w2) P))))))))))))) :
    WP X (d + 2) 184 (0, [some (.ref 74), some (.int p0), some (.int p1)], [], Wd f fl g gl hh v tx) P := by
  refine WP.run hP_184 1 (c' := (1, [some (.ref 74), some (.int p0), some (.int p1)], [.int p0], Wd f fl g gl hh v tx)) rfl ?_
  refine WP.run hP_184 1 (c' := (mm_sw p0 13 [40, 62, 84, 92, 97, 102] 107, [some (.ref 74), some (.int p0), some (.int p1)], [], Wd f fl g gl hh v tx)) rfl ?_
  refine WP.sw (lo' := 14) rfl (fun c1 => ?_) (fun c1 => ?_)
  · have h2 := h.1 c1
    refine WP.run hP_184 2 (c' := (42, [some (.ref 74), none, some (.int p1)], [.int p1, .ref 74], Wd f fl g gl hh v tx)) rfl ?_
    refine WP.call hP_184 hP_132 (as := [.ref 74, .int p1]) (pc' := 45) (L' := [some (.ref 74), none, some (.int p1)]) (st' := []) (w1 := Wd f fl g gl hh v tx) rfl ⟨Nat.le_of_ble_eq_true rfl, Nat.le_of_ble_eq_true rfl⟩ rfl (b_m_isShip_0 X (d) f fl g gl hh v tx p1 _ ?_)
    refine ⟨fun c3 => ?_, fun c3 => ?_⟩
    · have h4 := h2.1 c3
      refine WP.run hP_184 6 (c' := (56, [some (.ref 74), none, some (.int p1)], [.int ((13 : Int32) + p1), .ref 76], Wd f fl g gl hh v tx)) rfl ?_
      refine WP.of (fun _ _ => Ex.iald hP_184 rfl (Wa_76 _ _ _ _ _ _ _) h4.1) ?_
      have h5 := h4.2
      refine WP.run hP_184 1 (c' := (61, [some (.ref 74), none, some (.int p1)], [.int ((g 76) ((13 : Int32) + p1).toNatClampNeg)], Wd f fl g gl hh v tx)) rfl ?_
      exact WP.retI hP_184 rfl rfl h5
    · have h6 := h2.2 c3
      refine WP.run hP_184 2 (c' := (61, [none, none, none], [.int (-1)], Wd f fl g gl hh v tx)) rfl ?_
      exact WP.retI hP_184 rfl rfl h6
  · have h7 := h.2 c1
    refine WP.sw (lo' := 15) rfl (fun c8 => ?_) (fun c8 => ?_)
    · have h9 := h7.1 c8
      refine WP.run hP_184 2 (c' := (64, [some (.ref 74), none, some (.int p1)], [.int p1, .ref 74], Wd f fl g gl hh v tx)) rfl ?_
      refine WP.call hP_184 hP_132 (as := [.ref 74, .int p1]) (pc' := 67) (L' := [some (.ref 74), none, some (.int p1)]) (st' := []) (w1 := Wd f fl g gl hh v tx) rfl ⟨Nat.le_of_ble_eq_true rfl, Nat.le_of_ble_eq_true rfl⟩ rfl (b_m_isShip_0 X (d) f fl g gl hh v tx p1 _ ?_)
      refine ⟨fun c10 => ?_, fun c10 => ?_⟩
      · have h11 := h9.1 c10
        refine WP.run hP_184 6 (c' := (78, [some (.ref 74), none, some (.int p1)], [.int ((19 : Int32) + p1), .ref 76], Wd f fl g gl hh v tx)) rfl ?_
        refine WP.of (fun _ _ => Ex.iald hP_184 rfl (Wa_76 _ _ _ _ _ _ _) h11.1) ?_
        have h12 := h11.2
        refine WP.run hP_184 1 (c' := (83, [some (.ref 74), none, some (.int p1)], [.int ((g 76) ((19 : Int32) + p1).toNatClampNeg)], Wd f fl g gl hh v tx)) rfl ?_
        exact WP.retI hP_184 rfl rfl h12
      · have h13 := h9.2 c10
        refine WP.run hP_184 2 (c' := (83, [none, none, none], [.int (-1)], Wd f fl g gl hh v tx)) rfl ?_
        exact WP.retI hP_184 rfl rfl h13
    · have h14 := h7.2 c8
      refine WP.sw (lo' := 16) rfl (fun c15 => ?_) (fun c15 => ?_)
      · have h16 := h14.1 c15
        refine WP.run hP_184 3 (c' := (90, [some (.ref 74), none, none], [.int 22, .ref 76], Wd f fl g gl hh v tx)) rfl ?_
        refine WP.of (fun _ _ => Ex.iald hP_184 rfl (Wa_76 _ _ _ _ _ _ _) (by decide)) ?_
        show WP X _ 184 (91, [some (.ref 74), none, none], [.int ((g 76) 22)], Wd f fl g gl hh v tx) P
        exact WP.retI hP_184 rfl rfl h16
      · have h17 := h14.2 c15
        refine WP.sw (lo' := 17) rfl (fun c18 => ?_) (fun c18 => ?_)
        · have h19 := h17.1 c18
          refine WP.run hP_184 2 (c' := (96, [some (.ref 74), none, none], [.int (f 4763)], Wd f fl g gl hh v tx)) rfl ?_
          exact WP.retI hP_184 rfl rfl h19
        · have h20 := h17.2 c18
          refine WP.sw (lo' := 18) rfl (fun c21 => ?_) (fun c21 => ?_)
          · have h22 := h20.1 c21
            refine WP.run hP_184 2 (c' := (101, [some (.ref 74), none, none], [.int (f 4764)], Wd f fl g gl hh v tx)) rfl ?_
            exact WP.retI hP_184 rfl rfl h22
          · have h23 := h20.2 c21
            refine WP.sw (lo' := 19) rfl (fun c24 => ?_) (fun c24 => ?_)
            · have h25 := h23.1 c24
              refine WP.run hP_184 1 (c' := (103, [some (.ref 74), none, none], [.ref 74], Wd f fl g gl hh v tx)) rfl ?_
              refine WP.call hP_184 hP_130 (as := [.ref 74]) (pc' := 106) (L' := [some (.ref 74), none, none]) (st' := []) (w1 := Wd f fl g gl hh v tx) rfl ⟨Nat.le_of_ble_eq_true rfl, Nat.le_of_ble_eq_true rfl⟩ rfl (b_m_size_0 X (d + 1) f fl g gl hh v tx  _ ?_)
              exact WP.retI hP_184 rfl rfl h25
            · have h26 := h23.2 c24
              show WP X _ 184 (107, [some (.ref 74), some (.int p0), some (.int p1)], [], Wd f fl g gl hh v tx) P
              refine WP.run hP_184 1 (c' := (108, [some (.ref 74), none, none], [.ref 74], Wd f fl g gl hh v tx)) rfl ?_
              refine WP.call hP_184 hP_195 (as := [.ref 74]) (pc' := 111) (L' := [some (.ref 74), none, none]) (st' := []) (w1 := Wd f fl g gl hh v tx) rfl ⟨Nat.le_of_ble_eq_true rfl, Nat.le_of_ble_eq_true rfl⟩ rfl ?_
              exact h26

set_option maxRecDepth 20000 in
theorem b_m_orderValue_111 (X : mm_X) (d : Nat) (f : Nat → Int32) (fl : Nat → Int64) (g : Nat → Nat → Int32) (gl : Nat → Nat → Int64) (hh : Nat → Nat → Option Nat) (v : Nat → Value) (tx : mm_W) (s0 : Int32)  (P : Option Value → mm_W → Prop)
    (h : P (some (.int s0)) (Wd f fl g gl hh v tx)) :
    WP X (d) 184 (111, [some (.ref 74), none, none], [.int s0], Wd f fl g gl hh v tx) P := by
  exact WP.retI hP_184 rfl rfl h

set_option maxRecDepth 20000 in
theorem b_m_partOf_0 (X : mm_X) (d : Nat) (f : Nat → Int32) (fl : Nat → Int64) (g : Nat → Nat → Int32) (gl : Nat → Nat → Int64) (hh : Nat → Nat → Option Nat) (v : Nat → Value) (tx : mm_W) (p0 : Int32)  (P : Option Value → mm_W → Prop)
    (h : WP X (d) 179 (0, [some (.ref 74), some (.int 191), none], [], Wd f fl g gl hh v tx) (fun rv w2 => WP X (d + 1) 183 (9, [some (.ref 74), some (.int p0), none, none], rv.toList ++ [], w2) P)) :
    WP X (d + 1) 183 (0, [some (.ref 74), some (.int p0), none, none], [], Wd f fl g gl hh v tx) P := by
  refine WP.run hP_183 2 (c' := (3, [some (.ref 74), some (.int p0), none, none], [.int 91, .ref 74], Wd f fl g gl hh v tx)) rfl ?_
  refine WP.call hP_183 hP_160 (as := [.int 91]) (pc' := 6) (L' := [some (.ref 74), some (.int p0), none, none]) (st' := [.ref 74]) (w1 := Wd f fl g gl hh v tx) rfl ⟨Nat.le_of_ble_eq_true rfl, Nat.le_of_ble_eq_true rfl⟩ rfl (b_m_glyph_0 X (d) f fl g gl hh v tx 91 _ ?_)
  refine WP.call hP_183 hP_179 (as := [.ref 74, .int 191]) (pc' := 9) (L' := [some (.ref 74), some (.int p0), none, none]) (st' := []) (w1 := Wd f fl g gl hh v tx) rfl ⟨Nat.le_of_ble_eq_true rfl, Nat.le_of_ble_eq_true rfl⟩ rfl ?_
  exact h

set_option maxRecDepth 20000 in
theorem b_m_partOf_9 (X : mm_X) (d : Nat) (f : Nat → Int32) (fl : Nat → Int64) (g : Nat → Nat → Int32) (gl : Nat → Nat → Int64) (hh : Nat → Nat → Option Nat) (v : Nat → Value) (tx : mm_W) (l1 : Int32) (s0 : Int32)  (P : Option Value → mm_W → Prop)
    (h : ((s0 = 0) → WP X (d) 178 (0, [some (.ref 74), some (.int (f 4758))], [], Wd f fl g gl hh v tx) (fun rv w2 => WP X (d + 1) 183 (38, [some (.ref 74), some (.int l1), none, none], rv.toList ++ [], w2) P)) ∧
    ((¬ s0 = 0) → WP X (d) 181 (0, [some (.ref 74), some (.int l1), none, none, none, none, none], [], Wd f fl g gl hh v tx) (fun rv w2 => WP X (d + 1) 183 (17, [some (.ref 74), some (.int l1), none, none], rv.toList ++ [], w2) P))) :
    WP X (d + 1) 183 (9, [some (.ref 74), some (.int l1), none, none], [.int s0], Wd f fl g gl hh v tx) P := by
  refine WP.br hP_183 (q := s0 = 0) (t := 30) (f := 12) (L := [some (.ref 74), some (.int l1), none, none]) (st := []) (w := Wd f fl g gl hh v tx) rfl (fun c1 => ?_) (fun c1 => ?_)
  · have h2 := h.1 c1
    refine WP.run hP_183 3 (c' := (35, [some (.ref 74), some (.int l1), none, none], [.int (f 4758), .ref 74], Wd f fl g gl hh v tx)) rfl ?_
    refine WP.call hP_183 hP_178 (as := [.ref 74, .int (f 4758)]) (pc' := 38) (L' := [some (.ref 74), some (.int l1), none, none]) (st' := []) (w1 := Wd f fl g gl hh v tx) rfl ⟨Nat.le_of_ble_eq_true rfl, Nat.le_of_ble_eq_true rfl⟩ rfl ?_
    exact h2
  · have h3 := h.2 c1
    refine WP.run hP_183 2 (c' := (14, [some (.ref 74), some (.int l1), none, none], [.int l1, .ref 74], Wd f fl g gl hh v tx)) rfl ?_
    refine WP.call hP_183 hP_181 (as := [.ref 74, .int l1]) (pc' := 17) (L' := [some (.ref 74), some (.int l1), none, none]) (st' := []) (w1 := Wd f fl g gl hh v tx) rfl ⟨Nat.le_of_ble_eq_true rfl, Nat.le_of_ble_eq_true rfl⟩ rfl ?_
    exact h3

set_option maxRecDepth 20000 in
theorem b_m_partOf_38 (X : mm_X) (d : Nat) (f : Nat → Int32) (fl : Nat → Int64) (g : Nat → Nat → Int32) (gl : Nat → Nat → Int64) (hh : Nat → Nat → Option Nat) (v : Nat → Value) (tx : mm_W) (l1 : Int32) (s0 : Int32)  (P : Option Value → mm_W → Prop)
    (h : (((f 4761) = 0) → WP X (d) 183 (94, [some (.ref 74), some (.int l1), some (.int s0), some (.int 0)], [], Wd (va_up f 4758 ((f 4758) + (1 : Int32))) fl g gl hh v tx) P) ∧
    ((¬ (f 4761) = 0) → (((s0 = 13) → WP X (d) 183 (70, [some (.ref 74), some (.int l1), some (.int s0), none], [], Wd (va_up f 4758 ((f 4758) + (1 : Int32))) fl g gl hh v tx) P) ∧
      ((¬ s0 = 13) → (((¬ s0 = 14) → WP X (d) 183 (94, [some (.ref 74), some (.int l1), some (.int s0), some (.int 0)], [], Wd (va_up f 4758 ((f 4758) + (1 : Int32))) fl g gl hh v tx) P) ∧
        ((s0 = 14) → WP X (d) 183 (70, [some (.ref 74), some (.int l1), some (.int s0), none], [], Wd (va_up f 4758 ((f 4758) + (1 : Int32))) fl g gl hh v tx) P)))))) :
    WP X (d) 183 (38, [some (.ref 74), some (.int l1), none, none], [.int s0], Wd f fl g gl hh v tx) P := by
  refine WP.run hP_183 2 (c' := (40, [some (.ref 74), some (.int l1), some (.int s0), none], [.int 0], Wd f fl g gl hh v tx)) rfl ?_
  refine WP.run hP_183 9 (c' := (55, [some (.ref 74), some (.int l1), some (.int s0), some (.int 0)], [.int (f 4761)], Wd (va_up f 4758 ((f 4758) + (1 : Int32))) fl g gl hh v tx)) rfl ?_
  refine WP.br hP_183 (q := (f 4761) = 0) (t := 94) (f := 58) (L := [some (.ref 74), some (.int l1), some (.int s0), some (.int 0)]) (st := []) (w := Wd (va_up f 4758 ((f 4758) + (1 : Int32))) fl g gl hh v tx) rfl (fun c1 => ?_) (fun c1 => ?_)
  · have h2 := h.1 c1
    exact h2
  · have h3 := h.2 c1
    refine WP.run hP_183 2 (c' := (61, [some (.ref 74), some (.int l1), some (.int s0), some (.int 0)], [.int 13, .int s0], Wd (va_up f 4758 ((f 4758) + (1 : Int32))) fl g gl hh v tx)) rfl ?_
    refine WP.br hP_183 (q := s0 = 13) (t := 70) (f := 64) (L := [some (.ref 74), some (.int l1), some (.int s0), some (.int 0)]) (st := []) (w := Wd (va_up f 4758 ((f 4758) + (1 : Int32))) fl g gl hh v tx) rfl (fun c4 => ?_) (fun c4 => ?_)
    · have h5 := h3.1 c4
      refine WP.clr hP_183 (pc := 70) rfl ?_
      exact h5
    · have h6 := h3.2 c4
      refine WP.run hP_183 2 (c' := (67, [some (.ref 74), some (.int l1), some (.int s0), some (.int 0)], [.int 14, .int s0], Wd (va_up f 4758 ((f 4758) + (1 : Int32))) fl g gl hh v tx)) rfl ?_
      refine WP.br hP_183 (q := ¬ s0 = 14) (t := 94) (f := 70) (L := [some (.ref 74), some (.int l1), some (.int s0), some (.int 0)]) (st := []) (w := Wd (va_up f 4758 ((f 4758) + (1 : Int32))) fl g gl hh v tx) rfl (fun c7 => ?_) (fun c7 => ?_)
      · have h8 := h6.1 c7
        exact h8
      · have h9 := h6.2 (Classical.not_not.mp c7)
        refine WP.clr hP_183 (pc := 70) rfl ?_
        exact h9

set_option maxRecDepth 20000 in
theorem b_m_partOf_17 (X : mm_X) (d : Nat) (f : Nat → Int32) (fl : Nat → Int64) (g : Nat → Nat → Int32) (gl : Nat → Nat → Int64) (hh : Nat → Nat → Option Nat) (v : Nat → Value) (tx : mm_W) (l1 : Int32) (s0 : Int64)  (P : Option Value → mm_W → Prop)
    (h : P (some (.long s0)) (Wd (va_up f 4758 ((f 4758) + (1 : Int32))) fl g gl hh v tx)) :
    WP X (d) 183 (17, [some (.ref 74), some (.int l1), none, none], [.long s0], Wd f fl g gl hh v tx) P := by
  refine WP.run hP_183 8 (c' := (29, [some (.ref 74), some (.int l1), some (.long s0), none], [.long s0], Wd (va_up f 4758 ((f 4758) + (1 : Int32))) fl g gl hh v tx)) rfl ?_
  exact WP.ret hP_183 (r := some (.long s0)) (w' := Wd (va_up f 4758 ((f 4758) + (1 : Int32))) fl g gl hh v tx) rfl h

set_option maxRecDepth 20000 in
theorem b_m_partOf_94 (X : mm_X) (d : Nat) (f : Nat → Int32) (fl : Nat → Int64) (g : Nat → Nat → Int32) (gl : Nat → Nat → Int64) (hh : Nat → Nat → Option Nat) (v : Nat → Value) (tx : mm_W) (l1 : Int32) (l2 : Int32) (l3 : Int32)  (P : Option Value → mm_W → Prop)
    (h : ((l1 = 0) → P (some (.long 0)) (Wd f fl g gl hh v tx)) ∧
    ((¬ l1 = 0) → ((((f 4760) = 0) → (((¬ l2 = 50) → ((((f 4761) = 0) → ((¬ ((l2 - (8 : Int32)) < 0 ∨ 8 ≤ (l2 - (8 : Int32)).toNatClampNeg)) ∧ P (some (.long ((((g 86) (l2 - (8 : Int32)).toNatClampNeg) : Int32).toInt64))) (Wd f fl g gl hh v tx))) ∧
          ((¬ (f 4761) = 0) → WP X (d) 184 (0, [some (.ref 74), some (.int l2), some (.int l3)], [], Wd f fl g gl hh v tx) (fun rv w2 => WP X (d + 1) 183 (143, [some (.ref 74), none, some (.int l2), some (.int l3)], rv.toList ++ [], w2) P)))) ∧
        ((l2 = 50) → ((¬ ((((2867 : Int32) + (f 4758)) - (1 : Int32)) < 0 ∨ 5667 ≤ (((2867 : Int32) + (f 4758)) - (1 : Int32)).toNatClampNeg)) ∧ P (some (.long ((((g 76) (((2867 : Int32) + (f 4758)) - (1 : Int32)).toNatClampNeg) : Int32).toInt64))) (Wd f fl g gl hh v tx))))) ∧
      ((¬ (f 4760) = 0) → P (some (.long 0)) (Wd f fl g gl hh v tx))))) :
    WP X (d + 1) 183 (94, [some (.ref 74), some (.int l1), some (.int l2), some (.int l3)], [], Wd f fl g gl hh v tx) P := by
  refine WP.run hP_183 1 (c' := (95, [some (.ref 74), some (.int l1), some (.int l2), some (.int l3)], [.int l1], Wd f fl g gl hh v tx)) rfl ?_
  refine WP.br hP_183 (q := l1 = 0) (t := 105) (f := 98) (L := [some (.ref 74), some (.int l1), some (.int l2), some (.int l3)]) (st := []) (w := Wd f fl g gl hh v tx) rfl (fun c1 => ?_) (fun c1 => ?_)
  · have h2 := h.1 c1
    refine WP.run hP_183 1 (c' := (106, [none, none, none, none], [.long 0], Wd f fl g gl hh v tx)) rfl ?_
    exact WP.ret hP_183 (r := some (.long 0)) (w' := Wd f fl g gl hh v tx) rfl h2
  · have h3 := h.2 c1
    refine WP.run hP_183 2 (c' := (102, [some (.ref 74), some (.int l1), some (.int l2), some (.int l3)], [.int (f 4760)], Wd f fl g gl hh v tx)) rfl ?_
    refine WP.br hP_183 (q := (f 4760) = 0) (t := 107) (f := 105) (L := [some (.ref 74), some (.int l1), some (.int l2), some (.int l3)]) (st := []) (w := Wd f fl g gl hh v tx) rfl (fun c4 => ?_) (fun c4 => ?_)
    · have h5 := h3.1 c4
      refine WP.run hP_183 2 (c' := (110, [some (.ref 74), none, some (.int l2), some (.int l3)], [.int 50, .int l2], Wd f fl g gl hh v tx)) rfl ?_
      refine WP.br hP_183 (q := ¬ l2 = 50) (t := 130) (f := 113) (L := [some (.ref 74), none, some (.int l2), some (.int l3)]) (st := []) (w := Wd f fl g gl hh v tx) rfl (fun c6 => ?_) (fun c6 => ?_)
      · have h7 := h5.1 c6
        refine WP.run hP_183 2 (c' := (134, [some (.ref 74), none, some (.int l2), some (.int l3)], [.int (f 4761)], Wd f fl g gl hh v tx)) rfl ?_
        refine WP.br hP_183 (q := (f 4761) = 0) (t := 147) (f := 137) (L := [some (.ref 74), none, some (.int l2), some (.int l3)]) (st := []) (w := Wd f fl g gl hh v tx) rfl (fun c8 => ?_) (fun c8 => ?_)
        · have h9 := h7.1 c8
          refine WP.run hP_183 5 (c' := (155, [some (.ref 74), none, some (.int l2), none], [.int (l2 - (8 : Int32)), .ref 86], Wd f fl g gl hh v tx)) rfl ?_
          refine WP.of (fun _ _ => Ex.iald hP_183 rfl (Wa_86 _ _ _ _ _ _ _) h9.1) ?_
          have h10 := h9.2
          refine WP.run hP_183 1 (c' := (157, [some (.ref 74), none, some (.int l2), none], [.long ((((g 86) (l2 - (8 : Int32)).toNatClampNeg) : Int32).toInt64)], Wd f fl g gl hh v tx)) rfl ?_
          exact WP.ret hP_183 (r := some (.long ((((g 86) (l2 - (8 : Int32)).toNatClampNeg) : Int32).toInt64))) (w' := Wd f fl g gl hh v tx) rfl h10
        · have h11 := h7.2 c8
          refine WP.run hP_183 3 (c' := (140, [some (.ref 74), none, some (.int l2), some (.int l3)], [.int l3, .int l2, .ref 74], Wd f fl g gl hh v tx)) rfl ?_
          refine WP.call hP_183 hP_184 (as := [.ref 74, .int l2, .int l3]) (pc' := 143) (L' := [some (.ref 74), none, some (.int l2), some (.int l3)]) (st' := []) (w1 := Wd f fl g gl hh v tx) rfl ⟨Nat.le_of_ble_eq_true rfl, Nat.le_of_ble_eq_true rfl⟩ rfl ?_
          exact h11
      · have h12 := h5.2 (Classical.not_not.mp c6)
        refine WP.run hP_183 8 (c' := (127, [some (.ref 74), none, some (.int l2), some (.int l3)], [.int (((2867 : Int32) + (f 4758)) - (1 : Int32)), .ref 76], Wd f fl g gl hh v tx)) rfl ?_
        refine WP.of (fun _ _ => Ex.iald hP_183 rfl (Wa_76 _ _ _ _ _ _ _) h12.1) ?_
        have h13 := h12.2
        refine WP.run hP_183 1 (c' := (129, [some (.ref 74), none, some (.int l2), some (.int l3)], [.long ((((g 76) (((2867 : Int32) + (f 4758)) - (1 : Int32)).toNatClampNeg) : Int32).toInt64)], Wd f fl g gl hh v tx)) rfl ?_
        exact WP.ret hP_183 (r := some (.long ((((g 76) (((2867 : Int32) + (f 4758)) - (1 : Int32)).toNatClampNeg) : Int32).toInt64))) (w' := Wd f fl g gl hh v tx) rfl h13
    · have h14 := h3.2 c4
      refine WP.run hP_183 1 (c' := (106, [none, none, none, none], [.long 0], Wd f fl g gl hh v tx)) rfl ?_
      exact WP.ret hP_183 (r := some (.long 0)) (w' := Wd f fl g gl hh v tx) rfl h14

set_option maxRecDepth 20000 in
theorem b_m_partOf_70 (X : mm_X) (d : Nat) (f : Nat → Int32) (fl : Nat → Int64) (g : Nat → Nat → Int32) (gl : Nat → Nat → Int64) (hh : Nat → Nat → Option Nat) (v : Nat → Value) (tx : mm_W) (l1 : Int32) (l2 : Int32)  (P : Option Value → mm_W → Prop)
    (h : (¬ (((2867 : Int32) + (f 4758)) < 0 ∨ 5667 ≤ ((2867 : Int32) + (f 4758)).toNatClampNeg)) ∧ WP X (d) 183 (94, [some (.ref 74), some (.int l1), some (.int l2), some (.int ((g 76) ((2867 : Int32) + (f 4758)).toNatClampNeg))], [], Wd (va_up f 4758 ((f 4758) + (1 : Int32))) fl g gl hh v tx) P) :
    WP X (d) 183 (70, [some (.ref 74), some (.int l1), some (.int l2), none], [], Wd f fl g gl hh v tx) P := by
  refine WP.run hP_183 6 (c' := (82, [some (.ref 74), some (.int l1), some (.int l2), none], [.int ((2867 : Int32) + (f 4758)), .ref 76], Wd f fl g gl hh v tx)) rfl ?_
  refine WP.of (fun _ _ => Ex.iald hP_183 rfl (Wa_76 _ _ _ _ _ _ _) h.1) ?_
  have h1 := h.2
  refine WP.run hP_183 7 (c' := (94, [some (.ref 74), some (.int l1), some (.int l2), some (.int ((g 76) ((2867 : Int32) + (f 4758)).toNatClampNeg))], [], Wd (va_up f 4758 ((f 4758) + (1 : Int32))) fl g gl hh v tx)) rfl ?_
  exact h1

set_option maxRecDepth 20000 in
theorem b_m_partOf_143 (X : mm_X) (d : Nat) (f : Nat → Int32) (fl : Nat → Int64) (g : Nat → Nat → Int32) (gl : Nat → Nat → Int64) (hh : Nat → Nat → Option Nat) (v : Nat → Value) (tx : mm_W) (l2 : Int32) (l3 : Int32) (s0 : Int32)  (P : Option Value → mm_W → Prop)
    (h : P (some (.long ((s0 : Int32).toInt64))) (Wd f fl g gl hh v tx)) :
    WP X (d) 183 (143, [some (.ref 74), none, some (.int l2), some (.int l3)], [.int s0], Wd f fl g gl hh v tx) P := by
  refine WP.run hP_183 2 (c' := (157, [some (.ref 74), none, some (.int l2), some (.int l3)], [.long ((s0 : Int32).toInt64)], Wd f fl g gl hh v tx)) rfl ?_
  exact WP.ret hP_183 (r := some (.long ((s0 : Int32).toInt64))) (w' := Wd f fl g gl hh v tx) rfl h

set_option maxRecDepth 20000 in
theorem b_m_bounded_0 (X : mm_X) (d : Nat) (f : Nat → Int32) (fl : Nat → Int64) (g : Nat → Nat → Int32) (gl : Nat → Nat → Int64) (hh : Nat → Nat → Option Nat) (v : Nat → Value) (tx : mm_W) (p0 : Int64) (p1 : Int32)  (P : Option Value → mm_W → Prop)
    (h : ((p1 = 0) → ((((f 4760) = 0) → P (some (.long p0)) (Wd f fl g gl hh v tx)) ∧
      ((¬ (f 4760) = 0) → P (some (.long 0)) (Wd f fl g gl hh v tx)))) ∧
    ((¬ p1 = 0) → (((0 < (lg_cmp p0 1000000000)) → P (some (.long 0)) (Wd (va_up f 4760 1) fl g gl hh v tx)) ∧
      ((¬ (0 < (lg_cmp p0 1000000000))) → (((0 ≤ (lg_cmp p0 (-1000000000))) → ((((f 4760) = 0) → P (some (.long p0)) (Wd f fl g gl hh v tx)) ∧
          ((¬ (f 4760) = 0) → P (some (.long 0)) (Wd f fl g gl hh v tx)))) ∧
        ((¬ (0 ≤ (lg_cmp p0 (-1000000000)))) → P (some (.long 0)) (Wd (va_up f 4760 1) fl g gl hh v tx))))))) :
    WP X (d) 180 (0, [some (.ref 74), some (.long p0), none, some (.int p1)], [], Wd f fl g gl hh v tx) P := by
  refine WP.run hP_180 1 (c' := (1, [some (.ref 74), some (.long p0), none, some (.int p1)], [.int p1], Wd f fl g gl hh v tx)) rfl ?_
  refine WP.br hP_180 (q := p1 = 0) (t := 25) (f := 4) (L := [some (.ref 74), some (.long p0), none, some (.int p1)]) (st := []) (w := Wd f fl g gl hh v tx) rfl (fun c1 => ?_) (fun c1 => ?_)
  · have h2 := h.1 c1
    refine WP.run hP_180 2 (c' := (29, [some (.ref 74), some (.long p0), none, none], [.int (f 4760)], Wd f fl g gl hh v tx)) rfl ?_
    refine WP.br hP_180 (q := (f 4760) = 0) (t := 36) (f := 32) (L := [some (.ref 74), some (.long p0), none, none]) (st := []) (w := Wd f fl g gl hh v tx) rfl (fun c3 => ?_) (fun c3 => ?_)
    · have h4 := h2.1 c3
      refine WP.run hP_180 1 (c' := (37, [none, some (.long p0), none, none], [.long p0], Wd f fl g gl hh v tx)) rfl ?_
      exact WP.ret hP_180 (r := some (.long p0)) (w' := Wd f fl g gl hh v tx) rfl h4
    · have h5 := h2.2 c3
      refine WP.run hP_180 2 (c' := (37, [some (.ref 74), some (.long p0), none, none], [.long 0], Wd f fl g gl hh v tx)) rfl ?_
      exact WP.ret hP_180 (r := some (.long 0)) (w' := Wd f fl g gl hh v tx) rfl h5
  · have h6 := h.2 c1
    refine WP.run hP_180 3 (c' := (9, [some (.ref 74), some (.long p0), none, some (.int p1)], [.int (lg_cmp p0 1000000000)], Wd f fl g gl hh v tx)) rfl ?_
    refine WP.br hP_180 (q := 0 < (lg_cmp p0 1000000000)) (t := 20) (f := 12) (L := [some (.ref 74), some (.long p0), none, some (.int p1)]) (st := []) (w := Wd f fl g gl hh v tx) rfl (fun c7 => ?_) (fun c7 => ?_)
    · have h8 := h6.1 c7
      refine WP.run hP_180 3 (c' := (25, [some (.ref 74), some (.long p0), none, none], [], Wd (va_up f 4760 1) fl g gl hh v tx)) rfl ?_
      refine WP.run hP_180 5 (c' := (37, [some (.ref 74), some (.long p0), none, none], [.long 0], Wd (va_up f 4760 1) fl g gl hh v tx)) rfl ?_
      exact WP.ret hP_180 (r := some (.long 0)) (w' := Wd (va_up f 4760 1) fl g gl hh v tx) rfl h8
    · have h9 := h6.2 c7
      refine WP.run hP_180 3 (c' := (17, [some (.ref 74), some (.long p0), none, some (.int p1)], [.int (lg_cmp p0 (-1000000000))], Wd f fl g gl hh v tx)) rfl ?_
      refine WP.br hP_180 (q := 0 ≤ (lg_cmp p0 (-1000000000))) (t := 25) (f := 20) (L := [some (.ref 74), some (.long p0), none, some (.int p1)]) (st := []) (w := Wd f fl g gl hh v tx) rfl (fun c10 => ?_) (fun c10 => ?_)
      · have h11 := h9.1 c10
        refine WP.run hP_180 2 (c' := (29, [some (.ref 74), some (.long p0), none, none], [.int (f 4760)], Wd f fl g gl hh v tx)) rfl ?_
        refine WP.br hP_180 (q := (f 4760) = 0) (t := 36) (f := 32) (L := [some (.ref 74), some (.long p0), none, none]) (st := []) (w := Wd f fl g gl hh v tx) rfl (fun c12 => ?_) (fun c12 => ?_)
        · have h13 := h11.1 c12
          refine WP.run hP_180 1 (c' := (37, [none, some (.long p0), none, none], [.long p0], Wd f fl g gl hh v tx)) rfl ?_
          exact WP.ret hP_180 (r := some (.long p0)) (w' := Wd f fl g gl hh v tx) rfl h13
        · have h14 := h11.2 c12
          refine WP.run hP_180 2 (c' := (37, [some (.ref 74), some (.long p0), none, none], [.long 0], Wd f fl g gl hh v tx)) rfl ?_
          exact WP.ret hP_180 (r := some (.long 0)) (w' := Wd f fl g gl hh v tx) rfl h14
      · have h15 := h9.2 c10
        refine WP.run hP_180 3 (c' := (25, [some (.ref 74), some (.long p0), none, none], [], Wd (va_up f 4760 1) fl g gl hh v tx)) rfl ?_
        refine WP.run hP_180 5 (c' := (37, [some (.ref 74), some (.long p0), none, none], [.long 0], Wd (va_up f 4760 1) fl g gl hh v tx)) rfl ?_
        exact WP.ret hP_180 (r := some (.long 0)) (w' := Wd (va_up f 4760 1) fl g gl hh v tx) rfl h15

set_option maxRecDepth 20000 in
theorem b_m_termOf_0 (X : mm_X) (d : Nat) (f : Nat → Int32) (fl : Nat → Int64) (g : Nat → Nat → Int32) (gl : Nat → Nat → Int64) (hh : Nat → Nat → Option Nat) (v : Nat → Value) (tx : mm_W) (p0 : Int32)  (P : Option Value → mm_W → Prop)
    (h : WP X (d) 183 (0, [some (.ref 74), some (.int p0), none, none], [], Wd f fl g gl hh v tx) (fun rv w2 => WP X (d + 1) 182 (5, [some (.ref 74), some (.int p0), none, none, none, none, none], rv.toList ++ [], w2) P)) :
    WP X (d + 1) 182 (0, [some (.ref 74), some (.int p0), none, none, none, none, none], [], Wd f fl g gl hh v tx) P := by
  refine WP.run hP_182 2 (c' := (2, [some (.ref 74), some (.int p0), none, none, none, none, none], [.int p0, .ref 74], Wd f fl g gl hh v tx)) rfl ?_
  refine WP.call hP_182 hP_183 (as := [.ref 74, .int p0]) (pc' := 5) (L' := [some (.ref 74), some (.int p0), none, none, none, none, none]) (st' := []) (w1 := Wd f fl g gl hh v tx) rfl ⟨Nat.le_of_ble_eq_true rfl, Nat.le_of_ble_eq_true rfl⟩ rfl ?_
  exact h

set_option maxRecDepth 20000 in
theorem b_m_termOf_5 (X : mm_X) (d : Nat) (f : Nat → Int32) (fl : Nat → Int64) (g : Nat → Nat → Int32) (gl : Nat → Nat → Int64) (hh : Nat → Nat → Option Nat) (v : Nat → Value) (tx : mm_W) (l1 : Int32) (s0 : Int64)  (P : Option Value → mm_W → Prop)
    (h : WP X (d) 182 (6, [some (.ref 74), some (.int l1), some (.long s0), none, none, none, none], [], Wd f fl g gl hh v tx) P) :
    WP X (d) 182 (5, [some (.ref 74), some (.int l1), none, none, none, none, none], [.long s0], Wd f fl g gl hh v tx) P := by
  refine WP.run hP_182 1 (c' := (6, [some (.ref 74), some (.int l1), some (.long s0), none, none, none, none], [], Wd f fl g gl hh v tx)) rfl ?_
  exact h

set_option maxRecDepth 20000 in
theorem b_m_termOf_6 (X : mm_X) (d : Nat) (f : Nat → Int32) (fl : Nat → Int64) (g : Nat → Nat → Int32) (gl : Nat → Nat → Int64) (hh : Nat → Nat → Option Nat) (v : Nat → Value) (tx : mm_W) (l1 : Int32) (l2 : Int64)  (P : Option Value → mm_W → Prop)
    (h : WP X (d) 178 (0, [some (.ref 74), some (.int (f 4758))], [], Wd f fl g gl hh v tx) (fun rv w2 => WP X (d + 1) 182 (14, [some (.ref 74), some (.int l1), some (.long l2), none, none, none, none], rv.toList ++ [], w2) P)) :
    WP X (d + 1) 182 (6, [some (.ref 74), some (.int l1), some (.long l2), none, none, none, none], [], Wd f fl g gl hh v tx) P := by
  refine WP.run hP_182 3 (c' := (11, [some (.ref 74), some (.int l1), some (.long l2), none, none, none, none], [.int (f 4758), .ref 74], Wd f fl g gl hh v tx)) rfl ?_
  refine WP.call hP_182 hP_178 (as := [.ref 74, .int (f 4758)]) (pc' := 14) (L' := [some (.ref 74), some (.int l1), some (.long l2), none, none, none, none]) (st' := []) (w1 := Wd f fl g gl hh v tx) rfl ⟨Nat.le_of_ble_eq_true rfl, Nat.le_of_ble_eq_true rfl⟩ rfl ?_
  exact h

set_option maxRecDepth 20000 in
theorem b_m_termOf_14 (X : mm_X) (d : Nat) (f : Nat → Int32) (fl : Nat → Int64) (g : Nat → Nat → Int32) (gl : Nat → Nat → Int64) (hh : Nat → Nat → Option Nat) (v : Nat → Value) (tx : mm_W) (l1 : Int32) (l2 : Int64) (s0 : Int32)  (P : Option Value → mm_W → Prop)
    (h : ((s0 = 142) → WP X (d + 1) 182 (54, [some (.ref 74), some (.int l1), some (.long l2), none, none, none, none], [], Wd f fl g gl hh v tx) P) ∧
    ((¬ s0 = 142) → WP X (d) 178 (0, [some (.ref 74), some (.int (f 4758))], [], Wd f fl g gl hh v tx) (fun rv w2 => WP X (d + 1) 182 (30, [some (.ref 74), some (.int l1), some (.long l2), none, none, none, none], rv.toList ++ [], w2) P))) :
    WP X (d + 1) 182 (14, [some (.ref 74), some (.int l1), some (.long l2), none, none, none, none], [.int s0], Wd f fl g gl hh v tx) P := by
  refine WP.run hP_182 1 (c' := (16, [some (.ref 74), some (.int l1), some (.long l2), none, none, none, none], [.int 42, .int s0], Wd f fl g gl hh v tx)) rfl ?_
  refine WP.call hP_182 hP_160 (as := [.int 42]) (pc' := 19) (L' := [some (.ref 74), some (.int l1), some (.long l2), none, none, none, none]) (st' := [.int s0]) (w1 := Wd f fl g gl hh v tx) rfl ⟨Nat.le_of_ble_eq_true rfl, Nat.le_of_ble_eq_true rfl⟩ rfl (b_m_glyph_0 X (d) f fl g gl hh v tx 42 _ ?_)
  refine WP.br hP_182 (q := s0 = 142) (t := 54) (f := 22) (L := [some (.ref 74), some (.int l1), some (.long l2), none, none, none, none]) (st := []) (w := Wd f fl g gl hh v tx) rfl (fun c1 => ?_) (fun c1 => ?_)
  · have h2 := h.1 c1
    exact h2
  · have h3 := h.2 c1
    refine WP.run hP_182 3 (c' := (27, [some (.ref 74), some (.int l1), some (.long l2), none, none, none, none], [.int (f 4758), .ref 74], Wd f fl g gl hh v tx)) rfl ?_
    refine WP.call hP_182 hP_178 (as := [.ref 74, .int (f 4758)]) (pc' := 30) (L' := [some (.ref 74), some (.int l1), some (.long l2), none, none, none, none]) (st' := []) (w1 := Wd f fl g gl hh v tx) rfl ⟨Nat.le_of_ble_eq_true rfl, Nat.le_of_ble_eq_true rfl⟩ rfl ?_
    exact h3

set_option maxRecDepth 20000 in
theorem b_m_termOf_54 (X : mm_X) (d : Nat) (f : Nat → Int32) (fl : Nat → Int64) (g : Nat → Nat → Int32) (gl : Nat → Nat → Int64) (hh : Nat → Nat → Option Nat) (v : Nat → Value) (tx : mm_W) (l1 : Int32) (l2 : Int64)  (P : Option Value → mm_W → Prop)
    (h : WP X (d) 178 (0, [some (.ref 74), some (.int (f 4758))], [], Wd f fl g gl hh v tx) (fun rv w2 => WP X (d + 1) 182 (62, [some (.ref 74), some (.int l1), some (.long l2), none, none, none, none], rv.toList ++ [], w2) P)) :
    WP X (d + 1) 182 (54, [some (.ref 74), some (.int l1), some (.long l2), none, none, none, none], [], Wd f fl g gl hh v tx) P := by
  refine WP.run hP_182 3 (c' := (59, [some (.ref 74), some (.int l1), some (.long l2), none, none, none, none], [.int (f 4758), .ref 74], Wd f fl g gl hh v tx)) rfl ?_
  refine WP.call hP_182 hP_178 (as := [.ref 74, .int (f 4758)]) (pc' := 62) (L' := [some (.ref 74), some (.int l1), some (.long l2), none, none, none, none]) (st' := []) (w1 := Wd f fl g gl hh v tx) rfl ⟨Nat.le_of_ble_eq_true rfl, Nat.le_of_ble_eq_true rfl⟩ rfl ?_
  exact h

set_option maxRecDepth 20000 in
theorem b_m_termOf_30 (X : mm_X) (d : Nat) (f : Nat → Int32) (fl : Nat → Int64) (g : Nat → Nat → Int32) (gl : Nat → Nat → Int64) (hh : Nat → Nat → Option Nat) (v : Nat → Value) (tx : mm_W) (l1 : Int32) (l2 : Int64) (s0 : Int32)  (P : Option Value → mm_W → Prop)
    (h : ((s0 = 147) → WP X (d + 1) 182 (54, [some (.ref 74), some (.int l1), some (.long l2), none, none, none, none], [], Wd f fl g gl hh v tx) P) ∧
    ((¬ s0 = 147) → WP X (d) 178 (0, [some (.ref 74), some (.int (f 4758))], [], Wd f fl g gl hh v tx) (fun rv w2 => WP X (d + 1) 182 (46, [some (.ref 74), some (.int l1), some (.long l2), none, none, none, none], rv.toList ++ [], w2) P))) :
    WP X (d + 1) 182 (30, [some (.ref 74), some (.int l1), some (.long l2), none, none, none, none], [.int s0], Wd f fl g gl hh v tx) P := by
  refine WP.run hP_182 1 (c' := (32, [some (.ref 74), some (.int l1), some (.long l2), none, none, none, none], [.int 47, .int s0], Wd f fl g gl hh v tx)) rfl ?_
  refine WP.call hP_182 hP_160 (as := [.int 47]) (pc' := 35) (L' := [some (.ref 74), some (.int l1), some (.long l2), none, none, none, none]) (st' := [.int s0]) (w1 := Wd f fl g gl hh v tx) rfl ⟨Nat.le_of_ble_eq_true rfl, Nat.le_of_ble_eq_true rfl⟩ rfl (b_m_glyph_0 X (d) f fl g gl hh v tx 47 _ ?_)
  refine WP.br hP_182 (q := s0 = 147) (t := 54) (f := 38) (L := [some (.ref 74), some (.int l1), some (.long l2), none, none, none, none]) (st := []) (w := Wd f fl g gl hh v tx) rfl (fun c1 => ?_) (fun c1 => ?_)
  · have h2 := h.1 c1
    exact h2
  · have h3 := h.2 c1
    refine WP.run hP_182 3 (c' := (43, [some (.ref 74), some (.int l1), some (.long l2), none, none, none, none], [.int (f 4758), .ref 74], Wd f fl g gl hh v tx)) rfl ?_
    refine WP.call hP_182 hP_178 (as := [.ref 74, .int (f 4758)]) (pc' := 46) (L' := [some (.ref 74), some (.int l1), some (.long l2), none, none, none, none]) (st' := []) (w1 := Wd f fl g gl hh v tx) rfl ⟨Nat.le_of_ble_eq_true rfl, Nat.le_of_ble_eq_true rfl⟩ rfl ?_
    exact h3

set_option maxRecDepth 20000 in
theorem b_m_termOf_62 (X : mm_X) (d : Nat) (f : Nat → Int32) (fl : Nat → Int64) (g : Nat → Nat → Int32) (gl : Nat → Nat → Int64) (hh : Nat → Nat → Option Nat) (v : Nat → Value) (tx : mm_W) (l1 : Int32) (l2 : Int64) (s0 : Int32)  (P : Option Value → mm_W → Prop)
    (h : WP X (d) 183 (0, [some (.ref 74), some (.int l1), none, none], [], Wd (va_up f 4758 ((f 4758) + (1 : Int32))) fl g gl hh v tx) (fun rv w2 => WP X (d + 1) 182 (79, [some (.ref 74), some (.int l1), some (.long l2), none, some (.int s0), none, none], rv.toList ++ [], w2) P)) :
    WP X (d + 1) 182 (62, [some (.ref 74), some (.int l1), some (.long l2), none, none, none, none], [.int s0], Wd f fl g gl hh v tx) P := by
  refine WP.run hP_182 9 (c' := (76, [some (.ref 74), some (.int l1), some (.long l2), none, some (.int s0), none, none], [.int l1, .ref 74], Wd (va_up f 4758 ((f 4758) + (1 : Int32))) fl g gl hh v tx)) rfl ?_
  refine WP.call hP_182 hP_183 (as := [.ref 74, .int l1]) (pc' := 79) (L' := [some (.ref 74), some (.int l1), some (.long l2), none, some (.int s0), none, none]) (st' := []) (w1 := Wd (va_up f 4758 ((f 4758) + (1 : Int32))) fl g gl hh v tx) rfl ⟨Nat.le_of_ble_eq_true rfl, Nat.le_of_ble_eq_true rfl⟩ rfl ?_
  exact h

set_option maxRecDepth 20000 in
theorem b_m_termOf_46 (X : mm_X) (d : Nat) (f : Nat → Int32) (fl : Nat → Int64) (g : Nat → Nat → Int32) (gl : Nat → Nat → Int64) (hh : Nat → Nat → Option Nat) (v : Nat → Value) (tx : mm_W) (l1 : Int32) (l2 : Int64) (s0 : Int32)  (P : Option Value → mm_W → Prop)
    (h : ((¬ s0 = 137) → P (some (.long l2)) (Wd f fl g gl hh v tx)) ∧
    ((s0 = 137) → WP X (d + 1) 182 (54, [some (.ref 74), some (.int l1), some (.long l2), none, none, none, none], [], Wd f fl g gl hh v tx) P)) :
    WP X (d + 1) 182 (46, [some (.ref 74), some (.int l1), some (.long l2), none, none, none, none], [.int s0], Wd f fl g gl hh v tx) P := by
  refine WP.run hP_182 1 (c' := (48, [some (.ref 74), some (.int l1), some (.long l2), none, none, none, none], [.int 37, .int s0], Wd f fl g gl hh v tx)) rfl ?_
  refine WP.call hP_182 hP_160 (as := [.int 37]) (pc' := 51) (L' := [some (.ref 74), some (.int l1), some (.long l2), none, none, none, none]) (st' := [.int s0]) (w1 := Wd f fl g gl hh v tx) rfl ⟨Nat.le_of_ble_eq_true rfl, Nat.le_of_ble_eq_true rfl⟩ rfl (b_m_glyph_0 X (d) f fl g gl hh v tx 37 _ ?_)
  refine WP.br hP_182 (q := ¬ s0 = 137) (t := 168) (f := 54) (L := [some (.ref 74), some (.int l1), some (.long l2), none, none, none, none]) (st := []) (w := Wd f fl g gl hh v tx) rfl (fun c1 => ?_) (fun c1 => ?_)
  · have h2 := h.1 c1
    refine WP.run hP_182 1 (c' := (169, [none, none, some (.long l2), none, none, none, none], [.long l2], Wd f fl g gl hh v tx)) rfl ?_
    exact WP.ret hP_182 (r := some (.long l2)) (w' := Wd f fl g gl hh v tx) rfl h2
  · have h3 := h.2 (Classical.not_not.mp c1)
    exact h3

set_option maxRecDepth 20000 in
theorem b_m_termOf_79 (X : mm_X) (d : Nat) (f : Nat → Int32) (fl : Nat → Int64) (g : Nat → Nat → Int32) (gl : Nat → Nat → Int64) (hh : Nat → Nat → Option Nat) (v : Nat → Value) (tx : mm_W) (l1 : Int32) (l2 : Int64) (l4 : Int32) (s0 : Int64)  (P : Option Value → mm_W → Prop)
    (h : ((l4 = 142) → WP X (d + 1) 182 (121, [some (.ref 74), some (.int l1), some (.long l2), none, some (.int l4), some (.long s0), none], [], Wd f fl g gl hh v tx) P) ∧
    ((¬ l4 = 142) → (((¬ (lg_cmp s0 0) = 0) → WP X (d + 1) 182 (121, [some (.ref 74), some (.int l1), some (.long l2), none, some (.int l4), some (.long s0), none], [], Wd f fl g gl hh v tx) P) ∧
      (((lg_cmp s0 0) = 0) → (((¬ (f 4760) = 0) → WP X (d + 1) 182 (110, [some (.ref 74), some (.int l1), some (.long l2), none, some (.int l4), none, none], [.ref 74], Wd f fl g gl hh v tx) P) ∧
        (((f 4760) = 0) → (((l1 = 0) → WP X (d + 1) 182 (115, [some (.ref 74), some (.int l1), some (.long l2), none, some (.int l4), none, none], [.int 0, .ref 74], Wd f fl g gl hh v tx) P) ∧
          ((¬ l1 = 0) → WP X (d + 1) 182 (110, [some (.ref 74), some (.int l1), some (.long l2), none, some (.int l4), none, none], [.ref 74], Wd f fl g gl hh v tx) P)))))))) :
    WP X (d + 1) 182 (79, [some (.ref 74), some (.int l1), some (.long l2), none, some (.int l4), none, none], [.long s0], Wd f fl g gl hh v tx) P := by
  refine WP.run hP_182 3 (c' := (85, [some (.ref 74), some (.int l1), some (.long l2), none, some (.int l4), some (.long s0), none], [.int 42, .int l4], Wd f fl g gl hh v tx)) rfl ?_
  refine WP.call hP_182 hP_160 (as := [.int 42]) (pc' := 88) (L' := [some (.ref 74), some (.int l1), some (.long l2), none, some (.int l4), some (.long s0), none]) (st' := [.int l4]) (w1 := Wd f fl g gl hh v tx) rfl ⟨Nat.le_of_ble_eq_true rfl, Nat.le_of_ble_eq_true rfl⟩ rfl (b_m_glyph_0 X (d) f fl g gl hh v tx 42 _ ?_)
  refine WP.br hP_182 (q := l4 = 142) (t := 121) (f := 91) (L := [some (.ref 74), some (.int l1), some (.long l2), none, some (.int l4), some (.long s0), none]) (st := []) (w := Wd f fl g gl hh v tx) rfl (fun c1 => ?_) (fun c1 => ?_)
  · have h2 := h.1 c1
    exact h2
  · have h3 := h.2 c1
    refine WP.run hP_182 3 (c' := (95, [some (.ref 74), some (.int l1), some (.long l2), none, some (.int l4), some (.long s0), none], [.int (lg_cmp s0 0)], Wd f fl g gl hh v tx)) rfl ?_
    refine WP.br hP_182 (q := ¬ (lg_cmp s0 0) = 0) (t := 121) (f := 98) (L := [some (.ref 74), some (.int l1), some (.long l2), none, some (.int l4), some (.long s0), none]) (st := []) (w := Wd f fl g gl hh v tx) rfl (fun c4 => ?_) (fun c4 => ?_)
    · have h5 := h3.1 c4
      exact h5
    · have h6 := h3.2 (Classical.not_not.mp c4)
      refine WP.run hP_182 3 (c' := (103, [some (.ref 74), some (.int l1), some (.long l2), none, some (.int l4), some (.long s0), none], [.int (f 4760), .ref 74], Wd f fl g gl hh v tx)) rfl ?_
      refine WP.br hP_182 (q := ¬ (f 4760) = 0) (t := 110) (f := 106) (L := [some (.ref 74), some (.int l1), some (.long l2), none, some (.int l4), some (.long s0), none]) (st := [.ref 74]) (w := Wd f fl g gl hh v tx) rfl (fun c7 => ?_) (fun c7 => ?_)
      · have h8 := h6.1 c7
        refine WP.clr hP_182 (pc := 110) rfl ?_
        exact h8
      · have h9 := h6.2 (Classical.not_not.mp c7)
        refine WP.run hP_182 1 (c' := (107, [some (.ref 74), some (.int l1), some (.long l2), none, some (.int l4), some (.long s0), none], [.int l1, .ref 74], Wd f fl g gl hh v tx)) rfl ?_
        refine WP.br hP_182 (q := l1 = 0) (t := 114) (f := 110) (L := [some (.ref 74), some (.int l1), some (.long l2), none, some (.int l4), some (.long s0), none]) (st := [.ref 74]) (w := Wd f fl g gl hh v tx) rfl (fun c10 => ?_) (fun c10 => ?_)
        · have h11 := h9.1 c10
          refine WP.run hP_182 1 (c' := (115, [some (.ref 74), some (.int l1), some (.long l2), none, some (.int l4), none, none], [.int 0, .ref 74], Wd f fl g gl hh v tx)) rfl ?_
          exact h11
        · have h12 := h9.2 c10
          refine WP.clr hP_182 (pc := 110) rfl ?_
          exact h12

set_option maxRecDepth 20000 in
theorem b_m_termOf_121 (X : mm_X) (d : Nat) (f : Nat → Int32) (fl : Nat → Int64) (g : Nat → Nat → Int32) (gl : Nat → Nat → Int64) (hh : Nat → Nat → Option Nat) (v : Nat → Value) (tx : mm_W) (l1 : Int32) (l2 : Int64) (l4 : Int32) (l5 : Int64)  (P : Option Value → mm_W → Prop)
    (h : ((¬ l4 = 142) → (((¬ l4 = 147) → ((¬ l5 = 0) ∧ WP X (d) 180 (0, [some (.ref 74), some (.long (l2 - (l2 / l5) * l5)), none, some (.int l1)], [], Wd f fl g gl hh v tx) (fun rv w2 => WP X (d + 1) 182 (164, [some (.ref 74), some (.int l1), none, none, none, none, none], rv.toList ++ [], w2) P))) ∧
      ((l4 = 147) → ((¬ l5 = 0) ∧ WP X (d) 180 (0, [some (.ref 74), some (.long (l2 / l5)), none, some (.int l1)], [], Wd f fl g gl hh v tx) (fun rv w2 => WP X (d + 1) 182 (164, [some (.ref 74), some (.int l1), none, none, none, none, none], rv.toList ++ [], w2) P))))) ∧
    ((l4 = 142) → WP X (d) 180 (0, [some (.ref 74), some (.long (l2 * l5)), none, some (.int l1)], [], Wd f fl g gl hh v tx) (fun rv w2 => WP X (d + 1) 182 (164, [some (.ref 74), some (.int l1), none, none, none, none, none], rv.toList ++ [], w2) P))) :
    WP X (d + 1) 182 (121, [some (.ref 74), some (.int l1), some (.long l2), none, some (.int l4), some (.long l5), none], [], Wd f fl g gl hh v tx) P := by
  refine WP.run hP_182 3 (c' := (126, [some (.ref 74), some (.int l1), some (.long l2), none, some (.int l4), some (.long l5), none], [.int 42, .int l4, .ref 74], Wd f fl g gl hh v tx)) rfl ?_
  refine WP.call hP_182 hP_160 (as := [.int 42]) (pc' := 129) (L' := [some (.ref 74), some (.int l1), some (.long l2), none, some (.int l4), some (.long l5), none]) (st' := [.int l4, .ref 74]) (w1 := Wd f fl g gl hh v tx) rfl ⟨Nat.le_of_ble_eq_true rfl, Nat.le_of_ble_eq_true rfl⟩ rfl (b_m_glyph_0 X (d) f fl g gl hh v tx 42 _ ?_)
  refine WP.br hP_182 (q := ¬ l4 = 142) (t := 139) (f := 132) (L := [some (.ref 74), some (.int l1), some (.long l2), none, some (.int l4), some (.long l5), none]) (st := [.ref 74]) (w := Wd f fl g gl hh v tx) rfl (fun c1 => ?_) (fun c1 => ?_)
  · have h2 := h.1 c1
    refine WP.run hP_182 2 (c' := (143, [some (.ref 74), some (.int l1), some (.long l2), none, some (.int l4), some (.long l5), none], [.int 47, .int l4, .ref 74], Wd f fl g gl hh v tx)) rfl ?_
    refine WP.call hP_182 hP_160 (as := [.int 47]) (pc' := 146) (L' := [some (.ref 74), some (.int l1), some (.long l2), none, some (.int l4), some (.long l5), none]) (st' := [.int l4, .ref 74]) (w1 := Wd f fl g gl hh v tx) rfl ⟨Nat.le_of_ble_eq_true rfl, Nat.le_of_ble_eq_true rfl⟩ rfl (b_m_glyph_0 X (d) f fl g gl hh v tx 47 _ ?_)
    refine WP.br hP_182 (q := ¬ l4 = 147) (t := 156) (f := 149) (L := [some (.ref 74), some (.int l1), some (.long l2), none, some (.int l4), some (.long l5), none]) (st := [.ref 74]) (w := Wd f fl g gl hh v tx) rfl (fun c3 => ?_) (fun c3 => ?_)
    · have h4 := h2.1 c3
      refine WP.run hP_182 2 (c' := (159, [some (.ref 74), some (.int l1), some (.long l2), none, none, some (.long l5), none], [.long l5, .long l2, .ref 74], Wd f fl g gl hh v tx)) rfl ?_
      refine WP.of (fun _ _ => Ex.lrem hP_182 rfl h4.1) ?_
      have h5 := h4.2
      refine WP.run hP_182 1 (c' := (161, [some (.ref 74), some (.int l1), none, none, none, none, none], [.int l1, .long (l2 - (l2 / l5) * l5), .ref 74], Wd f fl g gl hh v tx)) rfl ?_
      refine WP.call hP_182 hP_180 (as := [.ref 74, .long (l2 - (l2 / l5) * l5), .int l1]) (pc' := 164) (L' := [some (.ref 74), some (.int l1), none, none, none, none, none]) (st' := []) (w1 := Wd f fl g gl hh v tx) rfl ⟨Nat.le_of_ble_eq_true rfl, Nat.le_of_ble_eq_true rfl⟩ rfl ?_
      exact h5
    · have h6 := h2.2 (Classical.not_not.mp c3)
      refine WP.run hP_182 2 (c' := (152, [some (.ref 74), some (.int l1), some (.long l2), none, some (.int l4), some (.long l5), none], [.long l5, .long l2, .ref 74], Wd f fl g gl hh v tx)) rfl ?_
      refine WP.of (fun _ _ => Ex.ldiv hP_182 rfl h6.1) ?_
      have h7 := h6.2
      refine WP.run hP_182 2 (c' := (161, [some (.ref 74), some (.int l1), none, none, none, none, none], [.int l1, .long (l2 / l5), .ref 74], Wd f fl g gl hh v tx)) rfl ?_
      refine WP.call hP_182 hP_180 (as := [.ref 74, .long (l2 / l5), .int l1]) (pc' := 164) (L' := [some (.ref 74), some (.int l1), none, none, none, none, none]) (st' := []) (w1 := Wd f fl g gl hh v tx) rfl ⟨Nat.le_of_ble_eq_true rfl, Nat.le_of_ble_eq_true rfl⟩ rfl ?_
      exact h7
  · have h8 := h.2 (Classical.not_not.mp c1)
    refine WP.run hP_182 5 (c' := (161, [some (.ref 74), some (.int l1), none, none, none, none, none], [.int l1, .long (l2 * l5), .ref 74], Wd f fl g gl hh v tx)) rfl ?_
    refine WP.call hP_182 hP_180 (as := [.ref 74, .long (l2 * l5), .int l1]) (pc' := 164) (L' := [some (.ref 74), some (.int l1), none, none, none, none, none]) (st' := []) (w1 := Wd f fl g gl hh v tx) rfl ⟨Nat.le_of_ble_eq_true rfl, Nat.le_of_ble_eq_true rfl⟩ rfl ?_
    exact h8

set_option maxRecDepth 20000 in
theorem b_m_termOf_110 (X : mm_X) (d : Nat) (f : Nat → Int32) (fl : Nat → Int64) (g : Nat → Nat → Int32) (gl : Nat → Nat → Int64) (hh : Nat → Nat → Option Nat) (v : Nat → Value) (tx : mm_W) (l1 : Int32) (l2 : Int64) (l4 : Int32)  (P : Option Value → mm_W → Prop)
    (h : WP X (d) 182 (115, [some (.ref 74), some (.int l1), some (.long l2), none, some (.int l4), none, none], [.int 1, .ref 74], Wd f fl g gl hh v tx) P) :
    WP X (d) 182 (110, [some (.ref 74), some (.int l1), some (.long l2), none, some (.int l4), none, none], [.ref 74], Wd f fl g gl hh v tx) P := by
  refine WP.run hP_182 2 (c' := (115, [some (.ref 74), some (.int l1), some (.long l2), none, some (.int l4), none, none], [.int 1, .ref 74], Wd f fl g gl hh v tx)) rfl ?_
  exact h

set_option maxRecDepth 20000 in
theorem b_m_termOf_115 (X : mm_X) (d : Nat) (f : Nat → Int32) (fl : Nat → Int64) (g : Nat → Nat → Int32) (gl : Nat → Nat → Int64) (hh : Nat → Nat → Option Nat) (v : Nat → Value) (tx : mm_W) (l1 : Int32) (l2 : Int64) (l4 : Int32) (s0 : Int32)  (P : Option Value → mm_W → Prop)
    (h : (s0 = 0 ∨ s0 = 1) ∧ WP X (d) 182 (121, [some (.ref 74), some (.int l1), some (.long l2), none, some (.int l4), some (.long 1), none], [], Wd (va_up f 4760 s0) fl g gl hh v tx) P) :
    WP X (d) 182 (115, [some (.ref 74), some (.int l1), some (.long l2), none, some (.int l4), none, none], [.int s0, .ref 74], Wd f fl g gl hh v tx) P := by
  refine WP.of (fun _ _ => Ex.putZ hP_182 (w2 := Wd (va_up f 4760 s0) fl g gl hh v tx) rfl rfl rfl (Nat.le_of_ble_eq_true rfl) rfl h.1 rfl) ?_
  have h1 := h.2
  refine WP.run hP_182 2 (c' := (121, [some (.ref 74), some (.int l1), some (.long l2), none, some (.int l4), some (.long 1), none], [], Wd (va_up f 4760 s0) fl g gl hh v tx)) rfl ?_
  exact h1

set_option maxRecDepth 20000 in
theorem b_m_termOf_164 (X : mm_X) (d : Nat) (f : Nat → Int32) (fl : Nat → Int64) (g : Nat → Nat → Int32) (gl : Nat → Nat → Int64) (hh : Nat → Nat → Option Nat) (v : Nat → Value) (tx : mm_W) (l1 : Int32) (s0 : Int64)  (P : Option Value → mm_W → Prop)
    (h : WP X (d) 182 (6, [some (.ref 74), some (.int l1), some (.long s0), none, none, none, none], [], Wd f fl g gl hh v tx) P) :
    WP X (d) 182 (164, [some (.ref 74), some (.int l1), none, none, none, none, none], [.long s0], Wd f fl g gl hh v tx) P := by
  refine WP.run hP_182 2 (c' := (6, [some (.ref 74), some (.int l1), some (.long s0), none, none, none, none], [], Wd f fl g gl hh v tx)) rfl ?_
  exact h

set_option maxRecDepth 20000 in
theorem b_m_sumOf_0 (X : mm_X) (d : Nat) (f : Nat → Int32) (fl : Nat → Int64) (g : Nat → Nat → Int32) (gl : Nat → Nat → Int64) (hh : Nat → Nat → Option Nat) (v : Nat → Value) (tx : mm_W) (p0 : Int32)  (P : Option Value → mm_W → Prop)
    (h : WP X (d) 182 (0, [some (.ref 74), some (.int p0), none, none, none, none, none], [], Wd f fl g gl hh v tx) (fun rv w2 => WP X (d + 1) 181 (5, [some (.ref 74), some (.int p0), none, none, none, none, none], rv.toList ++ [], w2) P)) :
    WP X (d + 1) 181 (0, [some (.ref 74), some (.int p0), none, none, none, none, none], [], Wd f fl g gl hh v tx) P := by
  refine WP.run hP_181 2 (c' := (2, [some (.ref 74), some (.int p0), none, none, none, none, none], [.int p0, .ref 74], Wd f fl g gl hh v tx)) rfl ?_
  refine WP.call hP_181 hP_182 (as := [.ref 74, .int p0]) (pc' := 5) (L' := [some (.ref 74), some (.int p0), none, none, none, none, none]) (st' := []) (w1 := Wd f fl g gl hh v tx) rfl ⟨Nat.le_of_ble_eq_true rfl, Nat.le_of_ble_eq_true rfl⟩ rfl ?_
  exact h

set_option maxRecDepth 20000 in
theorem b_m_sumOf_5 (X : mm_X) (d : Nat) (f : Nat → Int32) (fl : Nat → Int64) (g : Nat → Nat → Int32) (gl : Nat → Nat → Int64) (hh : Nat → Nat → Option Nat) (v : Nat → Value) (tx : mm_W) (l1 : Int32) (s0 : Int64)  (P : Option Value → mm_W → Prop)
    (h : WP X (d) 181 (6, [some (.ref 74), some (.int l1), some (.long s0), none, none, none, none], [], Wd f fl g gl hh v tx) P) :
    WP X (d) 181 (5, [some (.ref 74), some (.int l1), none, none, none, none, none], [.long s0], Wd f fl g gl hh v tx) P := by
  refine WP.run hP_181 1 (c' := (6, [some (.ref 74), some (.int l1), some (.long s0), none, none, none, none], [], Wd f fl g gl hh v tx)) rfl ?_
  exact h

set_option maxRecDepth 20000 in
theorem b_m_sumOf_6 (X : mm_X) (d : Nat) (f : Nat → Int32) (fl : Nat → Int64) (g : Nat → Nat → Int32) (gl : Nat → Nat → Int64) (hh : Nat → Nat → Option Nat) (v : Nat → Value) (tx : mm_W) (l1 : Int32) (l2 : Int64)  (P : Option Value → mm_W → Prop)
    (h : WP X (d) 178 (0, [some (.ref 74), some (.int (f 4758))], [], Wd f fl g gl hh v tx) (fun rv w2 => WP X (d + 1) 181 (14, [some (.ref 74), some (.int l1), some (.long l2), none, none, none, none], rv.toList ++ [], w2) P)) :
    WP X (d + 1) 181 (6, [some (.ref 74), some (.int l1), some (.long l2), none, none, none, none], [], Wd f fl g gl hh v tx) P := by
  refine WP.run hP_181 3 (c' := (11, [some (.ref 74), some (.int l1), some (.long l2), none, none, none, none], [.int (f 4758), .ref 74], Wd f fl g gl hh v tx)) rfl ?_
  refine WP.call hP_181 hP_178 (as := [.ref 74, .int (f 4758)]) (pc' := 14) (L' := [some (.ref 74), some (.int l1), some (.long l2), none, none, none, none]) (st' := []) (w1 := Wd f fl g gl hh v tx) rfl ⟨Nat.le_of_ble_eq_true rfl, Nat.le_of_ble_eq_true rfl⟩ rfl ?_
  exact h

set_option maxRecDepth 20000 in
theorem b_m_sumOf_14 (X : mm_X) (d : Nat) (f : Nat → Int32) (fl : Nat → Int64) (g : Nat → Nat → Int32) (gl : Nat → Nat → Int64) (hh : Nat → Nat → Option Nat) (v : Nat → Value) (tx : mm_W) (l1 : Int32) (l2 : Int64) (s0 : Int32)  (P : Option Value → mm_W → Prop)
    (h : ((s0 = 143) → WP X (d) 178 (0, [some (.ref 74), some (.int (f 4758))], [], Wd f fl g gl hh v tx) (fun rv w2 => WP X (d + 1) 181 (46, [some (.ref 74), some (.int l1), some (.long l2), none, none, none, none], rv.toList ++ [], w2) P)) ∧
    ((¬ s0 = 143) → WP X (d) 178 (0, [some (.ref 74), some (.int (f 4758))], [], Wd f fl g gl hh v tx) (fun rv w2 => WP X (d + 1) 181 (30, [some (.ref 74), some (.int l1), some (.long l2), none, none, none, none], rv.toList ++ [], w2) P))) :
    WP X (d + 1) 181 (14, [some (.ref 74), some (.int l1), some (.long l2), none, none, none, none], [.int s0], Wd f fl g gl hh v tx) P := by
  refine WP.run hP_181 1 (c' := (16, [some (.ref 74), some (.int l1), some (.long l2), none, none, none, none], [.int 43, .int s0], Wd f fl g gl hh v tx)) rfl ?_
  refine WP.call hP_181 hP_160 (as := [.int 43]) (pc' := 19) (L' := [some (.ref 74), some (.int l1), some (.long l2), none, none, none, none]) (st' := [.int s0]) (w1 := Wd f fl g gl hh v tx) rfl ⟨Nat.le_of_ble_eq_true rfl, Nat.le_of_ble_eq_true rfl⟩ rfl (b_m_glyph_0 X (d) f fl g gl hh v tx 43 _ ?_)
  refine WP.br hP_181 (q := s0 = 143) (t := 38) (f := 22) (L := [some (.ref 74), some (.int l1), some (.long l2), none, none, none, none]) (st := []) (w := Wd f fl g gl hh v tx) rfl (fun c1 => ?_) (fun c1 => ?_)
  · have h2 := h.1 c1
    refine WP.run hP_181 3 (c' := (43, [some (.ref 74), some (.int l1), some (.long l2), none, none, none, none], [.int (f 4758), .ref 74], Wd f fl g gl hh v tx)) rfl ?_
    refine WP.call hP_181 hP_178 (as := [.ref 74, .int (f 4758)]) (pc' := 46) (L' := [some (.ref 74), some (.int l1), some (.long l2), none, none, none, none]) (st' := []) (w1 := Wd f fl g gl hh v tx) rfl ⟨Nat.le_of_ble_eq_true rfl, Nat.le_of_ble_eq_true rfl⟩ rfl ?_
    exact h2
  · have h3 := h.2 c1
    refine WP.run hP_181 3 (c' := (27, [some (.ref 74), some (.int l1), some (.long l2), none, none, none, none], [.int (f 4758), .ref 74], Wd f fl g gl hh v tx)) rfl ?_
    refine WP.call hP_181 hP_178 (as := [.ref 74, .int (f 4758)]) (pc' := 30) (L' := [some (.ref 74), some (.int l1), some (.long l2), none, none, none, none]) (st' := []) (w1 := Wd f fl g gl hh v tx) rfl ⟨Nat.le_of_ble_eq_true rfl, Nat.le_of_ble_eq_true rfl⟩ rfl ?_
    exact h3

set_option maxRecDepth 20000 in
theorem b_m_sumOf_46 (X : mm_X) (d : Nat) (f : Nat → Int32) (fl : Nat → Int64) (g : Nat → Nat → Int32) (gl : Nat → Nat → Int64) (hh : Nat → Nat → Option Nat) (v : Nat → Value) (tx : mm_W) (l1 : Int32) (l2 : Int64) (s0 : Int32)  (P : Option Value → mm_W → Prop)
    (h : ((¬ s0 = 143) → WP X (d) 182 (0, [some (.ref 74), some (.int l1), none, none, none, none, none], [], Wd (va_up f 4758 ((f 4758) + (1 : Int32))) fl g gl hh v tx) (fun rv w2 => WP X (d + 1) 181 (76, [some (.ref 74), some (.int l1), some (.long l2), none, some (.int 0), none, none], rv.toList ++ [], w2) P)) ∧
    ((s0 = 143) → WP X (d) 182 (0, [some (.ref 74), some (.int l1), none, none, none, none, none], [], Wd (va_up f 4758 ((f 4758) + (1 : Int32))) fl g gl hh v tx) (fun rv w2 => WP X (d + 1) 181 (76, [some (.ref 74), some (.int l1), some (.long l2), none, some (.int 1), none, none], rv.toList ++ [], w2) P))) :
    WP X (d + 1) 181 (46, [some (.ref 74), some (.int l1), some (.long l2), none, none, none, none], [.int s0], Wd f fl g gl hh v tx) P := by
  refine WP.run hP_181 1 (c' := (48, [some (.ref 74), some (.int l1), some (.long l2), none, none, none, none], [.int 43, .int s0], Wd f fl g gl hh v tx)) rfl ?_
  refine WP.call hP_181 hP_160 (as := [.int 43]) (pc' := 51) (L' := [some (.ref 74), some (.int l1), some (.long l2), none, none, none, none]) (st' := [.int s0]) (w1 := Wd f fl g gl hh v tx) rfl ⟨Nat.le_of_ble_eq_true rfl, Nat.le_of_ble_eq_true rfl⟩ rfl (b_m_glyph_0 X (d) f fl g gl hh v tx 43 _ ?_)
  refine WP.br hP_181 (q := ¬ s0 = 143) (t := 58) (f := 54) (L := [some (.ref 74), some (.int l1), some (.long l2), none, none, none, none]) (st := []) (w := Wd f fl g gl hh v tx) rfl (fun c1 => ?_) (fun c1 => ?_)
  · have h2 := h.1 c1
    refine WP.run hP_181 1 (c' := (59, [some (.ref 74), some (.int l1), some (.long l2), none, none, none, none], [.int 0], Wd f fl g gl hh v tx)) rfl ?_
    refine WP.run hP_181 9 (c' := (73, [some (.ref 74), some (.int l1), some (.long l2), none, some (.int 0), none, none], [.int l1, .ref 74], Wd (va_up f 4758 ((f 4758) + (1 : Int32))) fl g gl hh v tx)) rfl ?_
    refine WP.call hP_181 hP_182 (as := [.ref 74, .int l1]) (pc' := 76) (L' := [some (.ref 74), some (.int l1), some (.long l2), none, some (.int 0), none, none]) (st' := []) (w1 := Wd (va_up f 4758 ((f 4758) + (1 : Int32))) fl g gl hh v tx) rfl ⟨Nat.le_of_ble_eq_true rfl, Nat.le_of_ble_eq_true rfl⟩ rfl ?_
    exact h2
  · have h3 := h.2 (Classical.not_not.mp c1)
    refine WP.run hP_181 11 (c' := (73, [some (.ref 74), some (.int l1), some (.long l2), none, some (.int 1), none, none], [.int l1, .ref 74], Wd (va_up f 4758 ((f 4758) + (1 : Int32))) fl g gl hh v tx)) rfl ?_
    refine WP.call hP_181 hP_182 (as := [.ref 74, .int l1]) (pc' := 76) (L' := [some (.ref 74), some (.int l1), some (.long l2), none, some (.int 1), none, none]) (st' := []) (w1 := Wd (va_up f 4758 ((f 4758) + (1 : Int32))) fl g gl hh v tx) rfl ⟨Nat.le_of_ble_eq_true rfl, Nat.le_of_ble_eq_true rfl⟩ rfl ?_
    exact h3

set_option maxRecDepth 20000 in
theorem b_m_sumOf_30 (X : mm_X) (d : Nat) (f : Nat → Int32) (fl : Nat → Int64) (g : Nat → Nat → Int32) (gl : Nat → Nat → Int64) (hh : Nat → Nat → Option Nat) (v : Nat → Value) (tx : mm_W) (l1 : Int32) (l2 : Int64) (s0 : Int32)  (P : Option Value → mm_W → Prop)
    (h : ((¬ s0 = 145) → P (some (.long l2)) (Wd f fl g gl hh v tx)) ∧
    ((s0 = 145) → WP X (d) 178 (0, [some (.ref 74), some (.int (f 4758))], [], Wd f fl g gl hh v tx) (fun rv w2 => WP X (d + 1) 181 (46, [some (.ref 74), some (.int l1), some (.long l2), none, none, none, none], rv.toList ++ [], w2) P))) :
    WP X (d + 1) 181 (30, [some (.ref 74), some (.int l1), some (.long l2), none, none, none, none], [.int s0], Wd f fl g gl hh v tx) P := by
  refine WP.run hP_181 1 (c' := (32, [some (.ref 74), some (.int l1), some (.long l2), none, none, none, none], [.int 45, .int s0], Wd f fl g gl hh v tx)) rfl ?_
  refine WP.call hP_181 hP_160 (as := [.int 45]) (pc' := 35) (L' := [some (.ref 74), some (.int l1), some (.long l2), none, none, none, none]) (st' := [.int s0]) (w1 := Wd f fl g gl hh v tx) rfl ⟨Nat.le_of_ble_eq_true rfl, Nat.le_of_ble_eq_true rfl⟩ rfl (b_m_glyph_0 X (d) f fl g gl hh v tx 45 _ ?_)
  refine WP.br hP_181 (q := ¬ s0 = 145) (t := 103) (f := 38) (L := [some (.ref 74), some (.int l1), some (.long l2), none, none, none, none]) (st := []) (w := Wd f fl g gl hh v tx) rfl (fun c1 => ?_) (fun c1 => ?_)
  · have h2 := h.1 c1
    refine WP.run hP_181 1 (c' := (104, [none, none, some (.long l2), none, none, none, none], [.long l2], Wd f fl g gl hh v tx)) rfl ?_
    exact WP.ret hP_181 (r := some (.long l2)) (w' := Wd f fl g gl hh v tx) rfl h2
  · have h3 := h.2 (Classical.not_not.mp c1)
    refine WP.run hP_181 3 (c' := (43, [some (.ref 74), some (.int l1), some (.long l2), none, none, none, none], [.int (f 4758), .ref 74], Wd f fl g gl hh v tx)) rfl ?_
    refine WP.call hP_181 hP_178 (as := [.ref 74, .int (f 4758)]) (pc' := 46) (L' := [some (.ref 74), some (.int l1), some (.long l2), none, none, none, none]) (st' := []) (w1 := Wd f fl g gl hh v tx) rfl ⟨Nat.le_of_ble_eq_true rfl, Nat.le_of_ble_eq_true rfl⟩ rfl ?_
    exact h3

set_option maxRecDepth 20000 in
theorem b_m_sumOf_76 (X : mm_X) (d : Nat) (f : Nat → Int32) (fl : Nat → Int64) (g : Nat → Nat → Int32) (gl : Nat → Nat → Int64) (hh : Nat → Nat → Option Nat) (v : Nat → Value) (tx : mm_W) (l1 : Int32) (l2 : Int64) (l4 : Int32) (s0 : Int64)  (P : Option Value → mm_W → Prop)
    (h : ((l4 = 0) → WP X (d) 180 (0, [some (.ref 74), some (.long (l2 - s0)), none, some (.int l1)], [], Wd f fl g gl hh v tx) (fun rv w2 => WP X (d + 1) 181 (99, [some (.ref 74), some (.int l1), none, none, none, none, none], rv.toList ++ [], w2) P)) ∧
    ((¬ l4 = 0) → WP X (d) 180 (0, [some (.ref 74), some (.long (l2 + s0)), none, some (.int l1)], [], Wd f fl g gl hh v tx) (fun rv w2 => WP X (d + 1) 181 (99, [some (.ref 74), some (.int l1), none, none, none, none, none], rv.toList ++ [], w2) P))) :
    WP X (d + 1) 181 (76, [some (.ref 74), some (.int l1), some (.long l2), none, some (.int l4), none, none], [.long s0], Wd f fl g gl hh v tx) P := by
  refine WP.run hP_181 3 (c' := (81, [some (.ref 74), some (.int l1), some (.long l2), none, some (.int l4), some (.long s0), none], [.int l4, .ref 74], Wd f fl g gl hh v tx)) rfl ?_
  refine WP.br hP_181 (q := l4 = 0) (t := 91) (f := 84) (L := [some (.ref 74), some (.int l1), some (.long l2), none, some (.int l4), some (.long s0), none]) (st := [.ref 74]) (w := Wd f fl g gl hh v tx) rfl (fun c1 => ?_) (fun c1 => ?_)
  · have h2 := h.1 c1
    refine WP.run hP_181 3 (c' := (95, [some (.ref 74), some (.int l1), some (.long l2), none, none, some (.long s0), none], [.long (l2 - s0), .ref 74], Wd f fl g gl hh v tx)) rfl ?_
    refine WP.run hP_181 1 (c' := (96, [some (.ref 74), some (.int l1), none, none, none, none, none], [.int l1, .long (l2 - s0), .ref 74], Wd f fl g gl hh v tx)) rfl ?_
    refine WP.call hP_181 hP_180 (as := [.ref 74, .long (l2 - s0), .int l1]) (pc' := 99) (L' := [some (.ref 74), some (.int l1), none, none, none, none, none]) (st' := []) (w1 := Wd f fl g gl hh v tx) rfl ⟨Nat.le_of_ble_eq_true rfl, Nat.le_of_ble_eq_true rfl⟩ rfl ?_
    exact h2
  · have h3 := h.2 c1
    refine WP.run hP_181 5 (c' := (96, [some (.ref 74), some (.int l1), none, none, none, none, none], [.int l1, .long (l2 + s0), .ref 74], Wd f fl g gl hh v tx)) rfl ?_
    refine WP.call hP_181 hP_180 (as := [.ref 74, .long (l2 + s0), .int l1]) (pc' := 99) (L' := [some (.ref 74), some (.int l1), none, none, none, none, none]) (st' := []) (w1 := Wd f fl g gl hh v tx) rfl ⟨Nat.le_of_ble_eq_true rfl, Nat.le_of_ble_eq_true rfl⟩ rfl ?_
    exact h3

set_option maxRecDepth 20000 in
theorem b_m_sumOf_99 (X : mm_X) (d : Nat) (f : Nat → Int32) (fl : Nat → Int64) (g : Nat → Nat → Int32) (gl : Nat → Nat → Int64) (hh : Nat → Nat → Option Nat) (v : Nat → Value) (tx : mm_W) (l1 : Int32) (s0 : Int64)  (P : Option Value → mm_W → Prop)
    (h : WP X (d) 181 (6, [some (.ref 74), some (.int l1), some (.long s0), none, none, none, none], [], Wd f fl g gl hh v tx) P) :
    WP X (d) 181 (99, [some (.ref 74), some (.int l1), none, none, none, none, none], [.long s0], Wd f fl g gl hh v tx) P := by
  refine WP.run hP_181 2 (c' := (6, [some (.ref 74), some (.int l1), some (.long s0), none, none, none, none], [], Wd f fl g gl hh v tx)) rfl ?_
  exact h

set_option maxRecDepth 20000 in
theorem b_m_positiveOf_0 (X : mm_X) (d : Nat) (f : Nat → Int32) (fl : Nat → Int64) (g : Nat → Nat → Int32) (gl : Nat → Nat → Int64) (hh : Nat → Nat → Option Nat) (v : Nat → Value) (tx : mm_W) (p0 : Int32)  (P : Option Value → mm_W → Prop)
    (h : WP X (d) 179 (0, [some (.ref 74), some (.int 140), none], [], Wd f fl g gl hh v tx) (fun rv w2 => WP X (d + 1) 188 (9, [some (.ref 74), some (.int p0), none, none, none, none, none], rv.toList ++ [], w2) P)) :
    WP X (d + 1) 188 (0, [some (.ref 74), some (.int p0), none, none, none, none, none], [], Wd f fl g gl hh v tx) P := by
  refine WP.run hP_188 2 (c' := (3, [some (.ref 74), some (.int p0), none, none, none, none, none], [.int 40, .ref 74], Wd f fl g gl hh v tx)) rfl ?_
  refine WP.call hP_188 hP_160 (as := [.int 40]) (pc' := 6) (L' := [some (.ref 74), some (.int p0), none, none, none, none, none]) (st' := [.ref 74]) (w1 := Wd f fl g gl hh v tx) rfl ⟨Nat.le_of_ble_eq_true rfl, Nat.le_of_ble_eq_true rfl⟩ rfl (b_m_glyph_0 X (d) f fl g gl hh v tx 40 _ ?_)
  refine WP.call hP_188 hP_179 (as := [.ref 74, .int 140]) (pc' := 9) (L' := [some (.ref 74), some (.int p0), none, none, none, none, none]) (st' := []) (w1 := Wd f fl g gl hh v tx) rfl ⟨Nat.le_of_ble_eq_true rfl, Nat.le_of_ble_eq_true rfl⟩ rfl ?_
  exact h

set_option maxRecDepth 20000 in
theorem b_m_positiveOf_9 (X : mm_X) (d : Nat) (f : Nat → Int32) (fl : Nat → Int64) (g : Nat → Nat → Int32) (gl : Nat → Nat → Int64) (hh : Nat → Nat → Option Nat) (v : Nat → Value) (tx : mm_W) (l1 : Int32) (s0 : Int32)  (P : Option Value → mm_W → Prop)
    (h : ((s0 = 0) → WP X (d) 181 (0, [some (.ref 74), some (.int l1), none, none, none, none, none], [], Wd f fl g gl hh v tx) (fun rv w2 => WP X (d + 1) 188 (35, [some (.ref 74), some (.int l1), none, none, none, none, none], rv.toList ++ [], w2) P)) ∧
    ((¬ s0 = 0) → WP X (d) 185 (0, [some (.ref 74), some (.int l1), none, none], [], Wd f fl g gl hh v tx) (fun rv w2 => WP X (d + 1) 188 (17, [some (.ref 74), some (.int l1), none, none, none, none, none], rv.toList ++ [], w2) P))) :
    WP X (d + 1) 188 (9, [some (.ref 74), some (.int l1), none, none, none, none, none], [.int s0], Wd f fl g gl hh v tx) P := by
  refine WP.br hP_188 (q := s0 = 0) (t := 30) (f := 12) (L := [some (.ref 74), some (.int l1), none, none, none, none, none]) (st := []) (w := Wd f fl g gl hh v tx) rfl (fun c1 => ?_) (fun c1 => ?_)
  · have h2 := h.1 c1
    refine WP.run hP_188 2 (c' := (32, [some (.ref 74), some (.int l1), none, none, none, none, none], [.int l1, .ref 74], Wd f fl g gl hh v tx)) rfl ?_
    refine WP.call hP_188 hP_181 (as := [.ref 74, .int l1]) (pc' := 35) (L' := [some (.ref 74), some (.int l1), none, none, none, none, none]) (st' := []) (w1 := Wd f fl g gl hh v tx) rfl ⟨Nat.le_of_ble_eq_true rfl, Nat.le_of_ble_eq_true rfl⟩ rfl ?_
    exact h2
  · have h3 := h.2 c1
    refine WP.run hP_188 2 (c' := (14, [some (.ref 74), some (.int l1), none, none, none, none, none], [.int l1, .ref 74], Wd f fl g gl hh v tx)) rfl ?_
    refine WP.call hP_188 hP_185 (as := [.ref 74, .int l1]) (pc' := 17) (L' := [some (.ref 74), some (.int l1), none, none, none, none, none]) (st' := []) (w1 := Wd f fl g gl hh v tx) rfl ⟨Nat.le_of_ble_eq_true rfl, Nat.le_of_ble_eq_true rfl⟩ rfl ?_
    exact h3

set_option maxRecDepth 20000 in
theorem b_m_positiveOf_35 (X : mm_X) (d : Nat) (f : Nat → Int32) (fl : Nat → Int64) (g : Nat → Nat → Int32) (gl : Nat → Nat → Int64) (hh : Nat → Nat → Option Nat) (v : Nat → Value) (tx : mm_W) (l1 : Int32) (s0 : Int64)  (P : Option Value → mm_W → Prop)
    (h : WP X (d) 178 (0, [some (.ref 74), some (.int (f 4758))], [], Wd f fl g gl hh v tx) (fun rv w2 => WP X (d + 1) 188 (44, [some (.ref 74), some (.int l1), some (.long s0), none, none, none, none], rv.toList ++ [], w2) P)) :
    WP X (d + 1) 188 (35, [some (.ref 74), some (.int l1), none, none, none, none, none], [.long s0], Wd f fl g gl hh v tx) P := by
  refine WP.run hP_188 4 (c' := (41, [some (.ref 74), some (.int l1), some (.long s0), none, none, none, none], [.int (f 4758), .ref 74], Wd f fl g gl hh v tx)) rfl ?_
  refine WP.call hP_188 hP_178 (as := [.ref 74, .int (f 4758)]) (pc' := 44) (L' := [some (.ref 74), some (.int l1), some (.long s0), none, none, none, none]) (st' := []) (w1 := Wd f fl g gl hh v tx) rfl ⟨Nat.le_of_ble_eq_true rfl, Nat.le_of_ble_eq_true rfl⟩ rfl ?_
  exact h

set_option maxRecDepth 20000 in
theorem b_m_positiveOf_17 (X : mm_X) (d : Nat) (f : Nat → Int32) (fl : Nat → Int64) (g : Nat → Nat → Int32) (gl : Nat → Nat → Int64) (hh : Nat → Nat → Option Nat) (v : Nat → Value) (tx : mm_W) (l1 : Int32) (s0 : Int32)  (P : Option Value → mm_W → Prop)
    (h : (s0 = 0 ∨ s0 = 1) ∧ P (some (.int s0)) (Wd (va_up f 4758 ((f 4758) + (1 : Int32))) fl g gl hh v tx)) :
    WP X (d) 188 (17, [some (.ref 74), some (.int l1), none, none, none, none, none], [.int s0], Wd f fl g gl hh v tx) P := by
  refine WP.run hP_188 8 (c' := (29, [some (.ref 74), some (.int l1), some (.int s0), none, none, none, none], [.int s0], Wd (va_up f 4758 ((f 4758) + (1 : Int32))) fl g gl hh v tx)) rfl ?_
  exact WP.retZ hP_188 rfl rfl h.1 h.2

set_option maxRecDepth 20000 in
theorem b_m_positiveOf_44 (X : mm_X) (d : Nat) (f : Nat → Int32) (fl : Nat → Int64) (g : Nat → Nat → Int32) (gl : Nat → Nat → Int64) (hh : Nat → Nat → Option Nat) (v : Nat → Value) (tx : mm_W) (l1 : Int32) (l2 : Int64) (s0 : Int32)  (P : Option Value → mm_W → Prop)
    (h : WP X (d) 181 (0, [some (.ref 74), some (.int l1), none, none, none, none, none], [], Wd (va_up f 4758 ((f 4758) + (1 : Int32))) fl g gl hh v tx) (fun rv w2 => WP X (d + 1) 188 (61, [some (.ref 74), some (.int l1), some (.long l2), none, some (.int s0), none, none], rv.toList ++ [], w2) P)) :
    WP X (d + 1) 188 (44, [some (.ref 74), some (.int l1), some (.long l2), none, none, none, none], [.int s0], Wd f fl g gl hh v tx) P := by
  refine WP.run hP_188 9 (c' := (58, [some (.ref 74), some (.int l1), some (.long l2), none, some (.int s0), none, none], [.int l1, .ref 74], Wd (va_up f 4758 ((f 4758) + (1 : Int32))) fl g gl hh v tx)) rfl ?_
  refine WP.call hP_188 hP_181 (as := [.ref 74, .int l1]) (pc' := 61) (L' := [some (.ref 74), some (.int l1), some (.long l2), none, some (.int s0), none, none]) (st' := []) (w1 := Wd (va_up f 4758 ((f 4758) + (1 : Int32))) fl g gl hh v tx) rfl ⟨Nat.le_of_ble_eq_true rfl, Nat.le_of_ble_eq_true rfl⟩ rfl ?_
  exact h

set_option maxRecDepth 20000 in
theorem b_m_positiveOf_61 (X : mm_X) (d : Nat) (f : Nat → Int32) (fl : Nat → Int64) (g : Nat → Nat → Int32) (gl : Nat → Nat → Int64) (hh : Nat → Nat → Option Nat) (v : Nat → Value) (tx : mm_W) (l1 : Int32) (l2 : Int64) (l4 : Int32) (s0 : Int64)  (P : Option Value → mm_W → Prop)
    (h : ((l1 = 0) → P (some (.int 0)) (Wd f fl g gl hh v tx)) ∧
    ((¬ l1 = 0) → (((¬ (f 4760) = 0) → P (some (.int 0)) (Wd f fl g gl hh v tx)) ∧
      (((f 4760) = 0) → (((¬ l4 = 160) → (((¬ l4 = 162) → (((¬ (lg_cmp l2 s0) = 0) → P (some (.int 0)) (Wd f fl g gl hh v tx)) ∧
            (((lg_cmp l2 s0) = 0) → P (some (.int 1)) (Wd f fl g gl hh v tx)))) ∧
          ((l4 = 162) → ((((lg_cmp l2 s0) ≤ 0) → P (some (.int 0)) (Wd f fl g gl hh v tx)) ∧
            ((¬ ((lg_cmp l2 s0) ≤ 0)) → P (some (.int 1)) (Wd f fl g gl hh v tx)))))) ∧
        ((l4 = 160) → (((0 ≤ (lg_cmp l2 s0)) → P (some (.int 0)) (Wd f fl g gl hh v tx)) ∧
          ((¬ (0 ≤ (lg_cmp l2 s0))) → P (some (.int 1)) (Wd f fl g gl hh v tx))))))))) :
    WP X (d + 1) 188 (61, [some (.ref 74), some (.int l1), some (.long l2), none, some (.int l4), none, none], [.long s0], Wd f fl g gl hh v tx) P := by
  refine WP.run hP_188 2 (c' := (64, [some (.ref 74), some (.int l1), some (.long l2), none, some (.int l4), some (.long s0), none], [.int l1], Wd f fl g gl hh v tx)) rfl ?_
  refine WP.br hP_188 (q := l1 = 0) (t := 125) (f := 67) (L := [some (.ref 74), some (.int l1), some (.long l2), none, some (.int l4), some (.long s0), none]) (st := []) (w := Wd f fl g gl hh v tx) rfl (fun c1 => ?_) (fun c1 => ?_)
  · have h2 := h.1 c1
    refine WP.run hP_188 1 (c' := (126, [none, none, none, none, none, none, none], [.int 0], Wd f fl g gl hh v tx)) rfl ?_
    exact WP.ret hP_188 (r := some (.int 0)) (w' := Wd f fl g gl hh v tx) rfl h2
  · have h3 := h.2 c1
    refine WP.run hP_188 2 (c' := (71, [some (.ref 74), some (.int l1), some (.long l2), none, some (.int l4), some (.long s0), none], [.int (f 4760)], Wd f fl g gl hh v tx)) rfl ?_
    refine WP.br hP_188 (q := ¬ (f 4760) = 0) (t := 125) (f := 74) (L := [some (.ref 74), some (.int l1), some (.long l2), none, some (.int l4), some (.long s0), none]) (st := []) (w := Wd f fl g gl hh v tx) rfl (fun c4 => ?_) (fun c4 => ?_)
    · have h5 := h3.1 c4
      refine WP.run hP_188 1 (c' := (126, [none, none, none, none, none, none, none], [.int 0], Wd f fl g gl hh v tx)) rfl ?_
      exact WP.ret hP_188 (r := some (.int 0)) (w' := Wd f fl g gl hh v tx) rfl h5
    · have h6 := h3.2 (Classical.not_not.mp c4)
      refine WP.run hP_188 2 (c' := (78, [some (.ref 74), some (.int l1), some (.long l2), none, some (.int l4), some (.long s0), none], [.int 60, .int l4], Wd f fl g gl hh v tx)) rfl ?_
      refine WP.call hP_188 hP_160 (as := [.int 60]) (pc' := 81) (L' := [some (.ref 74), some (.int l1), some (.long l2), none, some (.int l4), some (.long s0), none]) (st' := [.int l4]) (w1 := Wd f fl g gl hh v tx) rfl ⟨Nat.le_of_ble_eq_true rfl, Nat.le_of_ble_eq_true rfl⟩ rfl (b_m_glyph_0 X (d) f fl g gl hh v tx 60 _ ?_)
      refine WP.br hP_188 (q := ¬ l4 = 160) (t := 94) (f := 84) (L := [some (.ref 74), some (.int l1), some (.long l2), none, some (.int l4), some (.long s0), none]) (st := []) (w := Wd f fl g gl hh v tx) rfl (fun c7 => ?_) (fun c7 => ?_)
      · have h8 := h6.1 c7
        refine WP.run hP_188 2 (c' := (98, [none, none, some (.long l2), none, some (.int l4), some (.long s0), none], [.int 62, .int l4], Wd f fl g gl hh v tx)) rfl ?_
        refine WP.call hP_188 hP_160 (as := [.int 62]) (pc' := 101) (L' := [none, none, some (.long l2), none, some (.int l4), some (.long s0), none]) (st' := [.int l4]) (w1 := Wd f fl g gl hh v tx) rfl ⟨Nat.le_of_ble_eq_true rfl, Nat.le_of_ble_eq_true rfl⟩ rfl (b_m_glyph_0 X (d) f fl g gl hh v tx 62 _ ?_)
        refine WP.br hP_188 (q := ¬ l4 = 162) (t := 114) (f := 104) (L := [none, none, some (.long l2), none, some (.int l4), some (.long s0), none]) (st := []) (w := Wd f fl g gl hh v tx) rfl (fun c9 => ?_) (fun c9 => ?_)
        · have h10 := h8.1 c9
          refine WP.run hP_188 3 (c' := (118, [none, none, some (.long l2), none, none, some (.long s0), none], [.int (lg_cmp l2 s0)], Wd f fl g gl hh v tx)) rfl ?_
          refine WP.br hP_188 (q := ¬ (lg_cmp l2 s0) = 0) (t := 125) (f := 121) (L := [none, none, some (.long l2), none, none, some (.long s0), none]) (st := []) (w := Wd f fl g gl hh v tx) rfl (fun c11 => ?_) (fun c11 => ?_)
          · have h12 := h10.1 c11
            refine WP.run hP_188 1 (c' := (126, [none, none, none, none, none, none, none], [.int 0], Wd f fl g gl hh v tx)) rfl ?_
            exact WP.ret hP_188 (r := some (.int 0)) (w' := Wd f fl g gl hh v tx) rfl h12
          · have h13 := h10.2 (Classical.not_not.mp c11)
            refine WP.run hP_188 2 (c' := (126, [none, none, none, none, none, none, none], [.int 1], Wd f fl g gl hh v tx)) rfl ?_
            exact WP.ret hP_188 (r := some (.int 1)) (w' := Wd f fl g gl hh v tx) rfl h13
        · have h14 := h8.2 (Classical.not_not.mp c9)
          refine WP.run hP_188 3 (c' := (108, [none, none, some (.long l2), none, some (.int l4), some (.long s0), none], [.int (lg_cmp l2 s0)], Wd f fl g gl hh v tx)) rfl ?_
          refine WP.br hP_188 (q := (lg_cmp l2 s0) ≤ 0) (t := 125) (f := 111) (L := [none, none, some (.long l2), none, some (.int l4), some (.long s0), none]) (st := []) (w := Wd f fl g gl hh v tx) rfl (fun c15 => ?_) (fun c15 => ?_)
          · have h16 := h14.1 c15
            refine WP.run hP_188 1 (c' := (126, [none, none, none, none, none, none, none], [.int 0], Wd f fl g gl hh v tx)) rfl ?_
            exact WP.ret hP_188 (r := some (.int 0)) (w' := Wd f fl g gl hh v tx) rfl h16
          · have h17 := h14.2 c15
            refine WP.run hP_188 3 (c' := (126, [none, none, none, none, none, none, none], [.int 1], Wd f fl g gl hh v tx)) rfl ?_
            exact WP.ret hP_188 (r := some (.int 1)) (w' := Wd f fl g gl hh v tx) rfl h17
      · have h18 := h6.2 (Classical.not_not.mp c7)
        refine WP.run hP_188 3 (c' := (88, [some (.ref 74), some (.int l1), some (.long l2), none, some (.int l4), some (.long s0), none], [.int (lg_cmp l2 s0)], Wd f fl g gl hh v tx)) rfl ?_
        refine WP.br hP_188 (q := 0 ≤ (lg_cmp l2 s0)) (t := 125) (f := 91) (L := [some (.ref 74), some (.int l1), some (.long l2), none, some (.int l4), some (.long s0), none]) (st := []) (w := Wd f fl g gl hh v tx) rfl (fun c19 => ?_) (fun c19 => ?_)
        · have h20 := h18.1 c19
          refine WP.run hP_188 1 (c' := (126, [none, none, none, none, none, none, none], [.int 0], Wd f fl g gl hh v tx)) rfl ?_
          exact WP.ret hP_188 (r := some (.int 0)) (w' := Wd f fl g gl hh v tx) rfl h20
        · have h21 := h18.2 c19
          refine WP.run hP_188 3 (c' := (126, [none, none, none, none, none, none, none], [.int 1], Wd f fl g gl hh v tx)) rfl ?_
          exact WP.ret hP_188 (r := some (.int 1)) (w' := Wd f fl g gl hh v tx) rfl h21

set_option maxRecDepth 20000 in
theorem b_m_plainOf_0 (X : mm_X) (d : Nat) (f : Nat → Int32) (fl : Nat → Int64) (g : Nat → Nat → Int32) (gl : Nat → Nat → Int64) (hh : Nat → Nat → Option Nat) (v : Nat → Value) (tx : mm_W) (p0 : Int32)  (P : Option Value → mm_W → Prop)
    (h : WP X (d) 187 (2, [some (.ref 74), some (.int p0), some (.int 0)], [], Wd f fl g gl hh v tx) P) :
    WP X (d) 187 (0, [some (.ref 74), some (.int p0), none], [], Wd f fl g gl hh v tx) P := by
  refine WP.run hP_187 2 (c' := (2, [some (.ref 74), some (.int p0), some (.int 0)], [], Wd f fl g gl hh v tx)) rfl ?_
  exact h

set_option maxRecDepth 20000 in
theorem b_m_plainOf_2 (X : mm_X) (d : Nat) (f : Nat → Int32) (fl : Nat → Int64) (g : Nat → Nat → Int32) (gl : Nat → Nat → Int64) (hh : Nat → Nat → Option Nat) (v : Nat → Value) (tx : mm_W) (l1 : Int32) (l2 : Int32)  (P : Option Value → mm_W → Prop)
    (h : WP X (d) 179 (0, [some (.ref 74), some (.int 7), none], [], Wd f fl g gl hh v tx) (fun rv w2 => WP X (d + 1) 187 (8, [some (.ref 74), some (.int l1), some (.int l2)], rv.toList ++ [], w2) P)) :
    WP X (d + 1) 187 (2, [some (.ref 74), some (.int l1), some (.int l2)], [], Wd f fl g gl hh v tx) P := by
  refine WP.run hP_187 2 (c' := (5, [some (.ref 74), some (.int l1), some (.int l2)], [.int 7, .ref 74], Wd f fl g gl hh v tx)) rfl ?_
  refine WP.call hP_187 hP_179 (as := [.ref 74, .int 7]) (pc' := 8) (L' := [some (.ref 74), some (.int l1), some (.int l2)]) (st' := []) (w1 := Wd f fl g gl hh v tx) rfl ⟨Nat.le_of_ble_eq_true rfl, Nat.le_of_ble_eq_true rfl⟩ rfl ?_
  exact h

set_option maxRecDepth 20000 in
theorem b_m_plainOf_8 (X : mm_X) (d : Nat) (f : Nat → Int32) (fl : Nat → Int64) (g : Nat → Nat → Int32) (gl : Nat → Nat → Int64) (hh : Nat → Nat → Option Nat) (v : Nat → Value) (tx : mm_W) (l1 : Int32) (l2 : Int32) (s0 : Int32)  (P : Option Value → mm_W → Prop)
    (h : ((s0 = 0) → WP X (d) 188 (0, [some (.ref 74), some (.int l1), none, none, none, none, none], [], Wd f fl g gl hh v tx) (fun rv w2 => WP X (d + 1) 187 (29, [some (.ref 74), some (.int l1), some (.int l2)], rv.toList ++ [], w2) P)) ∧
    ((¬ s0 = 0) → (((¬ l2 = 0) → WP X (d + 1) 187 (2, [some (.ref 74), some (.int l1), some (.int 0)], [], Wd f fl g gl hh v tx) P) ∧
      ((l2 = 0) → WP X (d + 1) 187 (2, [some (.ref 74), some (.int l1), some (.int 1)], [], Wd f fl g gl hh v tx) P)))) :
    WP X (d + 1) 187 (8, [some (.ref 74), some (.int l1), some (.int l2)], [.int s0], Wd f fl g gl hh v tx) P := by
  refine WP.br hP_187 (q := s0 = 0) (t := 24) (f := 11) (L := [some (.ref 74), some (.int l1), some (.int l2)]) (st := []) (w := Wd f fl g gl hh v tx) rfl (fun c1 => ?_) (fun c1 => ?_)
  · have h2 := h.1 c1
    refine WP.run hP_187 2 (c' := (26, [some (.ref 74), some (.int l1), some (.int l2)], [.int l1, .ref 74], Wd f fl g gl hh v tx)) rfl ?_
    refine WP.call hP_187 hP_188 (as := [.ref 74, .int l1]) (pc' := 29) (L' := [some (.ref 74), some (.int l1), some (.int l2)]) (st' := []) (w1 := Wd f fl g gl hh v tx) rfl ⟨Nat.le_of_ble_eq_true rfl, Nat.le_of_ble_eq_true rfl⟩ rfl ?_
    exact h2
  · have h3 := h.2 c1
    refine WP.run hP_187 1 (c' := (12, [some (.ref 74), some (.int l1), some (.int l2)], [.int l2], Wd f fl g gl hh v tx)) rfl ?_
    refine WP.br hP_187 (q := ¬ l2 = 0) (t := 19) (f := 15) (L := [some (.ref 74), some (.int l1), some (.int l2)]) (st := []) (w := Wd f fl g gl hh v tx) rfl (fun c4 => ?_) (fun c4 => ?_)
    · have h5 := h3.1 c4
      refine WP.run hP_187 1 (c' := (20, [some (.ref 74), some (.int l1), none], [.int 0], Wd f fl g gl hh v tx)) rfl ?_
      refine WP.run hP_187 2 (c' := (2, [some (.ref 74), some (.int l1), some (.int 0)], [], Wd f fl g gl hh v tx)) rfl ?_
      exact h5
    · have h6 := h3.2 (Classical.not_not.mp c4)
      refine WP.run hP_187 4 (c' := (2, [some (.ref 74), some (.int l1), some (.int 1)], [], Wd f fl g gl hh v tx)) rfl ?_
      exact h6

set_option maxRecDepth 20000 in
theorem b_m_plainOf_29 (X : mm_X) (d : Nat) (f : Nat → Int32) (fl : Nat → Int64) (g : Nat → Nat → Int32) (gl : Nat → Nat → Int64) (hh : Nat → Nat → Option Nat) (v : Nat → Value) (tx : mm_W) (l1 : Int32) (l2 : Int32) (s0 : Int32)  (P : Option Value → mm_W → Prop)
    (h : ((s0 = l2) → P (some (.int 0)) (Wd f fl g gl hh v tx)) ∧
    ((¬ s0 = l2) → P (some (.int 1)) (Wd f fl g gl hh v tx))) :
    WP X (d) 187 (29, [some (.ref 74), some (.int l1), some (.int l2)], [.int s0], Wd f fl g gl hh v tx) P := by
  refine WP.run hP_187 1 (c' := (30, [some (.ref 74), some (.int l1), some (.int l2)], [.int l2, .int s0], Wd f fl g gl hh v tx)) rfl ?_
  refine WP.br hP_187 (q := s0 = l2) (t := 37) (f := 33) (L := [some (.ref 74), some (.int l1), some (.int l2)]) (st := []) (w := Wd f fl g gl hh v tx) rfl (fun c1 => ?_) (fun c1 => ?_)
  · have h2 := h.1 c1
    refine WP.run hP_187 1 (c' := (38, [none, none, none], [.int 0], Wd f fl g gl hh v tx)) rfl ?_
    exact WP.ret hP_187 (r := some (.int 0)) (w' := Wd f fl g gl hh v tx) rfl h2
  · have h3 := h.2 c1
    refine WP.run hP_187 2 (c' := (38, [some (.ref 74), some (.int l1), some (.int l2)], [.int 1], Wd f fl g gl hh v tx)) rfl ?_
    exact WP.ret hP_187 (r := some (.int 1)) (w' := Wd f fl g gl hh v tx) rfl h3

set_option maxRecDepth 20000 in
theorem b_m_bothOf_0 (X : mm_X) (d : Nat) (f : Nat → Int32) (fl : Nat → Int64) (g : Nat → Nat → Int32) (gl : Nat → Nat → Int64) (hh : Nat → Nat → Option Nat) (v : Nat → Value) (tx : mm_W) (p0 : Int32)  (P : Option Value → mm_W → Prop)
    (h : WP X (d) 187 (0, [some (.ref 74), some (.int p0), none], [], Wd f fl g gl hh v tx) (fun rv w2 => WP X (d + 1) 186 (5, [some (.ref 74), some (.int p0), none, none], rv.toList ++ [], w2) P)) :
    WP X (d + 1) 186 (0, [some (.ref 74), some (.int p0), none, none], [], Wd f fl g gl hh v tx) P := by
  refine WP.run hP_186 2 (c' := (2, [some (.ref 74), some (.int p0), none, none], [.int p0, .ref 74], Wd f fl g gl hh v tx)) rfl ?_
  refine WP.call hP_186 hP_187 (as := [.ref 74, .int p0]) (pc' := 5) (L' := [some (.ref 74), some (.int p0), none, none]) (st' := []) (w1 := Wd f fl g gl hh v tx) rfl ⟨Nat.le_of_ble_eq_true rfl, Nat.le_of_ble_eq_true rfl⟩ rfl ?_
  exact h

set_option maxRecDepth 20000 in
theorem b_m_bothOf_5 (X : mm_X) (d : Nat) (f : Nat → Int32) (fl : Nat → Int64) (g : Nat → Nat → Int32) (gl : Nat → Nat → Int64) (hh : Nat → Nat → Option Nat) (v : Nat → Value) (tx : mm_W) (l1 : Int32) (s0 : Int32)  (P : Option Value → mm_W → Prop)
    (h : WP X (d) 186 (6, [some (.ref 74), some (.int l1), some (.int s0), none], [], Wd f fl g gl hh v tx) P) :
    WP X (d) 186 (5, [some (.ref 74), some (.int l1), none, none], [.int s0], Wd f fl g gl hh v tx) P := by
  refine WP.run hP_186 1 (c' := (6, [some (.ref 74), some (.int l1), some (.int s0), none], [], Wd f fl g gl hh v tx)) rfl ?_
  exact h

set_option maxRecDepth 20000 in
theorem b_m_bothOf_6 (X : mm_X) (d : Nat) (f : Nat → Int32) (fl : Nat → Int64) (g : Nat → Nat → Int32) (gl : Nat → Nat → Int64) (hh : Nat → Nat → Option Nat) (v : Nat → Value) (tx : mm_W) (l1 : Int32) (l2 : Int32)  (P : Option Value → mm_W → Prop)
    (h : WP X (d) 179 (0, [some (.ref 74), some (.int 6), none], [], Wd f fl g gl hh v tx) (fun rv w2 => WP X (d + 1) 186 (12, [some (.ref 74), some (.int l1), some (.int l2), none], rv.toList ++ [], w2) P)) :
    WP X (d + 1) 186 (6, [some (.ref 74), some (.int l1), some (.int l2), none], [], Wd f fl g gl hh v tx) P := by
  refine WP.run hP_186 2 (c' := (9, [some (.ref 74), some (.int l1), some (.int l2), none], [.int 6, .ref 74], Wd f fl g gl hh v tx)) rfl ?_
  refine WP.call hP_186 hP_179 (as := [.ref 74, .int 6]) (pc' := 12) (L' := [some (.ref 74), some (.int l1), some (.int l2), none]) (st' := []) (w1 := Wd f fl g gl hh v tx) rfl ⟨Nat.le_of_ble_eq_true rfl, Nat.le_of_ble_eq_true rfl⟩ rfl ?_
  exact h

set_option maxRecDepth 20000 in
theorem b_m_bothOf_12 (X : mm_X) (d : Nat) (f : Nat → Int32) (fl : Nat → Int64) (g : Nat → Nat → Int32) (gl : Nat → Nat → Int64) (hh : Nat → Nat → Option Nat) (v : Nat → Value) (tx : mm_W) (l1 : Int32) (l2 : Int32) (s0 : Int32)  (P : Option Value → mm_W → Prop)
    (h : ((s0 = 0) → ((l2 = 0 ∨ l2 = 1) ∧ P (some (.int l2)) (Wd f fl g gl hh v tx))) ∧
    ((¬ s0 = 0) → (((l1 = 0) → WP X (d) 187 (0, [some (.ref 74), some (.int 0), none], [], Wd f fl g gl hh v tx) (fun rv w2 => WP X (d + 1) 186 (32, [some (.ref 74), some (.int l1), some (.int l2), none], rv.toList ++ [], w2) P)) ∧
      ((¬ l1 = 0) → (((l2 = 0) → WP X (d) 187 (0, [some (.ref 74), some (.int 0), none], [], Wd f fl g gl hh v tx) (fun rv w2 => WP X (d + 1) 186 (32, [some (.ref 74), some (.int l1), some (.int l2), none], rv.toList ++ [], w2) P)) ∧
        ((¬ l2 = 0) → WP X (d) 187 (0, [some (.ref 74), some (.int 1), none], [], Wd f fl g gl hh v tx) (fun rv w2 => WP X (d + 1) 186 (32, [some (.ref 74), some (.int l1), some (.int l2), none], rv.toList ++ [], w2) P))))))) :
    WP X (d + 1) 186 (12, [some (.ref 74), some (.int l1), some (.int l2), none], [.int s0], Wd f fl g gl hh v tx) P := by
  refine WP.br hP_186 (q := s0 = 0) (t := 50) (f := 15) (L := [some (.ref 74), some (.int l1), some (.int l2), none]) (st := []) (w := Wd f fl g gl hh v tx) rfl (fun c1 => ?_) (fun c1 => ?_)
  · have h2 := h.1 c1
    refine WP.run hP_186 1 (c' := (51, [none, none, some (.int l2), none], [.int l2], Wd f fl g gl hh v tx)) rfl ?_
    exact WP.retZ hP_186 rfl rfl h2.1 h2.2
  · have h3 := h.2 c1
    refine WP.run hP_186 2 (c' := (17, [some (.ref 74), some (.int l1), some (.int l2), none], [.int l1, .ref 74], Wd f fl g gl hh v tx)) rfl ?_
    refine WP.br hP_186 (q := l1 = 0) (t := 28) (f := 20) (L := [some (.ref 74), some (.int l1), some (.int l2), none]) (st := [.ref 74]) (w := Wd f fl g gl hh v tx) rfl (fun c4 => ?_) (fun c4 => ?_)
    · have h5 := h3.1 c4
      refine WP.run hP_186 1 (c' := (29, [some (.ref 74), some (.int l1), some (.int l2), none], [.int 0, .ref 74], Wd f fl g gl hh v tx)) rfl ?_
      refine WP.call hP_186 hP_187 (as := [.ref 74, .int 0]) (pc' := 32) (L' := [some (.ref 74), some (.int l1), some (.int l2), none]) (st' := []) (w1 := Wd f fl g gl hh v tx) rfl ⟨Nat.le_of_ble_eq_true rfl, Nat.le_of_ble_eq_true rfl⟩ rfl ?_
      exact h5
    · have h6 := h3.2 c4
      refine WP.run hP_186 1 (c' := (21, [some (.ref 74), some (.int l1), some (.int l2), none], [.int l2, .ref 74], Wd f fl g gl hh v tx)) rfl ?_
      refine WP.br hP_186 (q := l2 = 0) (t := 28) (f := 24) (L := [some (.ref 74), some (.int l1), some (.int l2), none]) (st := [.ref 74]) (w := Wd f fl g gl hh v tx) rfl (fun c7 => ?_) (fun c7 => ?_)
      · have h8 := h6.1 c7
        refine WP.run hP_186 1 (c' := (29, [some (.ref 74), some (.int l1), some (.int l2), none], [.int 0, .ref 74], Wd f fl g gl hh v tx)) rfl ?_
        refine WP.call hP_186 hP_187 (as := [.ref 74, .int 0]) (pc' := 32) (L' := [some (.ref 74), some (.int l1), some (.int l2), none]) (st' := []) (w1 := Wd f fl g gl hh v tx) rfl ⟨Nat.le_of_ble_eq_true rfl, Nat.le_of_ble_eq_true rfl⟩ rfl ?_
        exact h8
      · have h9 := h6.2 c7
        refine WP.run hP_186 2 (c' := (29, [some (.ref 74), some (.int l1), some (.int l2), none], [.int 1, .ref 74], Wd f fl g gl hh v tx)) rfl ?_
        refine WP.call hP_186 hP_187 (as := [.ref 74, .int 1]) (pc' := 32) (L' := [some (.ref 74), some (.int l1), some (.int l2), none]) (st' := []) (w1 := Wd f fl g gl hh v tx) rfl ⟨Nat.le_of_ble_eq_true rfl, Nat.le_of_ble_eq_true rfl⟩ rfl ?_
        exact h9

set_option maxRecDepth 20000 in
theorem b_m_bothOf_32 (X : mm_X) (d : Nat) (f : Nat → Int32) (fl : Nat → Int64) (g : Nat → Nat → Int32) (gl : Nat → Nat → Int64) (hh : Nat → Nat → Option Nat) (v : Nat → Value) (tx : mm_W) (l1 : Int32) (l2 : Int32) (s0 : Int32)  (P : Option Value → mm_W → Prop)
    (h : ((l2 = 0) → WP X (d) 186 (6, [some (.ref 74), some (.int l1), some (.int 0), none], [], Wd f fl g gl hh v tx) P) ∧
    ((¬ l2 = 0) → (((s0 = 0) → WP X (d) 186 (6, [some (.ref 74), some (.int l1), some (.int 0), none], [], Wd f fl g gl hh v tx) P) ∧
      ((¬ s0 = 0) → WP X (d) 186 (6, [some (.ref 74), some (.int l1), some (.int 1), none], [], Wd f fl g gl hh v tx) P)))) :
    WP X (d) 186 (32, [some (.ref 74), some (.int l1), some (.int l2), none], [.int s0], Wd f fl g gl hh v tx) P := by
  refine WP.run hP_186 2 (c' := (34, [some (.ref 74), some (.int l1), some (.int l2), some (.int s0)], [.int l2], Wd f fl g gl hh v tx)) rfl ?_
  refine WP.br hP_186 (q := l2 = 0) (t := 45) (f := 37) (L := [some (.ref 74), some (.int l1), some (.int l2), some (.int s0)]) (st := []) (w := Wd f fl g gl hh v tx) rfl (fun c1 => ?_) (fun c1 => ?_)
  · have h2 := h.1 c1
    refine WP.run hP_186 1 (c' := (46, [some (.ref 74), some (.int l1), none, none], [.int 0], Wd f fl g gl hh v tx)) rfl ?_
    refine WP.run hP_186 2 (c' := (6, [some (.ref 74), some (.int l1), some (.int 0), none], [], Wd f fl g gl hh v tx)) rfl ?_
    exact h2
  · have h3 := h.2 c1
    refine WP.run hP_186 1 (c' := (38, [some (.ref 74), some (.int l1), some (.int l2), some (.int s0)], [.int s0], Wd f fl g gl hh v tx)) rfl ?_
    refine WP.br hP_186 (q := s0 = 0) (t := 45) (f := 41) (L := [some (.ref 74), some (.int l1), some (.int l2), some (.int s0)]) (st := []) (w := Wd f fl g gl hh v tx) rfl (fun c4 => ?_) (fun c4 => ?_)
    · have h5 := h3.1 c4
      refine WP.run hP_186 1 (c' := (46, [some (.ref 74), some (.int l1), none, none], [.int 0], Wd f fl g gl hh v tx)) rfl ?_
      refine WP.run hP_186 2 (c' := (6, [some (.ref 74), some (.int l1), some (.int 0), none], [], Wd f fl g gl hh v tx)) rfl ?_
      exact h5
    · have h6 := h3.2 c4
      refine WP.run hP_186 4 (c' := (6, [some (.ref 74), some (.int l1), some (.int 1), none], [], Wd f fl g gl hh v tx)) rfl ?_
      exact h6

set_option maxRecDepth 20000 in
theorem b_m_testOf_0 (X : mm_X) (d : Nat) (f : Nat → Int32) (fl : Nat → Int64) (g : Nat → Nat → Int32) (gl : Nat → Nat → Int64) (hh : Nat → Nat → Option Nat) (v : Nat → Value) (tx : mm_W) (p0 : Int32)  (P : Option Value → mm_W → Prop)
    (h : WP X (d) 186 (0, [some (.ref 74), some (.int p0), none, none], [], Wd f fl g gl hh v tx) (fun rv w2 => WP X (d + 1) 185 (5, [some (.ref 74), some (.int p0), none, none], rv.toList ++ [], w2) P)) :
    WP X (d + 1) 185 (0, [some (.ref 74), some (.int p0), none, none], [], Wd f fl g gl hh v tx) P := by
  refine WP.run hP_185 2 (c' := (2, [some (.ref 74), some (.int p0), none, none], [.int p0, .ref 74], Wd f fl g gl hh v tx)) rfl ?_
  refine WP.call hP_185 hP_186 (as := [.ref 74, .int p0]) (pc' := 5) (L' := [some (.ref 74), some (.int p0), none, none]) (st' := []) (w1 := Wd f fl g gl hh v tx) rfl ⟨Nat.le_of_ble_eq_true rfl, Nat.le_of_ble_eq_true rfl⟩ rfl ?_
  exact h

set_option maxRecDepth 20000 in
theorem b_m_testOf_5 (X : mm_X) (d : Nat) (f : Nat → Int32) (fl : Nat → Int64) (g : Nat → Nat → Int32) (gl : Nat → Nat → Int64) (hh : Nat → Nat → Option Nat) (v : Nat → Value) (tx : mm_W) (l1 : Int32) (s0 : Int32)  (P : Option Value → mm_W → Prop)
    (h : WP X (d) 185 (6, [some (.ref 74), some (.int l1), some (.int s0), none], [], Wd f fl g gl hh v tx) P) :
    WP X (d) 185 (5, [some (.ref 74), some (.int l1), none, none], [.int s0], Wd f fl g gl hh v tx) P := by
  refine WP.run hP_185 1 (c' := (6, [some (.ref 74), some (.int l1), some (.int s0), none], [], Wd f fl g gl hh v tx)) rfl ?_
  exact h

set_option maxRecDepth 20000 in
theorem b_m_testOf_6 (X : mm_X) (d : Nat) (f : Nat → Int32) (fl : Nat → Int64) (g : Nat → Nat → Int32) (gl : Nat → Nat → Int64) (hh : Nat → Nat → Option Nat) (v : Nat → Value) (tx : mm_W) (l1 : Int32) (l2 : Int32)  (P : Option Value → mm_W → Prop)
    (h : WP X (d) 179 (0, [some (.ref 74), some (.int 5), none], [], Wd f fl g gl hh v tx) (fun rv w2 => WP X (d + 1) 185 (11, [some (.ref 74), some (.int l1), some (.int l2), none], rv.toList ++ [], w2) P)) :
    WP X (d + 1) 185 (6, [some (.ref 74), some (.int l1), some (.int l2), none], [], Wd f fl g gl hh v tx) P := by
  refine WP.run hP_185 2 (c' := (8, [some (.ref 74), some (.int l1), some (.int l2), none], [.int 5, .ref 74], Wd f fl g gl hh v tx)) rfl ?_
  refine WP.call hP_185 hP_179 (as := [.ref 74, .int 5]) (pc' := 11) (L' := [some (.ref 74), some (.int l1), some (.int l2), none]) (st' := []) (w1 := Wd f fl g gl hh v tx) rfl ⟨Nat.le_of_ble_eq_true rfl, Nat.le_of_ble_eq_true rfl⟩ rfl ?_
  exact h

set_option maxRecDepth 20000 in
theorem b_m_testOf_11 (X : mm_X) (d : Nat) (f : Nat → Int32) (fl : Nat → Int64) (g : Nat → Nat → Int32) (gl : Nat → Nat → Int64) (hh : Nat → Nat → Option Nat) (v : Nat → Value) (tx : mm_W) (l1 : Int32) (l2 : Int32) (s0 : Int32)  (P : Option Value → mm_W → Prop)
    (h : ((s0 = 0) → ((l2 = 0 ∨ l2 = 1) ∧ P (some (.int l2)) (Wd f fl g gl hh v tx))) ∧
    ((¬ s0 = 0) → (((l1 = 0) → WP X (d) 186 (0, [some (.ref 74), some (.int 0), none, none], [], Wd f fl g gl hh v tx) (fun rv w2 => WP X (d + 1) 185 (31, [some (.ref 74), some (.int l1), some (.int l2), none], rv.toList ++ [], w2) P)) ∧
      ((¬ l1 = 0) → (((¬ l2 = 0) → WP X (d) 186 (0, [some (.ref 74), some (.int 0), none, none], [], Wd f fl g gl hh v tx) (fun rv w2 => WP X (d + 1) 185 (31, [some (.ref 74), some (.int l1), some (.int l2), none], rv.toList ++ [], w2) P)) ∧
        ((l2 = 0) → WP X (d) 186 (0, [some (.ref 74), some (.int 1), none, none], [], Wd f fl g gl hh v tx) (fun rv w2 => WP X (d + 1) 185 (31, [some (.ref 74), some (.int l1), some (.int l2), none], rv.toList ++ [], w2) P))))))) :
    WP X (d + 1) 185 (11, [some (.ref 74), some (.int l1), some (.int l2), none], [.int s0], Wd f fl g gl hh v tx) P := by
  refine WP.br hP_185 (q := s0 = 0) (t := 49) (f := 14) (L := [some (.ref 74), some (.int l1), some (.int l2), none]) (st := []) (w := Wd f fl g gl hh v tx) rfl (fun c1 => ?_) (fun c1 => ?_)
  · have h2 := h.1 c1
    refine WP.run hP_185 1 (c' := (50, [none, none, some (.int l2), none], [.int l2], Wd f fl g gl hh v tx)) rfl ?_
    exact WP.retZ hP_185 rfl rfl h2.1 h2.2
  · have h3 := h.2 c1
    refine WP.run hP_185 2 (c' := (16, [some (.ref 74), some (.int l1), some (.int l2), none], [.int l1, .ref 74], Wd f fl g gl hh v tx)) rfl ?_
    refine WP.br hP_185 (q := l1 = 0) (t := 27) (f := 19) (L := [some (.ref 74), some (.int l1), some (.int l2), none]) (st := [.ref 74]) (w := Wd f fl g gl hh v tx) rfl (fun c4 => ?_) (fun c4 => ?_)
    · have h5 := h3.1 c4
      refine WP.run hP_185 1 (c' := (28, [some (.ref 74), some (.int l1), some (.int l2), none], [.int 0, .ref 74], Wd f fl g gl hh v tx)) rfl ?_
      refine WP.call hP_185 hP_186 (as := [.ref 74, .int 0]) (pc' := 31) (L' := [some (.ref 74), some (.int l1), some (.int l2), none]) (st' := []) (w1 := Wd f fl g gl hh v tx) rfl ⟨Nat.le_of_ble_eq_true rfl, Nat.le_of_ble_eq_true rfl⟩ rfl ?_
      exact h5
    · have h6 := h3.2 c4
      refine WP.run hP_185 1 (c' := (20, [some (.ref 74), some (.int l1), some (.int l2), none], [.int l2, .ref 74], Wd f fl g gl hh v tx)) rfl ?_
      refine WP.br hP_185 (q := ¬ l2 = 0) (t := 27) (f := 23) (L := [some (.ref 74), some (.int l1), some (.int l2), none]) (st := [.ref 74]) (w := Wd f fl g gl hh v tx) rfl (fun c7 => ?_) (fun c7 => ?_)
      · have h8 := h6.1 c7
        refine WP.run hP_185 1 (c' := (28, [some (.ref 74), some (.int l1), some (.int l2), none], [.int 0, .ref 74], Wd f fl g gl hh v tx)) rfl ?_
        refine WP.call hP_185 hP_186 (as := [.ref 74, .int 0]) (pc' := 31) (L' := [some (.ref 74), some (.int l1), some (.int l2), none]) (st' := []) (w1 := Wd f fl g gl hh v tx) rfl ⟨Nat.le_of_ble_eq_true rfl, Nat.le_of_ble_eq_true rfl⟩ rfl ?_
        exact h8
      · have h9 := h6.2 (Classical.not_not.mp c7)
        refine WP.run hP_185 2 (c' := (28, [some (.ref 74), some (.int l1), some (.int l2), none], [.int 1, .ref 74], Wd f fl g gl hh v tx)) rfl ?_
        refine WP.call hP_185 hP_186 (as := [.ref 74, .int 1]) (pc' := 31) (L' := [some (.ref 74), some (.int l1), some (.int l2), none]) (st' := []) (w1 := Wd f fl g gl hh v tx) rfl ⟨Nat.le_of_ble_eq_true rfl, Nat.le_of_ble_eq_true rfl⟩ rfl ?_
        exact h9

set_option maxRecDepth 20000 in
theorem b_m_testOf_31 (X : mm_X) (d : Nat) (f : Nat → Int32) (fl : Nat → Int64) (g : Nat → Nat → Int32) (gl : Nat → Nat → Int64) (hh : Nat → Nat → Option Nat) (v : Nat → Value) (tx : mm_W) (l1 : Int32) (l2 : Int32) (s0 : Int32)  (P : Option Value → mm_W → Prop)
    (h : ((¬ l2 = 0) → WP X (d) 185 (6, [some (.ref 74), some (.int l1), some (.int 1), none], [], Wd f fl g gl hh v tx) P) ∧
    ((l2 = 0) → (((s0 = 0) → WP X (d) 185 (6, [some (.ref 74), some (.int l1), some (.int 0), none], [], Wd f fl g gl hh v tx) P) ∧
      ((¬ s0 = 0) → WP X (d) 185 (6, [some (.ref 74), some (.int l1), some (.int 1), none], [], Wd f fl g gl hh v tx) P)))) :
    WP X (d) 185 (31, [some (.ref 74), some (.int l1), some (.int l2), none], [.int s0], Wd f fl g gl hh v tx) P := by
  refine WP.run hP_185 2 (c' := (33, [some (.ref 74), some (.int l1), some (.int l2), some (.int s0)], [.int l2], Wd f fl g gl hh v tx)) rfl ?_
  refine WP.br hP_185 (q := ¬ l2 = 0) (t := 40) (f := 36) (L := [some (.ref 74), some (.int l1), some (.int l2), some (.int s0)]) (st := []) (w := Wd f fl g gl hh v tx) rfl (fun c1 => ?_) (fun c1 => ?_)
  · have h2 := h.1 c1
    refine WP.run hP_185 2 (c' := (45, [some (.ref 74), some (.int l1), none, none], [.int 1], Wd f fl g gl hh v tx)) rfl ?_
    refine WP.run hP_185 2 (c' := (6, [some (.ref 74), some (.int l1), some (.int 1), none], [], Wd f fl g gl hh v tx)) rfl ?_
    exact h2
  · have h3 := h.2 (Classical.not_not.mp c1)
    refine WP.run hP_185 1 (c' := (37, [some (.ref 74), some (.int l1), some (.int l2), some (.int s0)], [.int s0], Wd f fl g gl hh v tx)) rfl ?_
    refine WP.br hP_185 (q := s0 = 0) (t := 44) (f := 40) (L := [some (.ref 74), some (.int l1), some (.int l2), some (.int s0)]) (st := []) (w := Wd f fl g gl hh v tx) rfl (fun c4 => ?_) (fun c4 => ?_)
    · have h5 := h3.1 c4
      refine WP.run hP_185 1 (c' := (45, [some (.ref 74), some (.int l1), none, none], [.int 0], Wd f fl g gl hh v tx)) rfl ?_
      refine WP.run hP_185 2 (c' := (6, [some (.ref 74), some (.int l1), some (.int 0), none], [], Wd f fl g gl hh v tx)) rfl ?_
      exact h5
    · have h6 := h3.2 c4
      refine WP.run hP_185 2 (c' := (45, [some (.ref 74), some (.int l1), none, none], [.int 1], Wd f fl g gl hh v tx)) rfl ?_
      refine WP.run hP_185 2 (c' := (6, [some (.ref 74), some (.int l1), some (.int 1), none], [], Wd f fl g gl hh v tx)) rfl ?_
      exact h6

set_option maxRecDepth 20000 in
theorem b_m_tells_0 (X : mm_X) (d : Nat) (f : Nat → Int32) (fl : Nat → Int64) (g : Nat → Nat → Int32) (gl : Nat → Nat → Int64) (hh : Nat → Nat → Option Nat) (v : Nat → Value) (tx : mm_W) (p0 : Int32) (p1 : Int32) (p2 : Int32)  (P : Option Value → mm_W → Prop)
    (h : ((¬ ((g 76) 59) = (-1)) → ((¬ (((60 : Int32) + ((g 76) 59)) < 0 ∨ 5667 ≤ ((60 : Int32) + ((g 76) 59)).toNatClampNeg)) ∧ WP X (d) 190 (61, [some (.ref 74), some (.int p0), some (.int p1), none, some (.long ((p2 : Int32).toInt64)), none, none, none, none, none, none], [], Wd (va_up (va_up (va_up f 4761 0) 4758 ((400 : Int32) * ((g 76) 59))) 4759 (((400 : Int32) * ((g 76) 59)) + ((g 76) ((60 : Int32) + ((g 76) 59)).toNatClampNeg))) fl g gl hh v tx) P)) ∧
    ((((g 76) 59) = (-1)) → P (some (.int p2)) (Wd f fl g gl hh v tx))) :
    WP X (d) 190 (0, [some (.ref 74), some (.int p0), some (.int p1), some (.int p2), none, none, none, none, none, none, none], [], Wd f fl g gl hh v tx) P := by
  refine WP.run hP_190 3 (c' := (6, [some (.ref 74), some (.int p0), some (.int p1), some (.int p2), none, none, none, none, none, none, none], [.int 59, .ref 76], Wd f fl g gl hh v tx)) rfl ?_
  refine WP.of (fun _ _ => Ex.iald hP_190 rfl (Wa_76 _ _ _ _ _ _ _) (by decide)) ?_
  show WP X _ 190 (7, [some (.ref 74), some (.int p0), some (.int p1), some (.int p2), none, none, none, none, none, none, none], [.int ((g 76) 59)], Wd f fl g gl hh v tx) P
  refine WP.run hP_190 1 (c' := (8, [some (.ref 74), some (.int p0), some (.int p1), some (.int p2), none, none, none, none, none, none, none], [.int (-1), .int ((g 76) 59)], Wd f fl g gl hh v tx)) rfl ?_
  refine WP.br hP_190 (q := ¬ ((g 76) 59) = (-1)) (t := 13) (f := 11) (L := [some (.ref 74), some (.int p0), some (.int p1), some (.int p2), none, none, none, none, none, none, none]) (st := []) (w := Wd f fl g gl hh v tx) rfl (fun c1 => ?_) (fun c1 => ?_)
  · have h2 := h.1 c1
    refine WP.run hP_190 5 (c' := (20, [some (.ref 74), some (.int p0), some (.int p1), some (.int p2), none, none, none, none, none, none, none], [.long ((p2 : Int32).toInt64)], Wd (va_up f 4761 0) fl g gl hh v tx)) rfl ?_
    refine WP.run hP_190 6 (c' := (32, [some (.ref 74), some (.int p0), some (.int p1), some (.int p2), some (.long ((p2 : Int32).toInt64)), none, none, none, none, none, none], [.int 59, .ref 76, .int 400, .ref 74], Wd (va_up f 4761 0) fl g gl hh v tx)) rfl ?_
    refine WP.of (fun _ _ => Ex.iald hP_190 rfl (Wa_76 _ _ _ _ _ _ _) (by decide)) ?_
    show WP X _ 190 (33, [some (.ref 74), some (.int p0), some (.int p1), some (.int p2), some (.long ((p2 : Int32).toInt64)), none, none, none, none, none, none], [.int ((g 76) 59), .int 400, .ref 74], Wd (va_up f 4761 0) fl g gl hh v tx) P
    refine WP.run hP_190 11 (c' := (54, [some (.ref 74), some (.int p0), some (.int p1), some (.int p2), some (.long ((p2 : Int32).toInt64)), none, none, none, none, none, none], [.int 59, .ref 76, .int 60, .ref 76, .int ((400 : Int32) * ((g 76) 59)), .ref 74], Wd (va_up (va_up f 4761 0) 4758 ((400 : Int32) * ((g 76) 59))) fl g gl hh v tx)) rfl ?_
    refine WP.of (fun _ _ => Ex.iald hP_190 rfl (Wa_76 _ _ _ _ _ _ _) (by decide)) ?_
    show WP X _ 190 (55, [some (.ref 74), some (.int p0), some (.int p1), some (.int p2), some (.long ((p2 : Int32).toInt64)), none, none, none, none, none, none], [.int ((g 76) 59), .int 60, .ref 76, .int ((400 : Int32) * ((g 76) 59)), .ref 74], Wd (va_up (va_up f 4761 0) 4758 ((400 : Int32) * ((g 76) 59))) fl g gl hh v tx) P
    refine WP.run hP_190 1 (c' := (56, [some (.ref 74), some (.int p0), some (.int p1), some (.int p2), some (.long ((p2 : Int32).toInt64)), none, none, none, none, none, none], [.int ((60 : Int32) + ((g 76) 59)), .ref 76, .int ((400 : Int32) * ((g 76) 59)), .ref 74], Wd (va_up (va_up f 4761 0) 4758 ((400 : Int32) * ((g 76) 59))) fl g gl hh v tx)) rfl ?_
    refine WP.of (fun _ _ => Ex.iald hP_190 rfl (Wa_76 _ _ _ _ _ _ _) h2.1) ?_
    have h3 := h2.2
    refine WP.run hP_190 2 (c' := (61, [some (.ref 74), some (.int p0), some (.int p1), some (.int p2), some (.long ((p2 : Int32).toInt64)), none, none, none, none, none, none], [], Wd (va_up (va_up (va_up f 4761 0) 4758 ((400 : Int32) * ((g 76) 59))) 4759 (((400 : Int32) * ((g 76) 59)) + ((g 76) ((60 : Int32) + ((g 76) 59)).toNatClampNeg))) fl g gl hh v tx)) rfl ?_
    refine WP.clr hP_190 (pc := 61) rfl ?_
    exact h3
  · have h4 := h.2 (Classical.not_not.mp c1)
    refine WP.run hP_190 1 (c' := (12, [some (.ref 74), some (.int p0), some (.int p1), some (.int p2), none, none, none, none, none, none, none], [.int p2], Wd f fl g gl hh v tx)) rfl ?_
    exact WP.retI hP_190 rfl rfl h4

set_option maxRecDepth 20000 in
theorem b_m_tells_61 (X : mm_X) (d : Nat) (f : Nat → Int32) (fl : Nat → Int64) (g : Nat → Nat → Int32) (gl : Nat → Nat → Int64) (hh : Nat → Nat → Option Nat) (v : Nat → Value) (tx : mm_W) (l1 : Int32) (l2 : Int32) (l4 : Int64)  (P : Option Value → mm_W → Prop)
    (h : (((f 4759) ≤ (f 4758)) → P (some (.int ((l4 : Int64).toInt32))) (Wd f fl g gl hh v tx)) ∧
    ((¬ ((f 4759) ≤ (f 4758))) → WP X (d) 178 (0, [some (.ref 74), some (.int (f 4758))], [], Wd f fl g gl hh v tx) (fun rv w2 => WP X (d + 1) 190 (80, [some (.ref 74), some (.int l1), some (.int l2), none, some (.long l4), none, none, none, none, none, none], rv.toList ++ [], w2) P))) :
    WP X (d + 1) 190 (61, [some (.ref 74), some (.int l1), some (.int l2), none, some (.long l4), none, none, none, none, none, none], [], Wd f fl g gl hh v tx) P := by
  refine WP.run hP_190 4 (c' := (69, [some (.ref 74), some (.int l1), some (.int l2), none, some (.long l4), none, none, none, none, none, none], [.int (f 4759), .int (f 4758)], Wd f fl g gl hh v tx)) rfl ?_
  refine WP.br hP_190 (q := (f 4759) ≤ (f 4758)) (t := 212) (f := 72) (L := [some (.ref 74), some (.int l1), some (.int l2), none, some (.long l4), none, none, none, none, none, none]) (st := []) (w := Wd f fl g gl hh v tx) rfl (fun c1 => ?_) (fun c1 => ?_)
  · have h2 := h.1 c1
    refine WP.run hP_190 2 (c' := (215, [none, none, none, none, some (.long l4), none, none, none, none, none, none], [.int ((l4 : Int64).toInt32)], Wd f fl g gl hh v tx)) rfl ?_
    exact WP.retI hP_190 rfl rfl h2
  · have h3 := h.2 c1
    refine WP.run hP_190 3 (c' := (77, [some (.ref 74), some (.int l1), some (.int l2), none, some (.long l4), none, none, none, none, none, none], [.int (f 4758), .ref 74], Wd f fl g gl hh v tx)) rfl ?_
    refine WP.call hP_190 hP_178 (as := [.ref 74, .int (f 4758)]) (pc' := 80) (L' := [some (.ref 74), some (.int l1), some (.int l2), none, some (.long l4), none, none, none, none, none, none]) (st' := []) (w1 := Wd f fl g gl hh v tx) rfl ⟨Nat.le_of_ble_eq_true rfl, Nat.le_of_ble_eq_true rfl⟩ rfl ?_
    exact h3

set_option maxRecDepth 20000 in
theorem b_m_tells_80 (X : mm_X) (d : Nat) (f : Nat → Int32) (fl : Nat → Int64) (g : Nat → Nat → Int32) (gl : Nat → Nat → Int64) (hh : Nat → Nat → Option Nat) (v : Nat → Value) (tx : mm_W) (l1 : Int32) (l2 : Int32) (l4 : Int64) (s0 : Int32)  (P : Option Value → mm_W → Prop)
    (h : ((¬ s0 = 3) → WP X (d) 181 (0, [some (.ref 74), some (.int 1), none, none, none, none, none], [], Wd (va_up (va_up f 4760 0) 4758 ((f 4758) + (1 : Int32))) fl g gl hh v tx) (fun rv w2 => WP X (d + 1) 190 (112, [some (.ref 74), some (.int l1), some (.int l2), none, some (.long l4), none, some (.int s0), none, none, none, none], rv.toList ++ [], w2) P)) ∧
    ((s0 = 3) → WP X (d + 1) 190 (112, [some (.ref 74), some (.int l1), some (.int l2), none, some (.long l4), none, some (.int s0), none, none, none, none], [.long 1], Wd (va_up (va_up f 4760 0) 4758 ((f 4758) + (1 : Int32))) fl g gl hh v tx) P)) :
    WP X (d + 1) 190 (80, [some (.ref 74), some (.int l1), some (.int l2), none, some (.long l4), none, none, none, none, none, none], [.int s0], Wd f fl g gl hh v tx) P := by
  refine WP.run hP_190 12 (c' := (100, [some (.ref 74), some (.int l1), some (.int l2), none, some (.long l4), none, some (.int s0), none, none, none, none], [.int 3, .int s0], Wd (va_up (va_up f 4760 0) 4758 ((f 4758) + (1 : Int32))) fl g gl hh v tx)) rfl ?_
  refine WP.br hP_190 (q := ¬ s0 = 3) (t := 107) (f := 103) (L := [some (.ref 74), some (.int l1), some (.int l2), none, some (.long l4), none, some (.int s0), none, none, none, none]) (st := []) (w := Wd (va_up (va_up f 4760 0) 4758 ((f 4758) + (1 : Int32))) fl g gl hh v tx) rfl (fun c1 => ?_) (fun c1 => ?_)
  · have h2 := h.1 c1
    refine WP.run hP_190 2 (c' := (109, [some (.ref 74), some (.int l1), some (.int l2), none, some (.long l4), none, some (.int s0), none, none, none, none], [.int 1, .ref 74], Wd (va_up (va_up f 4760 0) 4758 ((f 4758) + (1 : Int32))) fl g gl hh v tx)) rfl ?_
    refine WP.call hP_190 hP_181 (as := [.ref 74, .int 1]) (pc' := 112) (L' := [some (.ref 74), some (.int l1), some (.int l2), none, some (.long l4), none, some (.int s0), none, none, none, none]) (st' := []) (w1 := Wd (va_up (va_up f 4760 0) 4758 ((f 4758) + (1 : Int32))) fl g gl hh v tx) rfl ⟨Nat.le_of_ble_eq_true rfl, Nat.le_of_ble_eq_true rfl⟩ rfl ?_
    exact h2
  · have h3 := h.2 (Classical.not_not.mp c1)
    refine WP.run hP_190 2 (c' := (112, [some (.ref 74), some (.int l1), some (.int l2), none, some (.long l4), none, some (.int s0), none, none, none, none], [.long 1], Wd (va_up (va_up f 4760 0) 4758 ((f 4758) + (1 : Int32))) fl g gl hh v tx)) rfl ?_
    exact h3

set_option maxRecDepth 20000 in
theorem b_m_tells_112 (X : mm_X) (d : Nat) (f : Nat → Int32) (fl : Nat → Int64) (g : Nat → Nat → Int32) (gl : Nat → Nat → Int64) (hh : Nat → Nat → Option Nat) (v : Nat → Value) (tx : mm_W) (l1 : Int32) (l2 : Int32) (l4 : Int64) (l6 : Int32) (s0 : Int64)  (P : Option Value → mm_W → Prop)
    (h : WP X (d) 179 (0, [some (.ref 74), some (.int 4), none], [], Wd (va_up f 4760 0) fl g gl hh v tx) (fun rv w2 => WP X (d + 1) 190 (130, [some (.ref 74), some (.int l1), some (.int l2), none, some (.long l4), none, some (.int l6), some (.long s0), none, some (.int (f 4760)), none], rv.toList ++ [], w2) P)) :
    WP X (d + 1) 190 (112, [some (.ref 74), some (.int l1), some (.int l2), none, some (.long l4), none, some (.int l6), none, none, none, none], [.long s0], Wd f fl g gl hh v tx) P := by
  refine WP.run hP_190 3 (c' := (118, [some (.ref 74), some (.int l1), some (.int l2), none, some (.long l4), none, some (.int l6), some (.long s0), none, none, none], [.int (f 4760)], Wd f fl g gl hh v tx)) rfl ?_
  refine WP.run hP_190 6 (c' := (127, [some (.ref 74), some (.int l1), some (.int l2), none, some (.long l4), none, some (.int l6), some (.long s0), none, some (.int (f 4760)), none], [.int 4, .ref 74], Wd (va_up f 4760 0) fl g gl hh v tx)) rfl ?_
  refine WP.call hP_190 hP_179 (as := [.ref 74, .int 4]) (pc' := 130) (L' := [some (.ref 74), some (.int l1), some (.int l2), none, some (.long l4), none, some (.int l6), some (.long s0), none, some (.int (f 4760)), none]) (st' := []) (w1 := Wd (va_up f 4760 0) fl g gl hh v tx) rfl ⟨Nat.le_of_ble_eq_true rfl, Nat.le_of_ble_eq_true rfl⟩ rfl ?_
  exact h

set_option maxRecDepth 20000 in
theorem b_m_tells_130 (X : mm_X) (d : Nat) (f : Nat → Int32) (fl : Nat → Int64) (g : Nat → Nat → Int32) (gl : Nat → Nat → Int64) (hh : Nat → Nat → Option Nat) (v : Nat → Value) (tx : mm_W) (l1 : Int32) (l2 : Int32) (l4 : Int64) (l6 : Int32) (l7 : Int64) (l9 : Int32) (s0 : Int32)  (P : Option Value → mm_W → Prop)
    (h : ((s0 = 0) → WP X (d + 1) 190 (141, [some (.ref 74), some (.int l1), some (.int l2), none, some (.long l4), none, some (.int l6), some (.long l7), none, some (.int l9), none], [], Wd f fl g gl hh v tx) P) ∧
    ((¬ s0 = 0) → WP X (d) 185 (0, [some (.ref 74), some (.int 1), none, none], [], Wd f fl g gl hh v tx) (fun rv w2 => WP X (d + 1) 190 (138, [some (.ref 74), some (.int l1), some (.int l2), none, some (.long l4), none, some (.int l6), some (.long l7), none, some (.int l9), none], rv.toList ++ [], w2) P))) :
    WP X (d + 1) 190 (130, [some (.ref 74), some (.int l1), some (.int l2), none, some (.long l4), none, some (.int l6), some (.long l7), none, some (.int l9), none], [.int s0], Wd f fl g gl hh v tx) P := by
  refine WP.br hP_190 (q := s0 = 0) (t := 141) (f := 133) (L := [some (.ref 74), some (.int l1), some (.int l2), none, some (.long l4), none, some (.int l6), some (.long l7), none, some (.int l9), none]) (st := []) (w := Wd f fl g gl hh v tx) rfl (fun c1 => ?_) (fun c1 => ?_)
  · have h2 := h.1 c1
    exact h2
  · have h3 := h.2 c1
    refine WP.run hP_190 2 (c' := (135, [some (.ref 74), some (.int l1), some (.int l2), none, some (.long l4), none, some (.int l6), some (.long l7), none, some (.int l9), none], [.int 1, .ref 74], Wd f fl g gl hh v tx)) rfl ?_
    refine WP.call hP_190 hP_185 (as := [.ref 74, .int 1]) (pc' := 138) (L' := [some (.ref 74), some (.int l1), some (.int l2), none, some (.long l4), none, some (.int l6), some (.long l7), none, some (.int l9), none]) (st' := []) (w1 := Wd f fl g gl hh v tx) rfl ⟨Nat.le_of_ble_eq_true rfl, Nat.le_of_ble_eq_true rfl⟩ rfl ?_
    exact h3

set_option maxRecDepth 20000 in
theorem b_m_tells_141 (X : mm_X) (d : Nat) (f : Nat → Int32) (fl : Nat → Int64) (g : Nat → Nat → Int32) (gl : Nat → Nat → Int64) (hh : Nat → Nat → Option Nat) (v : Nat → Value) (tx : mm_W) (l1 : Int32) (l2 : Int32) (l4 : Int64) (l6 : Int32) (l7 : Int64) (l9 : Int32)  (P : Option Value → mm_W → Prop)
    (h : WP X (d) 190 (146, [some (.ref 74), some (.int l1), some (.int l2), none, some (.long l4), none, some (.int l6), some (.long l7), none, some (.int l9), none], [.int 1], Wd f fl g gl hh v tx) P) :
    WP X (d) 190 (141, [some (.ref 74), some (.int l1), some (.int l2), none, some (.long l4), none, some (.int l6), some (.long l7), none, some (.int l9), none], [], Wd f fl g gl hh v tx) P := by
  refine WP.run hP_190 2 (c' := (146, [some (.ref 74), some (.int l1), some (.int l2), none, some (.long l4), none, some (.int l6), some (.long l7), none, some (.int l9), none], [.int 1], Wd f fl g gl hh v tx)) rfl ?_
  exact h

set_option maxRecDepth 20000 in
theorem b_m_tells_138 (X : mm_X) (d : Nat) (f : Nat → Int32) (fl : Nat → Int64) (g : Nat → Nat → Int32) (gl : Nat → Nat → Int64) (hh : Nat → Nat → Option Nat) (v : Nat → Value) (tx : mm_W) (l1 : Int32) (l2 : Int32) (l4 : Int64) (l6 : Int32) (l7 : Int64) (l9 : Int32) (s0 : Int32)  (P : Option Value → mm_W → Prop)
    (h : ((s0 = 0) → WP X (d) 190 (146, [some (.ref 74), some (.int l1), some (.int l2), none, some (.long l4), none, some (.int l6), some (.long l7), none, some (.int l9), none], [.int 0], Wd f fl g gl hh v tx) P) ∧
    ((¬ s0 = 0) → WP X (d) 190 (141, [some (.ref 74), some (.int l1), some (.int l2), none, some (.long l4), none, some (.int l6), some (.long l7), none, some (.int l9), none], [], Wd f fl g gl hh v tx) P)) :
    WP X (d) 190 (138, [some (.ref 74), some (.int l1), some (.int l2), none, some (.long l4), none, some (.int l6), some (.long l7), none, some (.int l9), none], [.int s0], Wd f fl g gl hh v tx) P := by
  refine WP.br hP_190 (q := s0 = 0) (t := 145) (f := 141) (L := [some (.ref 74), some (.int l1), some (.int l2), none, some (.long l4), none, some (.int l6), some (.long l7), none, some (.int l9), none]) (st := []) (w := Wd f fl g gl hh v tx) rfl (fun c1 => ?_) (fun c1 => ?_)
  · have h2 := h.1 c1
    refine WP.run hP_190 1 (c' := (146, [some (.ref 74), some (.int l1), some (.int l2), none, some (.long l4), none, some (.int l6), some (.long l7), none, some (.int l9), none], [.int 0], Wd f fl g gl hh v tx)) rfl ?_
    exact h2
  · have h3 := h.2 c1
    exact h3

set_option maxRecDepth 20000 in
theorem b_m_tells_146 (X : mm_X) (d : Nat) (f : Nat → Int32) (fl : Nat → Int64) (g : Nat → Nat → Int32) (gl : Nat → Nat → Int64) (hh : Nat → Nat → Option Nat) (v : Nat → Value) (tx : mm_W) (l1 : Int32) (l2 : Int32) (l4 : Int64) (l6 : Int32) (l7 : Int64) (l9 : Int32) (s0 : Int32)  (P : Option Value → mm_W → Prop)
    (h : ((¬ l6 = l1) → WP X (d) 190 (61, [some (.ref 74), some (.int l1), some (.int l2), none, some (.long l4), none, none, none, none, none, none], [], Wd (va_up f 4758 ((f 4758) + (1 : Int32))) fl g gl hh v tx) P) ∧
    ((l6 = l1) → (((s0 = 0) → WP X (d) 190 (61, [some (.ref 74), some (.int l1), some (.int l2), none, some (.long l4), none, none, none, none, none, none], [], Wd (va_up f 4758 ((f 4758) + (1 : Int32))) fl g gl hh v tx) P) ∧
      ((¬ s0 = 0) → (((¬ (f 4760) = 0) → WP X (d) 190 (61, [some (.ref 74), some (.int l1), some (.int l2), none, some (.long l4), none, none, none, none, none, none], [], Wd (va_up f 4758 ((f 4758) + (1 : Int32))) fl g gl hh v tx) P) ∧
        (((f 4760) = 0) → (((¬ l9 = 0) → WP X (d) 190 (61, [some (.ref 74), some (.int l1), some (.int l2), none, some (.long l4), none, none, none, none, none, none], [], Wd (va_up f 4758 ((f 4758) + (1 : Int32))) fl g gl hh v tx) P) ∧
          ((l9 = 0) → (((0 ≤ (lg_cmp l7 0)) → ((((lg_cmp l7 ((l2 : Int32).toInt64)) ≤ 0) → WP X (d) 190 (61, [some (.ref 74), some (.int l1), some (.int l2), none, some (.long l7), none, none, none, none, none, none], [], Wd (va_up f 4758 ((f 4758) + (1 : Int32))) fl g gl hh v tx) P) ∧
              ((¬ ((lg_cmp l7 ((l2 : Int32).toInt64)) ≤ 0)) → WP X (d) 190 (61, [some (.ref 74), some (.int l1), some (.int l2), none, some (.long ((l2 : Int32).toInt64)), none, none, none, none, none, none], [], Wd (va_up f 4758 ((f 4758) + (1 : Int32))) fl g gl hh v tx) P))) ∧
            ((¬ (0 ≤ (lg_cmp l7 0))) → WP X (d) 190 (61, [some (.ref 74), some (.int l1), some (.int l2), none, some (.long 0), none, none, none, none, none, none], [], Wd (va_up f 4758 ((f 4758) + (1 : Int32))) fl g gl hh v tx) P)))))))))) :
    WP X (d) 190 (146, [some (.ref 74), some (.int l1), some (.int l2), none, some (.long l4), none, some (.int l6), some (.long l7), none, some (.int l9), none], [.int s0], Wd f fl g gl hh v tx) P := by
  refine WP.run hP_190 3 (c' := (151, [some (.ref 74), some (.int l1), some (.int l2), none, some (.long l4), none, some (.int l6), some (.long l7), none, some (.int l9), some (.int s0)], [.int l1, .int l6], Wd f fl g gl hh v tx)) rfl ?_
  refine WP.br hP_190 (q := ¬ l6 = l1) (t := 199) (f := 154) (L := [some (.ref 74), some (.int l1), some (.int l2), none, some (.long l4), none, some (.int l6), some (.long l7), none, some (.int l9), some (.int s0)]) (st := []) (w := Wd f fl g gl hh v tx) rfl (fun c1 => ?_) (fun c1 => ?_)
  · have h2 := h.1 c1
    refine WP.run hP_190 7 (c' := (61, [some (.ref 74), some (.int l1), some (.int l2), none, some (.long l4), none, none, none, none, none, none], [], Wd (va_up f 4758 ((f 4758) + (1 : Int32))) fl g gl hh v tx)) rfl ?_
    exact h2
  · have h3 := h.2 (Classical.not_not.mp c1)
    refine WP.run hP_190 1 (c' := (156, [some (.ref 74), some (.int l1), some (.int l2), none, some (.long l4), none, some (.int l6), some (.long l7), none, some (.int l9), some (.int s0)], [.int s0], Wd f fl g gl hh v tx)) rfl ?_
    refine WP.br hP_190 (q := s0 = 0) (t := 199) (f := 159) (L := [some (.ref 74), some (.int l1), some (.int l2), none, some (.long l4), none, some (.int l6), some (.long l7), none, some (.int l9), some (.int s0)]) (st := []) (w := Wd f fl g gl hh v tx) rfl (fun c4 => ?_) (fun c4 => ?_)
    · have h5 := h3.1 c4
      refine WP.run hP_190 7 (c' := (61, [some (.ref 74), some (.int l1), some (.int l2), none, some (.long l4), none, none, none, none, none, none], [], Wd (va_up f 4758 ((f 4758) + (1 : Int32))) fl g gl hh v tx)) rfl ?_
      exact h5
    · have h6 := h3.2 c4
      refine WP.run hP_190 2 (c' := (163, [some (.ref 74), some (.int l1), some (.int l2), none, some (.long l4), none, some (.int l6), some (.long l7), none, some (.int l9), some (.int s0)], [.int (f 4760)], Wd f fl g gl hh v tx)) rfl ?_
      refine WP.br hP_190 (q := ¬ (f 4760) = 0) (t := 199) (f := 166) (L := [some (.ref 74), some (.int l1), some (.int l2), none, some (.long l4), none, some (.int l6), some (.long l7), none, some (.int l9), some (.int s0)]) (st := []) (w := Wd f fl g gl hh v tx) rfl (fun c7 => ?_) (fun c7 => ?_)
      · have h8 := h6.1 c7
        refine WP.run hP_190 7 (c' := (61, [some (.ref 74), some (.int l1), some (.int l2), none, some (.long l4), none, none, none, none, none, none], [], Wd (va_up f 4758 ((f 4758) + (1 : Int32))) fl g gl hh v tx)) rfl ?_
        exact h8
      · have h9 := h6.2 (Classical.not_not.mp c7)
        refine WP.run hP_190 1 (c' := (168, [some (.ref 74), some (.int l1), some (.int l2), none, some (.long l4), none, some (.int l6), some (.long l7), none, some (.int l9), some (.int s0)], [.int l9], Wd f fl g gl hh v tx)) rfl ?_
        refine WP.br hP_190 (q := ¬ l9 = 0) (t := 199) (f := 171) (L := [some (.ref 74), some (.int l1), some (.int l2), none, some (.long l4), none, some (.int l6), some (.long l7), none, some (.int l9), some (.int s0)]) (st := []) (w := Wd f fl g gl hh v tx) rfl (fun c10 => ?_) (fun c10 => ?_)
        · have h11 := h9.1 c10
          refine WP.run hP_190 7 (c' := (61, [some (.ref 74), some (.int l1), some (.int l2), none, some (.long l4), none, none, none, none, none, none], [], Wd (va_up f 4758 ((f 4758) + (1 : Int32))) fl g gl hh v tx)) rfl ?_
          exact h11
        · have h12 := h9.2 (Classical.not_not.mp c10)
          refine WP.run hP_190 3 (c' := (175, [some (.ref 74), some (.int l1), some (.int l2), none, some (.long l4), none, some (.int l6), some (.long l7), none, some (.int l9), some (.int s0)], [.int (lg_cmp l7 0)], Wd f fl g gl hh v tx)) rfl ?_
          refine WP.br hP_190 (q := 0 ≤ (lg_cmp l7 0)) (t := 182) (f := 178) (L := [some (.ref 74), some (.int l1), some (.int l2), none, some (.long l4), none, some (.int l6), some (.long l7), none, some (.int l9), some (.int s0)]) (st := []) (w := Wd f fl g gl hh v tx) rfl (fun c13 => ?_) (fun c13 => ?_)
          · have h14 := h12.1 c13
            refine WP.run hP_190 4 (c' := (187, [some (.ref 74), some (.int l1), some (.int l2), none, none, none, none, some (.long l7), none, none, none], [.int (lg_cmp l7 ((l2 : Int32).toInt64))], Wd f fl g gl hh v tx)) rfl ?_
            refine WP.br hP_190 (q := (lg_cmp l7 ((l2 : Int32).toInt64)) ≤ 0) (t := 195) (f := 190) (L := [some (.ref 74), some (.int l1), some (.int l2), none, none, none, none, some (.long l7), none, none, none]) (st := []) (w := Wd f fl g gl hh v tx) rfl (fun c15 => ?_) (fun c15 => ?_)
            · have h16 := h14.1 c15
              refine WP.run hP_190 1 (c' := (197, [some (.ref 74), some (.int l1), some (.int l2), none, none, none, none, some (.long l7), none, none, none], [.long l7], Wd f fl g gl hh v tx)) rfl ?_
              refine WP.run hP_190 1 (c' := (199, [some (.ref 74), some (.int l1), some (.int l2), none, some (.long l7), none, none, none, none, none, none], [], Wd f fl g gl hh v tx)) rfl ?_
              refine WP.run hP_190 7 (c' := (61, [some (.ref 74), some (.int l1), some (.int l2), none, some (.long l7), none, none, none, none, none, none], [], Wd (va_up f 4758 ((f 4758) + (1 : Int32))) fl g gl hh v tx)) rfl ?_
              exact h16
            · have h17 := h14.2 c15
              refine WP.run hP_190 4 (c' := (199, [some (.ref 74), some (.int l1), some (.int l2), none, some (.long ((l2 : Int32).toInt64)), none, none, none, none, none, none], [], Wd f fl g gl hh v tx)) rfl ?_
              refine WP.run hP_190 7 (c' := (61, [some (.ref 74), some (.int l1), some (.int l2), none, some (.long ((l2 : Int32).toInt64)), none, none, none, none, none, none], [], Wd (va_up f 4758 ((f 4758) + (1 : Int32))) fl g gl hh v tx)) rfl ?_
              exact h17
          · have h18 := h12.2 c13
            refine WP.run hP_190 3 (c' := (199, [some (.ref 74), some (.int l1), some (.int l2), none, some (.long 0), none, none, none, none, none, none], [], Wd f fl g gl hh v tx)) rfl ?_
            refine WP.run hP_190 7 (c' := (61, [some (.ref 74), some (.int l1), some (.int l2), none, some (.long 0), none, none, none, none, none, none], [], Wd (va_up f 4758 ((f 4758) + (1 : Int32))) fl g gl hh v tx)) rfl ?_
            exact h18

set_option maxRecDepth 20000 in
theorem b_m_weighsFor_0 (X : mm_X) (d : Nat) (f : Nat → Int32) (fl : Nat → Int64) (g : Nat → Nat → Int32) (gl : Nat → Nat → Int64) (hh : Nat → Nat → Option Nat) (v : Nat → Value) (tx : mm_W) (p0 : Int32) (p1 : Int32)  (P : Option Value → mm_W → Prop)
    (h : (¬ (((39 : Int32) + p1) < 0 ∨ 5667 ≤ ((39 : Int32) + p1).toNatClampNeg)) ∧ ((¬ (((13 : Int32) + p0) < 0 ∨ 5667 ≤ ((13 : Int32) + p0).toNatClampNeg)) ∧ ((¬ (((19 : Int32) + p0) < 0 ∨ 5667 ≤ ((19 : Int32) + p0).toNatClampNeg)) ∧ WP X (d) 189 (0, [some (.ref 74), some (.int p0), some (.int p1), some (.int ((g 76) ((39 : Int32) + p1).toNatClampNeg)), some (.int ((g 76) ((13 : Int32) + p0).toNatClampNeg)), some (.int ((g 76) ((19 : Int32) + p0).toNatClampNeg))], [], Wd f fl g gl hh v tx) (fun rv w2 => WP X (d + 1) 191 (33, [some (.ref 74), some (.int p0), some (.int p1)], rv.toList ++ [], w2) P)))) :
    WP X (d + 1) 191 (0, [some (.ref 74), some (.int p0), some (.int p1)], [], Wd f fl g gl hh v tx) P := by
  refine WP.run hP_191 8 (c' := (11, [some (.ref 74), some (.int p0), some (.int p1)], [.int ((39 : Int32) + p1), .ref 76, .int p1, .int p0, .ref 74], Wd f fl g gl hh v tx)) rfl ?_
  refine WP.of (fun _ _ => Ex.iald hP_191 rfl (Wa_76 _ _ _ _ _ _ _) h.1) ?_
  have h1 := h.2
  refine WP.run hP_191 5 (c' := (20, [some (.ref 74), some (.int p0), some (.int p1)], [.int ((13 : Int32) + p0), .ref 76, .int ((g 76) ((39 : Int32) + p1).toNatClampNeg), .int p1, .int p0, .ref 74], Wd f fl g gl hh v tx)) rfl ?_
  refine WP.of (fun _ _ => Ex.iald hP_191 rfl (Wa_76 _ _ _ _ _ _ _) h1.1) ?_
  have h2 := h1.2
  refine WP.run hP_191 5 (c' := (29, [some (.ref 74), some (.int p0), some (.int p1)], [.int ((19 : Int32) + p0), .ref 76, .int ((g 76) ((13 : Int32) + p0).toNatClampNeg), .int ((g 76) ((39 : Int32) + p1).toNatClampNeg), .int p1, .int p0, .ref 74], Wd f fl g gl hh v tx)) rfl ?_
  refine WP.of (fun _ _ => Ex.iald hP_191 rfl (Wa_76 _ _ _ _ _ _ _) h2.1) ?_
  have h3 := h2.2
  refine WP.call hP_191 hP_189 (as := [.ref 74, .int p0, .int p1, .int ((g 76) ((39 : Int32) + p1).toNatClampNeg), .int ((g 76) ((13 : Int32) + p0).toNatClampNeg), .int ((g 76) ((19 : Int32) + p0).toNatClampNeg)]) (pc' := 33) (L' := [some (.ref 74), some (.int p0), some (.int p1)]) (st' := []) (w1 := Wd f fl g gl hh v tx) rfl ⟨Nat.le_of_ble_eq_true rfl, Nat.le_of_ble_eq_true rfl⟩ rfl ?_
  exact h3

set_option maxRecDepth 20000 in
theorem b_m_weighsFor_33 (X : mm_X) (d : Nat) (f : Nat → Int32) (fl : Nat → Int64) (g : Nat → Nat → Int32) (gl : Nat → Nat → Int64) (hh : Nat → Nat → Option Nat) (v : Nat → Value) (tx : mm_W) (l1 : Int32) (l2 : Int32)  (P : Option Value → mm_W → Prop)
    (h : (¬ (((31 : Int32) + l2) < 0 ∨ 5667 ≤ ((31 : Int32) + l2).toNatClampNeg)) ∧ WP X (d) 190 (0, [some (.ref 74), some (.int 1), some (.int 99), some (.int ((g 76) ((31 : Int32) + l2).toNatClampNeg)), none, none, none, none, none, none, none], [], Wd f fl g gl hh v tx) (fun rv w2 => WP X (d + 1) 191 (49, [some (.ref 74), some (.int l1), some (.int l2)], rv.toList ++ [], w2) P)) :
    WP X (d + 1) 191 (33, [some (.ref 74), some (.int l1), some (.int l2)], [], Wd f fl g gl hh v tx) P := by
  refine WP.run hP_191 8 (c' := (45, [some (.ref 74), some (.int l1), some (.int l2)], [.int ((31 : Int32) + l2), .ref 76, .int 99, .int 1, .ref 74], Wd f fl g gl hh v tx)) rfl ?_
  refine WP.of (fun _ _ => Ex.iald hP_191 rfl (Wa_76 _ _ _ _ _ _ _) h.1) ?_
  have h1 := h.2
  refine WP.call hP_191 hP_190 (as := [.ref 74, .int 1, .int 99, .int ((g 76) ((31 : Int32) + l2).toNatClampNeg)]) (pc' := 49) (L' := [some (.ref 74), some (.int l1), some (.int l2)]) (st' := []) (w1 := Wd f fl g gl hh v tx) rfl ⟨Nat.le_of_ble_eq_true rfl, Nat.le_of_ble_eq_true rfl⟩ rfl ?_
  exact h1

set_option maxRecDepth 20000 in
theorem b_m_weighsFor_49 (X : mm_X) (d : Nat) (f : Nat → Int32) (fl : Nat → Int64) (g : Nat → Nat → Int32) (gl : Nat → Nat → Int64) (hh : Nat → Nat → Option Nat) (v : Nat → Value) (tx : mm_W) (l1 : Int32) (l2 : Int32) (s0 : Int32)  (P : Option Value → mm_W → Prop)
    (h : P (some (.int s0)) (Wd f fl g gl hh v tx)) :
    WP X (d) 191 (49, [some (.ref 74), some (.int l1), some (.int l2)], [.int s0], Wd f fl g gl hh v tx) P := by
  exact WP.retI hP_191 rfl rfl h

set_option maxRecDepth 20000 in
theorem b_m_goesFar_0 (X : mm_X) (d : Nat) (f : Nat → Int32) (fl : Nat → Int64) (g : Nat → Nat → Int32) (gl : Nat → Nat → Int64) (hh : Nat → Nat → Option Nat) (v : Nat → Value) (tx : mm_W) (p0 : Int32) (p1 : Int32) (p2 : Int32)  (P : Option Value → mm_W → Prop)
    (h : WP X (d) 189 (0, [some (.ref 74), some (.int p0), some (.int (-1)), some (.int 0), some (.int p1), some (.int p2)], [], Wd f fl g gl hh v tx) (fun rv w2 => WP X (d + 1) 192 (9, [some (.ref 74), some (.int p0), some (.int p1), some (.int p2)], rv.toList ++ [], w2) P)) :
    WP X (d + 1) 192 (0, [some (.ref 74), some (.int p0), some (.int p1), some (.int p2)], [], Wd f fl g gl hh v tx) P := by
  refine WP.run hP_192 6 (c' := (6, [some (.ref 74), some (.int p0), some (.int p1), some (.int p2)], [.int p2, .int p1, .int 0, .int (-1), .int p0, .ref 74], Wd f fl g gl hh v tx)) rfl ?_
  refine WP.call hP_192 hP_189 (as := [.ref 74, .int p0, .int (-1), .int 0, .int p1, .int p2]) (pc' := 9) (L' := [some (.ref 74), some (.int p0), some (.int p1), some (.int p2)]) (st' := []) (w1 := Wd f fl g gl hh v tx) rfl ⟨Nat.le_of_ble_eq_true rfl, Nat.le_of_ble_eq_true rfl⟩ rfl ?_
  exact h

set_option maxRecDepth 20000 in
theorem b_m_goesFar_9 (X : mm_X) (d : Nat) (f : Nat → Int32) (fl : Nat → Int64) (g : Nat → Nat → Int32) (gl : Nat → Nat → Int64) (hh : Nat → Nat → Option Nat) (v : Nat → Value) (tx : mm_W) (l1 : Int32) (l2 : Int32) (l3 : Int32)  (P : Option Value → mm_W → Prop)
    (h : WP X (d) 190 (0, [some (.ref 74), some (.int 2), some (.int 4), some (.int 1), none, none, none, none, none, none, none], [], Wd f fl g gl hh v tx) (fun rv w2 => WP X (d + 1) 192 (16, [some (.ref 74), some (.int l1), some (.int l2), some (.int l3)], rv.toList ++ [], w2) P)) :
    WP X (d + 1) 192 (9, [some (.ref 74), some (.int l1), some (.int l2), some (.int l3)], [], Wd f fl g gl hh v tx) P := by
  refine WP.run hP_192 4 (c' := (13, [some (.ref 74), some (.int l1), some (.int l2), some (.int l3)], [.int 1, .int 4, .int 2, .ref 74], Wd f fl g gl hh v tx)) rfl ?_
  refine WP.call hP_192 hP_190 (as := [.ref 74, .int 2, .int 4, .int 1]) (pc' := 16) (L' := [some (.ref 74), some (.int l1), some (.int l2), some (.int l3)]) (st' := []) (w1 := Wd f fl g gl hh v tx) rfl ⟨Nat.le_of_ble_eq_true rfl, Nat.le_of_ble_eq_true rfl⟩ rfl ?_
  exact h

set_option maxRecDepth 20000 in
theorem b_m_goesFar_16 (X : mm_X) (d : Nat) (f : Nat → Int32) (fl : Nat → Int64) (g : Nat → Nat → Int32) (gl : Nat → Nat → Int64) (hh : Nat → Nat → Option Nat) (v : Nat → Value) (tx : mm_W) (l1 : Int32) (l2 : Int32) (l3 : Int32) (s0 : Int32)  (P : Option Value → mm_W → Prop)
    (h : P (some (.int s0)) (Wd f fl g gl hh v tx)) :
    WP X (d) 192 (16, [some (.ref 74), some (.int l1), some (.int l2), some (.int l3)], [.int s0], Wd f fl g gl hh v tx) P := by
  exact WP.retI hP_192 rfl rfl h

set_option maxRecDepth 20000 in
theorem b_m_isBarred_0 (X : mm_X) (d : Nat) (f : Nat → Int32) (fl : Nat → Int64) (g : Nat → Nat → Int32) (gl : Nat → Nat → Int64) (hh : Nat → Nat → Option Nat) (v : Nat → Value) (tx : mm_W) (p0 : Int32) (p1 : Int32) (p2 : Int32) (p3 : Int32)  (P : Option Value → mm_W → Prop)
    (h : WP X (d) 189 (0, [some (.ref 74), some (.int p0), some (.int (-1)), some (.int p1), some (.int p2), some (.int p3)], [], Wd f fl g gl hh v tx) (fun rv w2 => WP X (d + 1) 193 (10, [some (.ref 74), some (.int p0), some (.int p1), some (.int p2), some (.int p3)], rv.toList ++ [], w2) P)) :
    WP X (d + 1) 193 (0, [some (.ref 74), some (.int p0), some (.int p1), some (.int p2), some (.int p3)], [], Wd f fl g gl hh v tx) P := by
  refine WP.run hP_193 6 (c' := (7, [some (.ref 74), some (.int p0), some (.int p1), some (.int p2), some (.int p3)], [.int p3, .int p2, .int p1, .int (-1), .int p0, .ref 74], Wd f fl g gl hh v tx)) rfl ?_
  refine WP.call hP_193 hP_189 (as := [.ref 74, .int p0, .int (-1), .int p1, .int p2, .int p3]) (pc' := 10) (L' := [some (.ref 74), some (.int p0), some (.int p1), some (.int p2), some (.int p3)]) (st' := []) (w1 := Wd f fl g gl hh v tx) rfl ⟨Nat.le_of_ble_eq_true rfl, Nat.le_of_ble_eq_true rfl⟩ rfl ?_
  exact h

set_option maxRecDepth 20000 in
theorem b_m_isBarred_10 (X : mm_X) (d : Nat) (f : Nat → Int32) (fl : Nat → Int64) (g : Nat → Nat → Int32) (gl : Nat → Nat → Int64) (hh : Nat → Nat → Option Nat) (v : Nat → Value) (tx : mm_W) (l1 : Int32) (l2 : Int32) (l3 : Int32) (l4 : Int32)  (P : Option Value → mm_W → Prop)
    (h : WP X (d) 190 (0, [some (.ref 74), some (.int 3), some (.int 1), some (.int 0), none, none, none, none, none, none, none], [], Wd f fl g gl hh v tx) (fun rv w2 => WP X (d + 1) 193 (17, [some (.ref 74), some (.int l1), some (.int l2), some (.int l3), some (.int l4)], rv.toList ++ [], w2) P)) :
    WP X (d + 1) 193 (10, [some (.ref 74), some (.int l1), some (.int l2), some (.int l3), some (.int l4)], [], Wd f fl g gl hh v tx) P := by
  refine WP.run hP_193 4 (c' := (14, [some (.ref 74), some (.int l1), some (.int l2), some (.int l3), some (.int l4)], [.int 0, .int 1, .int 3, .ref 74], Wd f fl g gl hh v tx)) rfl ?_
  refine WP.call hP_193 hP_190 (as := [.ref 74, .int 3, .int 1, .int 0]) (pc' := 17) (L' := [some (.ref 74), some (.int l1), some (.int l2), some (.int l3), some (.int l4)]) (st' := []) (w1 := Wd f fl g gl hh v tx) rfl ⟨Nat.le_of_ble_eq_true rfl, Nat.le_of_ble_eq_true rfl⟩ rfl ?_
  exact h

set_option maxRecDepth 20000 in
theorem b_m_isBarred_17 (X : mm_X) (d : Nat) (f : Nat → Int32) (fl : Nat → Int64) (g : Nat → Nat → Int32) (gl : Nat → Nat → Int64) (hh : Nat → Nat → Option Nat) (v : Nat → Value) (tx : mm_W) (l1 : Int32) (l2 : Int32) (l3 : Int32) (l4 : Int32) (s0 : Int32)  (P : Option Value → mm_W → Prop)
    (h : ((¬ s0 = 1) → P (some (.int 0)) (Wd f fl g gl hh v tx)) ∧
    ((s0 = 1) → P (some (.int 1)) (Wd f fl g gl hh v tx))) :
    WP X (d) 193 (17, [some (.ref 74), some (.int l1), some (.int l2), some (.int l3), some (.int l4)], [.int s0], Wd f fl g gl hh v tx) P := by
  refine WP.run hP_193 1 (c' := (18, [some (.ref 74), some (.int l1), some (.int l2), some (.int l3), some (.int l4)], [.int 1, .int s0], Wd f fl g gl hh v tx)) rfl ?_
  refine WP.br hP_193 (q := ¬ s0 = 1) (t := 25) (f := 21) (L := [some (.ref 74), some (.int l1), some (.int l2), some (.int l3), some (.int l4)]) (st := []) (w := Wd f fl g gl hh v tx) rfl (fun c1 => ?_) (fun c1 => ?_)
  · have h2 := h.1 c1
    refine WP.run hP_193 1 (c' := (26, [none, none, none, none, none], [.int 0], Wd f fl g gl hh v tx)) rfl ?_
    exact WP.ret hP_193 (r := some (.int 0)) (w' := Wd f fl g gl hh v tx) rfl h2
  · have h3 := h.2 (Classical.not_not.mp c1)
    refine WP.run hP_193 2 (c' := (26, [some (.ref 74), some (.int l1), some (.int l2), some (.int l3), some (.int l4)], [.int 1], Wd f fl g gl hh v tx)) rfl ?_
    exact WP.ret hP_193 (r := some (.int 1)) (w' := Wd f fl g gl hh v tx) rfl h3

set_option maxRecDepth 20000 in
theorem b_m_asks_0 (X : mm_X) (d : Nat) (f : Nat → Int32) (fl : Nat → Int64) (g : Nat → Nat → Int32) (gl : Nat → Nat → Int64) (hh : Nat → Nat → Option Nat) (v : Nat → Value) (tx : mm_W) (p0 : Int32) (p1 : Int32) (p2 : Int32)  (P : Option Value → mm_W → Prop)
    (h : (((0 : Int32) ≤ p0 ∧ p0 ≤ (((g 76) 56) - (1 : Int32))) → (((p2 = 0) → ((((0 : Int32) ≤ p1 ∧ p1 ≤ (((g 76) 55) - (1 : Int32))) → WP X (d + 1) 191 (0, [some (.ref 74), some (.int p0), some (.int p1)], [], Wd f fl g gl hh v tx) (fun rv w2 => WP X (d + 2) 141 (50, [some (.ref 74), some (.int p0), some (.int p1), none], rv.toList ++ [], w2) P)) ∧
        ((¬ ((0 : Int32) ≤ p1 ∧ p1 ≤ (((g 76) 55) - (1 : Int32)))) → P (some (.int (-1))) (Wd f fl g gl hh v tx)))) ∧
      ((¬ p2 = 0) → (((p2 = 1) → ((¬ (((13 : Int32) + p0) < 0 ∨ 5667 ≤ ((13 : Int32) + p0).toNatClampNeg)) ∧ ((¬ (((19 : Int32) + p0) < 0 ∨ 5667 ≤ ((19 : Int32) + p0).toNatClampNeg)) ∧ WP X (d + 1) 192 (0, [some (.ref 74), some (.int p0), some (.int ((g 76) ((13 : Int32) + p0).toNatClampNeg)), some (.int ((g 76) ((19 : Int32) + p0).toNatClampNeg))], [], Wd f fl g gl hh v tx) (fun rv w2 => WP X (d + 2) 141 (78, [some (.ref 74), some (.int p0), none, none], rv.toList ++ [], w2) P)))) ∧
        ((¬ p2 = 1) → (((p2 = 2) → ((((0 : Int32) ≤ p1 ∧ p1 ≤ (5 : Int32)) → ((¬ (((13 : Int32) + p0) < 0 ∨ 5667 ≤ ((13 : Int32) + p0).toNatClampNeg)) ∧ ((¬ (((19 : Int32) + p0) < 0 ∨ 5667 ≤ ((19 : Int32) + p0).toNatClampNeg)) ∧ WP X (d + 1) 193 (0, [some (.ref 74), some (.int p0), some (.int p1), some (.int ((g 76) ((13 : Int32) + p0).toNatClampNeg)), some (.int ((g 76) ((19 : Int32) + p0).toNatClampNeg))], [], Wd f fl g gl hh v tx) (fun rv w2 => WP X (d + 2) 141 (116, [some (.ref 74), some (.int p0), some (.int p1), none], rv.toList ++ [], w2) P)))) ∧
            ((¬ ((0 : Int32) ≤ p1 ∧ p1 ≤ (5 : Int32))) → P (some (.int (-1))) (Wd f fl g gl hh v tx)))) ∧
          ((¬ p2 = 2) → P (some (.int (-1))) (Wd f fl g gl hh v tx)))))))) ∧
    ((¬ ((0 : Int32) ≤ p0 ∧ p0 ≤ (((g 76) 56) - (1 : Int32)))) → P (some (.int (-1))) (Wd f fl g gl hh v tx))) :
    WP X (d + 2) 141 (0, [some (.ref 74), some (.int p0), some (.int p1), some (.int p2)], [], Wd f fl g gl hh v tx) P := by
  refine WP.run hP_141 2 (c' := (2, [some (.ref 74), some (.int p0), some (.int p1), some (.int p2)], [.int p0, .ref 74], Wd f fl g gl hh v tx)) rfl ?_
  refine WP.call hP_141 hP_132 (as := [.ref 74, .int p0]) (pc' := 5) (L' := [some (.ref 74), some (.int p0), some (.int p1), some (.int p2)]) (st' := []) (w1 := Wd f fl g gl hh v tx) rfl ⟨Nat.le_of_ble_eq_true rfl, Nat.le_of_ble_eq_true rfl⟩ rfl (b_m_isShip_0 X (d) f fl g gl hh v tx p0 _ ?_)
  refine ⟨fun c1 => ?_, fun c1 => ?_⟩
  · have h2 := h.1 c1
    refine WP.run hP_141 2 (c' := (11, [some (.ref 74), some (.int p0), some (.int p1), some (.int p2)], [.int p2], Wd f fl g gl hh v tx)) rfl ?_
    refine WP.run hP_141 1 (c' := (mm_sw p2 0 [36, 55, 79] 125, [some (.ref 74), some (.int p0), some (.int p1), some (.int p2)], [], Wd f fl g gl hh v tx)) rfl ?_
    refine WP.sw (lo' := 1) rfl (fun c3 => ?_) (fun c3 => ?_)
    · have h4 := h2.1 c3
      refine WP.run hP_141 2 (c' := (38, [some (.ref 74), some (.int p0), some (.int p1), none], [.int p1, .ref 74], Wd f fl g gl hh v tx)) rfl ?_
      refine WP.call hP_141 hP_131 (as := [.ref 74, .int p1]) (pc' := 41) (L' := [some (.ref 74), some (.int p0), some (.int p1), none]) (st' := []) (w1 := Wd f fl g gl hh v tx) rfl ⟨Nat.le_of_ble_eq_true rfl, Nat.le_of_ble_eq_true rfl⟩ rfl (b_m_isSign_0 X (d) f fl g gl hh v tx p1 _ ?_)
      refine ⟨fun c5 => ?_, fun c5 => ?_⟩
      · have h6 := h4.1 c5
        refine WP.run hP_141 4 (c' := (47, [some (.ref 74), some (.int p0), some (.int p1), none], [.int p1, .int p0, .ref 74], Wd f fl g gl hh v tx)) rfl ?_
        refine WP.call hP_141 hP_191 (as := [.ref 74, .int p0, .int p1]) (pc' := 50) (L' := [some (.ref 74), some (.int p0), some (.int p1), none]) (st' := []) (w1 := Wd f fl g gl hh v tx) rfl ⟨Nat.le_of_ble_eq_true rfl, Nat.le_of_ble_eq_true rfl⟩ rfl ?_
        exact h6
      · have h7 := h4.2 c5
        refine WP.run hP_141 2 (c' := (54, [none, none, none, none], [.int (-1)], Wd f fl g gl hh v tx)) rfl ?_
        exact WP.retI hP_141 rfl rfl h7
    · have h8 := h2.2 c3
      refine WP.sw (lo' := 2) rfl (fun c9 => ?_) (fun c9 => ?_)
      · have h10 := h8.1 c9
        refine WP.run hP_141 7 (c' := (65, [some (.ref 74), some (.int p0), none, none], [.int ((13 : Int32) + p0), .ref 76, .int p0, .ref 74], Wd f fl g gl hh v tx)) rfl ?_
        refine WP.of (fun _ _ => Ex.iald hP_141 rfl (Wa_76 _ _ _ _ _ _ _) h10.1) ?_
        have h11 := h10.2
        refine WP.run hP_141 5 (c' := (74, [some (.ref 74), some (.int p0), none, none], [.int ((19 : Int32) + p0), .ref 76, .int ((g 76) ((13 : Int32) + p0).toNatClampNeg), .int p0, .ref 74], Wd f fl g gl hh v tx)) rfl ?_
        refine WP.of (fun _ _ => Ex.iald hP_141 rfl (Wa_76 _ _ _ _ _ _ _) h11.1) ?_
        have h12 := h11.2
        refine WP.call hP_141 hP_192 (as := [.ref 74, .int p0, .int ((g 76) ((13 : Int32) + p0).toNatClampNeg), .int ((g 76) ((19 : Int32) + p0).toNatClampNeg)]) (pc' := 78) (L' := [some (.ref 74), some (.int p0), none, none]) (st' := []) (w1 := Wd f fl g gl hh v tx) rfl ⟨Nat.le_of_ble_eq_true rfl, Nat.le_of_ble_eq_true rfl⟩ rfl ?_
        exact h12
      · have h13 := h8.2 c9
        refine WP.sw (lo' := 3) rfl (fun c14 => ?_) (fun c14 => ?_)
        · have h15 := h13.1 c14
          refine WP.run hP_141 3 (c' := (82, [some (.ref 74), some (.int p0), some (.int p1), none], [.int 5, .int 0, .int p1], Wd f fl g gl hh v tx)) rfl ?_
          refine WP.call hP_141 hP_116 (as := [.int p1, .int 0, .int 5]) (pc' := 85) (L' := [some (.ref 74), some (.int p0), some (.int p1), none]) (st' := []) (w1 := Wd f fl g gl hh v tx) rfl ⟨Nat.le_of_ble_eq_true rfl, Nat.le_of_ble_eq_true rfl⟩ rfl (b_lies_m X (d + 1) f fl g gl hh v tx p1 0 5 _ ?_)
          refine ⟨fun c16 => ?_, fun c16 => ?_⟩
          · have h17 := h15.1 c16
            refine WP.run hP_141 9 (c' := (103, [some (.ref 74), some (.int p0), some (.int p1), none], [.int ((13 : Int32) + p0), .ref 76, .int p1, .int p0, .ref 74], Wd f fl g gl hh v tx)) rfl ?_
            refine WP.of (fun _ _ => Ex.iald hP_141 rfl (Wa_76 _ _ _ _ _ _ _) h17.1) ?_
            have h18 := h17.2
            refine WP.run hP_141 5 (c' := (112, [some (.ref 74), some (.int p0), some (.int p1), none], [.int ((19 : Int32) + p0), .ref 76, .int ((g 76) ((13 : Int32) + p0).toNatClampNeg), .int p1, .int p0, .ref 74], Wd f fl g gl hh v tx)) rfl ?_
            refine WP.of (fun _ _ => Ex.iald hP_141 rfl (Wa_76 _ _ _ _ _ _ _) h18.1) ?_
            have h19 := h18.2
            refine WP.call hP_141 hP_193 (as := [.ref 74, .int p0, .int p1, .int ((g 76) ((13 : Int32) + p0).toNatClampNeg), .int ((g 76) ((19 : Int32) + p0).toNatClampNeg)]) (pc' := 116) (L' := [some (.ref 74), some (.int p0), some (.int p1), none]) (st' := []) (w1 := Wd f fl g gl hh v tx) rfl ⟨Nat.le_of_ble_eq_true rfl, Nat.le_of_ble_eq_true rfl⟩ rfl ?_
            exact h19
          · have h20 := h15.2 c16
            refine WP.run hP_141 3 (c' := (124, [some (.ref 74), some (.int p0), some (.int p1), none], [.int (-1)], Wd f fl g gl hh v tx)) rfl ?_
            exact WP.retI hP_141 rfl rfl h20
        · have h21 := h13.2 c14
          show WP X _ 141 (125, [some (.ref 74), some (.int p0), some (.int p1), some (.int p2)], [], Wd f fl g gl hh v tx) P
          refine WP.run hP_141 1 (c' := (126, [none, none, none, none], [.int (-1)], Wd f fl g gl hh v tx)) rfl ?_
          exact WP.retI hP_141 rfl rfl h21
  · have h22 := h.2 c1
    refine WP.run hP_141 2 (c' := (9, [some (.ref 74), some (.int p0), some (.int p1), some (.int p2)], [.int (-1)], Wd f fl g gl hh v tx)) rfl ?_
    exact WP.retI hP_141 rfl rfl h22

set_option maxRecDepth 20000 in
theorem b_m_asks_50 (X : mm_X) (d : Nat) (f : Nat → Int32) (fl : Nat → Int64) (g : Nat → Nat → Int32) (gl : Nat → Nat → Int64) (hh : Nat → Nat → Option Nat) (v : Nat → Value) (tx : mm_W) (l1 : Int32) (l2 : Int32) (s0 : Int32)  (P : Option Value → mm_W → Prop)
    (h : P (some (.int s0)) (Wd f fl g gl hh v tx)) :
    WP X (d) 141 (50, [some (.ref 74), some (.int l1), some (.int l2), none], [.int s0], Wd f fl g gl hh v tx) P := by
  refine WP.run hP_141 1 (c' := (54, [some (.ref 74), some (.int l1), some (.int l2), none], [.int s0], Wd f fl g gl hh v tx)) rfl ?_
  exact WP.retI hP_141 rfl rfl h

set_option maxRecDepth 20000 in
theorem b_m_asks_78 (X : mm_X) (d : Nat) (f : Nat → Int32) (fl : Nat → Int64) (g : Nat → Nat → Int32) (gl : Nat → Nat → Int64) (hh : Nat → Nat → Option Nat) (v : Nat → Value) (tx : mm_W) (l1 : Int32) (s0 : Int32)  (P : Option Value → mm_W → Prop)
    (h : P (some (.int s0)) (Wd f fl g gl hh v tx)) :
    WP X (d) 141 (78, [some (.ref 74), some (.int l1), none, none], [.int s0], Wd f fl g gl hh v tx) P := by
  exact WP.retI hP_141 rfl rfl h

set_option maxRecDepth 20000 in
theorem b_m_asks_116 (X : mm_X) (d : Nat) (f : Nat → Int32) (fl : Nat → Int64) (g : Nat → Nat → Int32) (gl : Nat → Nat → Int64) (hh : Nat → Nat → Option Nat) (v : Nat → Value) (tx : mm_W) (l1 : Int32) (l2 : Int32) (s0 : Int32)  (P : Option Value → mm_W → Prop)
    (h : ((s0 = 0) → P (some (.int 0)) (Wd f fl g gl hh v tx)) ∧
    ((¬ s0 = 0) → P (some (.int 1)) (Wd f fl g gl hh v tx))) :
    WP X (d) 141 (116, [some (.ref 74), some (.int l1), some (.int l2), none], [.int s0], Wd f fl g gl hh v tx) P := by
  refine WP.br hP_141 (q := s0 = 0) (t := 123) (f := 119) (L := [some (.ref 74), some (.int l1), some (.int l2), none]) (st := []) (w := Wd f fl g gl hh v tx) rfl (fun c1 => ?_) (fun c1 => ?_)
  · have h2 := h.1 c1
    refine WP.run hP_141 1 (c' := (124, [none, none, none, none], [.int 0], Wd f fl g gl hh v tx)) rfl ?_
    exact WP.retI hP_141 rfl rfl h2
  · have h3 := h.2 c1
    refine WP.run hP_141 2 (c' := (124, [some (.ref 74), some (.int l1), some (.int l2), none], [.int 1], Wd f fl g gl hh v tx)) rfl ?_
    exact WP.retI hP_141 rfl rfl h3

set_option maxRecDepth 20000 in
theorem b_m_codeAt_0 (X : mm_X) (d : Nat) (f : Nat → Int32) (fl : Nat → Int64) (g : Nat → Nat → Int32) (gl : Nat → Nat → Int64) (hh : Nat → Nat → Option Nat) (v : Nat → Value) (tx : mm_W) (p0 : Int32)  (P : Option Value → mm_W → Prop)
    (h : (((f 4759) ≤ p0) → P (some (.int 0)) (Wd f fl g gl hh v tx)) ∧
    ((¬ ((f 4759) ≤ p0)) → ((¬ (((67 : Int32) + p0) < 0 ∨ 5667 ≤ ((67 : Int32) + p0).toNatClampNeg)) ∧ P (some (.int ((g 76) ((67 : Int32) + p0).toNatClampNeg))) (Wd f fl g gl hh v tx)))) :
    WP X (d) 178 (0, [some (.ref 74), some (.int p0)], [], Wd f fl g gl hh v tx) P := by
  refine WP.run hP_178 3 (c' := (5, [some (.ref 74), some (.int p0)], [.int (f 4759), .int p0], Wd f fl g gl hh v tx)) rfl ?_
  refine WP.br hP_178 (q := (f 4759) ≤ p0) (t := 20) (f := 8) (L := [some (.ref 74), some (.int p0)]) (st := []) (w := Wd f fl g gl hh v tx) rfl (fun c1 => ?_) (fun c1 => ?_)
  · have h2 := h.1 c1
    refine WP.run hP_178 1 (c' := (21, [none, none], [.int 0], Wd f fl g gl hh v tx)) rfl ?_
    exact WP.retI hP_178 rfl rfl h2
  · have h3 := h.2 c1
    refine WP.run hP_178 5 (c' := (16, [some (.ref 74), some (.int p0)], [.int ((67 : Int32) + p0), .ref 76], Wd f fl g gl hh v tx)) rfl ?_
    refine WP.of (fun _ _ => Ex.iald hP_178 rfl (Wa_76 _ _ _ _ _ _ _) h3.1) ?_
    have h4 := h3.2
    refine WP.run hP_178 1 (c' := (21, [some (.ref 74), some (.int p0)], [.int ((g 76) ((67 : Int32) + p0).toNatClampNeg)], Wd f fl g gl hh v tx)) rfl ?_
    exact WP.retI hP_178 rfl rfl h4

set_option maxRecDepth 20000 in
theorem b_m_passes0_0 (X : mm_X) (d : Nat) (f : Nat → Int32) (fl : Nat → Int64) (g : Nat → Nat → Int32) (gl : Nat → Nat → Int64) (hh : Nat → Nat → Option Nat) (v : Nat → Value) (tx : mm_W) (p0 : Int32)  (P : Option Value → mm_W → Prop)
    (h : WP X (d) 178 (0, [some (.ref 74), some (.int (f 4758))], [], Wd f fl g gl hh v tx) (fun rv w2 => WP X (d + 1) 179 (8, [some (.ref 74), some (.int p0), none], rv.toList ++ [], w2) P)) :
    WP X (d + 1) 179 (0, [some (.ref 74), some (.int p0), none], [], Wd f fl g gl hh v tx) P := by
  refine WP.run hP_179 3 (c' := (5, [some (.ref 74), some (.int p0), none], [.int (f 4758), .ref 74], Wd f fl g gl hh v tx)) rfl ?_
  refine WP.call hP_179 hP_178 (as := [.ref 74, .int (f 4758)]) (pc' := 8) (L' := [some (.ref 74), some (.int p0), none]) (st' := []) (w1 := Wd f fl g gl hh v tx) rfl ⟨Nat.le_of_ble_eq_true rfl, Nat.le_of_ble_eq_true rfl⟩ rfl ?_
  exact h

set_option maxRecDepth 20000 in
theorem b_m_passes0_8 (X : mm_X) (d : Nat) (f : Nat → Int32) (fl : Nat → Int64) (g : Nat → Nat → Int32) (gl : Nat → Nat → Int64) (hh : Nat → Nat → Option Nat) (v : Nat → Value) (tx : mm_W) (l1 : Int32) (s0 : Int32)  (P : Option Value → mm_W → Prop)
    (h : ((¬ s0 = l1) → P (some (.int 0)) (Wd f fl g gl hh v tx)) ∧
    ((s0 = l1) → P (some (.int 1)) (Wd (va_up f 4758 ((f 4758) + (1 : Int32))) fl g gl hh v tx))) :
    WP X (d) 179 (8, [some (.ref 74), some (.int l1), none], [.int s0], Wd f fl g gl hh v tx) P := by
  refine WP.run hP_179 1 (c' := (9, [some (.ref 74), some (.int l1), none], [.int l1, .int s0], Wd f fl g gl hh v tx)) rfl ?_
  refine WP.br hP_179 (q := ¬ s0 = l1) (t := 16) (f := 12) (L := [some (.ref 74), some (.int l1), none]) (st := []) (w := Wd f fl g gl hh v tx) rfl (fun c1 => ?_) (fun c1 => ?_)
  · have h2 := h.1 c1
    refine WP.run hP_179 1 (c' := (17, [some (.ref 74), none, none], [.int 0], Wd f fl g gl hh v tx)) rfl ?_
    refine WP.run hP_179 3 (c' := (32, [some (.ref 74), none, some (.int 0)], [], Wd f fl g gl hh v tx)) rfl ?_
    refine WP.run hP_179 1 (c' := (33, [none, none, some (.int 0)], [.int 0], Wd f fl g gl hh v tx)) rfl ?_
    exact WP.ret hP_179 (r := some (.int 0)) (w' := Wd f fl g gl hh v tx) rfl h2
  · have h3 := h.2 (Classical.not_not.mp c1)
    refine WP.run hP_179 11 (c' := (32, [some (.ref 74), none, some (.int 1)], [], Wd (va_up f 4758 ((f 4758) + (1 : Int32))) fl g gl hh v tx)) rfl ?_
    refine WP.run hP_179 1 (c' := (33, [none, none, some (.int 1)], [.int 1], Wd (va_up f 4758 ((f 4758) + (1 : Int32))) fl g gl hh v tx)) rfl ?_
    exact WP.ret hP_179 (r := some (.int 1)) (w' := Wd (va_up f 4758 ((f 4758) + (1 : Int32))) fl g gl hh v tx) rfl h3
