set_option maxRecDepth 20000 in
theorem b_m_twofold_0 (X : mm_X) (d : Nat) (f : Nat → Int32) (fl : Nat → Int64) (g : Nat → Nat → Int32) (gl : Nat → Nat → Int64) (hh : Nat → Nat → Option Nat) (v : Nat → Value) (tx : mm_W)   (P : Option Value → mm_W → Prop)
    (h : WP X (d) 224 (0, [some (.ref 74), some (.int ((((1 : Int32) <<< (((g 76) 55) &&& (31 : Int32))) : Int32) - (1 : Int32))), none, none, none], [], Wd f fl g gl hh v tx) (fun rv w2 => WP X (d + 1) 225 (12, [some (.ref 74), none], rv.toList ++ [], w2) P)) :
    WP X (d + 1) 225 (0, [some (.ref 74), none], [], Wd f fl g gl hh v tx) P := by
  refine WP.run hP_225 3 (c' := (3, [some (.ref 74), none], [.ref 74, .int 1, .ref 74], Wd f fl g gl hh v tx)) rfl ?_
  refine WP.call hP_225 hP_129 (as := [.ref 74]) (pc' := 6) (L' := [some (.ref 74), none]) (st' := [.int 1, .ref 74]) (w1 := Wd f fl g gl hh v tx) rfl ⟨Nat.le_of_ble_eq_true rfl, Nat.le_of_ble_eq_true rfl⟩ rfl (b_m_signMany_0 X (d) f fl g gl hh v tx  _ ?_)
  refine WP.run hP_225 3 (c' := (9, [some (.ref 74), none], [.int ((((1 : Int32) <<< (((g 76) 55) &&& (31 : Int32))) : Int32) - (1 : Int32)), .ref 74], Wd f fl g gl hh v tx)) rfl ?_
  refine WP.call hP_225 hP_224 (as := [.ref 74, .int ((((1 : Int32) <<< (((g 76) 55) &&& (31 : Int32))) : Int32) - (1 : Int32))]) (pc' := 12) (L' := [some (.ref 74), none]) (st' := []) (w1 := Wd f fl g gl hh v tx) rfl ⟨Nat.le_of_ble_eq_true rfl, Nat.le_of_ble_eq_true rfl⟩ rfl ?_
  exact h

set_option maxRecDepth 20000 in
theorem b_m_twofold_12 (X : mm_X) (d : Nat) (f : Nat → Int32) (fl : Nat → Int64) (g : Nat → Nat → Int32) (gl : Nat → Nat → Int64) (hh : Nat → Nat → Option Nat) (v : Nat → Value) (tx : mm_W) (s0 : Int32)  (P : Option Value → mm_W → Prop)
    (h : ((¬ s0 = 1000000) → P (some (.int s0)) (Wd f fl g gl hh v tx)) ∧
    ((s0 = 1000000) → P (some (.int (-1))) (Wd f fl g gl hh v tx))) :
    WP X (d) 225 (12, [some (.ref 74), none], [.int s0], Wd f fl g gl hh v tx) P := by
  refine WP.run hP_225 3 (c' := (16, [some (.ref 74), some (.int s0)], [.int 1000000, .int s0], Wd f fl g gl hh v tx)) rfl ?_
  refine WP.br hP_225 (q := ¬ s0 = 1000000) (t := 23) (f := 19) (L := [some (.ref 74), some (.int s0)]) (st := []) (w := Wd f fl g gl hh v tx) rfl (fun c1 => ?_) (fun c1 => ?_)
  · have h2 := h.1 c1
    refine WP.run hP_225 1 (c' := (24, [none, some (.int s0)], [.int s0], Wd f fl g gl hh v tx)) rfl ?_
    exact WP.retI hP_225 rfl rfl h2
  · have h3 := h.2 (Classical.not_not.mp c1)
    refine WP.run hP_225 2 (c' := (24, [some (.ref 74), some (.int s0)], [.int (-1)], Wd f fl g gl hh v tx)) rfl ?_
    exact WP.retI hP_225 rfl rfl h3

set_option maxRecDepth 20000 in
theorem b_m_struck_0 (X : mm_X) (d : Nat) (f : Nat → Int32) (fl : Nat → Int64) (g : Nat → Nat → Int32) (gl : Nat → Nat → Int64) (hh : Nat → Nat → Option Nat) (v : Nat → Value) (tx : mm_W) (p0 : Int32)  (P : Option Value → mm_W → Prop)
    (h : (((0 : Int32) ≤ p0 ∧ p0 ≤ (1 : Int32)) → WP X (d + 1) 226 (25, [some (.ref 74), some (.int p0), some (.int ((((1 : Int32) <<< (((g 76) 55) &&& (31 : Int32))) : Int32) - (1 : Int32))), some (.int ((((1 : Int32) <<< (((g 76) 55) &&& (31 : Int32))) : Int32) - (1 : Int32))), some (.int 0)], [], Wd f fl g gl hh v tx) P) ∧
    ((¬ ((0 : Int32) ≤ p0 ∧ p0 ≤ (1 : Int32))) → P (some (.int (-1))) (Wd f fl g gl hh v tx))) :
    WP X (d + 1) 226 (0, [some (.ref 74), some (.int p0), none, none, none], [], Wd f fl g gl hh v tx) P := by
  refine WP.run hP_226 3 (c' := (3, [some (.ref 74), some (.int p0), none, none, none], [.int 1, .int 0, .int p0], Wd f fl g gl hh v tx)) rfl ?_
  refine WP.call hP_226 hP_116 (as := [.int p0, .int 0, .int 1]) (pc' := 6) (L' := [some (.ref 74), some (.int p0), none, none, none]) (st' := []) (w1 := Wd f fl g gl hh v tx) rfl ⟨Nat.le_of_ble_eq_true rfl, Nat.le_of_ble_eq_true rfl⟩ rfl (b_lies_m X (d) f fl g gl hh v tx p0 0 1 _ ?_)
  refine ⟨fun c1 => ?_, fun c1 => ?_⟩
  · have h2 := h.1 c1
    refine WP.run hP_226 3 (c' := (13, [some (.ref 74), some (.int p0), none, none, none], [.ref 74, .int 1], Wd f fl g gl hh v tx)) rfl ?_
    refine WP.call hP_226 hP_129 (as := [.ref 74]) (pc' := 16) (L' := [some (.ref 74), some (.int p0), none, none, none]) (st' := [.int 1]) (w1 := Wd f fl g gl hh v tx) rfl ⟨Nat.le_of_ble_eq_true rfl, Nat.le_of_ble_eq_true rfl⟩ rfl (b_m_signMany_0 X (d) f fl g gl hh v tx  _ ?_)
    refine WP.run hP_226 5 (c' := (21, [some (.ref 74), some (.int p0), some (.int ((((1 : Int32) <<< (((g 76) 55) &&& (31 : Int32))) : Int32) - (1 : Int32))), none, none], [.int ((((1 : Int32) <<< (((g 76) 55) &&& (31 : Int32))) : Int32) - (1 : Int32))], Wd f fl g gl hh v tx)) rfl ?_
    refine WP.run hP_226 2 (c' := (23, [some (.ref 74), some (.int p0), some (.int ((((1 : Int32) <<< (((g 76) 55) &&& (31 : Int32))) : Int32) - (1 : Int32))), some (.int ((((1 : Int32) <<< (((g 76) 55) &&& (31 : Int32))) : Int32) - (1 : Int32))), none], [.int 0], Wd f fl g gl hh v tx)) rfl ?_
    refine WP.run hP_226 1 (c' := (25, [some (.ref 74), some (.int p0), some (.int ((((1 : Int32) <<< (((g 76) 55) &&& (31 : Int32))) : Int32) - (1 : Int32))), some (.int ((((1 : Int32) <<< (((g 76) 55) &&& (31 : Int32))) : Int32) - (1 : Int32))), some (.int 0)], [], Wd f fl g gl hh v tx)) rfl ?_
    exact h2
  · have h3 := h.2 c1
    refine WP.run hP_226 2 (c' := (10, [some (.ref 74), some (.int p0), none, none, none], [.int (-1)], Wd f fl g gl hh v tx)) rfl ?_
    exact WP.retI hP_226 rfl rfl h3

set_option maxRecDepth 20000 in
theorem b_m_struck_25 (X : mm_X) (d : Nat) (f : Nat → Int32) (fl : Nat → Int64) (g : Nat → Nat → Int32) (gl : Nat → Nat → Int64) (hh : Nat → Nat → Option Nat) (v : Nat → Value) (tx : mm_W) (l1 : Int32) (l2 : Int32) (l3 : Int32) (l4 : Int32)  (P : Option Value → mm_W → Prop)
    (h : ((l2 ≤ l4) → (((¬ l1 = 0) → P (some (.int l3)) (Wd f fl g gl hh v tx)) ∧
      ((l1 = 0) → WP X (d) 123 (0, [some (.int l3), none, none], [], Wd f fl g gl hh v tx) (fun rv w2 => WP X (d + 1) 226 (73, [none, some (.int l1), none, some (.int l3), none], rv.toList ++ [], w2) P)))) ∧
    ((¬ (l2 ≤ l4)) → WP X (d) 123 (0, [some (.int l4), none, none], [], Wd f fl g gl hh v tx) (fun rv w2 => WP X (d + 1) 226 (36, [some (.ref 74), some (.int l1), some (.int l2), some (.int l3), some (.int l4)], rv.toList ++ [], w2) P))) :
    WP X (d + 1) 226 (25, [some (.ref 74), some (.int l1), some (.int l2), some (.int l3), some (.int l4)], [], Wd f fl g gl hh v tx) P := by
  refine WP.run hP_226 2 (c' := (28, [some (.ref 74), some (.int l1), some (.int l2), some (.int l3), some (.int l4)], [.int l2, .int l4], Wd f fl g gl hh v tx)) rfl ?_
  refine WP.br hP_226 (q := l2 ≤ l4) (t := 65) (f := 31) (L := [some (.ref 74), some (.int l1), some (.int l2), some (.int l3), some (.int l4)]) (st := []) (w := Wd f fl g gl hh v tx) rfl (fun c1 => ?_) (fun c1 => ?_)
  · have h2 := h.1 c1
    refine WP.run hP_226 1 (c' := (66, [none, some (.int l1), none, some (.int l3), none], [.int l1], Wd f fl g gl hh v tx)) rfl ?_
    refine WP.br hP_226 (q := ¬ l1 = 0) (t := 76) (f := 69) (L := [none, some (.int l1), none, some (.int l3), none]) (st := []) (w := Wd f fl g gl hh v tx) rfl (fun c3 => ?_) (fun c3 => ?_)
    · have h4 := h2.1 c3
      refine WP.run hP_226 1 (c' := (77, [none, none, none, some (.int l3), none], [.int l3], Wd f fl g gl hh v tx)) rfl ?_
      exact WP.retI hP_226 rfl rfl h4
    · have h5 := h2.2 (Classical.not_not.mp c3)
      refine WP.run hP_226 1 (c' := (70, [none, some (.int l1), none, some (.int l3), none], [.int l3], Wd f fl g gl hh v tx)) rfl ?_
      refine WP.call hP_226 hP_123 (as := [.int l3]) (pc' := 73) (L' := [none, some (.int l1), none, some (.int l3), none]) (st' := []) (w1 := Wd f fl g gl hh v tx) rfl ⟨Nat.le_of_ble_eq_true rfl, Nat.le_of_ble_eq_true rfl⟩ rfl ?_
      exact h5
  · have h6 := h.2 c1
    refine WP.run hP_226 1 (c' := (33, [some (.ref 74), some (.int l1), some (.int l2), some (.int l3), some (.int l4)], [.int l4], Wd f fl g gl hh v tx)) rfl ?_
    refine WP.call hP_226 hP_123 (as := [.int l4]) (pc' := 36) (L' := [some (.ref 74), some (.int l1), some (.int l2), some (.int l3), some (.int l4)]) (st' := []) (w1 := Wd f fl g gl hh v tx) rfl ⟨Nat.le_of_ble_eq_true rfl, Nat.le_of_ble_eq_true rfl⟩ rfl ?_
    exact h6

set_option maxRecDepth 20000 in
theorem b_m_struck_73 (X : mm_X) (d : Nat) (f : Nat → Int32) (fl : Nat → Int64) (g : Nat → Nat → Int32) (gl : Nat → Nat → Int64) (hh : Nat → Nat → Option Nat) (v : Nat → Value) (tx : mm_W) (l1 : Int32) (l3 : Int32) (s0 : Int32)  (P : Option Value → mm_W → Prop)
    (h : P (some (.int s0)) (Wd f fl g gl hh v tx)) :
    WP X (d) 226 (73, [none, some (.int l1), none, some (.int l3), none], [.int s0], Wd f fl g gl hh v tx) P := by
  refine WP.run hP_226 1 (c' := (77, [none, some (.int l1), none, some (.int l3), none], [.int s0], Wd f fl g gl hh v tx)) rfl ?_
  exact WP.retI hP_226 rfl rfl h

set_option maxRecDepth 20000 in
theorem b_m_struck_36 (X : mm_X) (d : Nat) (f : Nat → Int32) (fl : Nat → Int64) (g : Nat → Nat → Int32) (gl : Nat → Nat → Int64) (hh : Nat → Nat → Option Nat) (v : Nat → Value) (tx : mm_W) (l1 : Int32) (l2 : Int32) (l3 : Int32) (l4 : Int32) (s0 : Int32)  (P : Option Value → mm_W → Prop)
    (h : WP X (d) 123 (0, [some (.int l3), none, none], [], Wd f fl g gl hh v tx) (fun rv w2 => WP X (d + 1) 226 (40, [some (.ref 74), some (.int l1), some (.int l2), some (.int l3), some (.int l4)], rv.toList ++ [.int s0], w2) P)) :
    WP X (d + 1) 226 (36, [some (.ref 74), some (.int l1), some (.int l2), some (.int l3), some (.int l4)], [.int s0], Wd f fl g gl hh v tx) P := by
  refine WP.run hP_226 1 (c' := (37, [some (.ref 74), some (.int l1), some (.int l2), some (.int l3), some (.int l4)], [.int l3, .int s0], Wd f fl g gl hh v tx)) rfl ?_
  refine WP.call hP_226 hP_123 (as := [.int l3]) (pc' := 40) (L' := [some (.ref 74), some (.int l1), some (.int l2), some (.int l3), some (.int l4)]) (st' := [.int s0]) (w1 := Wd f fl g gl hh v tx) rfl ⟨Nat.le_of_ble_eq_true rfl, Nat.le_of_ble_eq_true rfl⟩ rfl ?_
  exact h

set_option maxRecDepth 20000 in
theorem b_m_struck_40 (X : mm_X) (d : Nat) (f : Nat → Int32) (fl : Nat → Int64) (g : Nat → Nat → Int32) (gl : Nat → Nat → Int64) (hh : Nat → Nat → Option Nat) (v : Nat → Value) (tx : mm_W) (l1 : Int32) (l2 : Int32) (l3 : Int32) (l4 : Int32) (s0 : Int32) (s1 : Int32)  (P : Option Value → mm_W → Prop)
    (h : ((s0 ≤ s1) → WP X (d + 1) 226 (25, [some (.ref 74), some (.int l1), some (.int l2), some (.int l3), some (.int (l4 + (1 : Int32)))], [], Wd f fl g gl hh v tx) P) ∧
    ((¬ (s0 ≤ s1)) → WP X (d) 224 (0, [some (.ref 74), some (.int (l2 ^^^ l4)), none, none, none], [], Wd f fl g gl hh v tx) (fun rv w2 => WP X (d + 1) 226 (51, [some (.ref 74), some (.int l1), some (.int l2), some (.int l3), some (.int l4)], rv.toList ++ [], w2) P))) :
    WP X (d + 1) 226 (40, [some (.ref 74), some (.int l1), some (.int l2), some (.int l3), some (.int l4)], [.int s0, .int s1], Wd f fl g gl hh v tx) P := by
  refine WP.br hP_226 (q := s0 ≤ s1) (t := 59) (f := 43) (L := [some (.ref 74), some (.int l1), some (.int l2), some (.int l3), some (.int l4)]) (st := []) (w := Wd f fl g gl hh v tx) rfl (fun c1 => ?_) (fun c1 => ?_)
  · have h2 := h.1 c1
    refine WP.run hP_226 2 (c' := (25, [some (.ref 74), some (.int l1), some (.int l2), some (.int l3), some (.int (l4 + (1 : Int32)))], [], Wd f fl g gl hh v tx)) rfl ?_
    exact h2
  · have h3 := h.2 c1
    refine WP.run hP_226 4 (c' := (48, [some (.ref 74), some (.int l1), some (.int l2), some (.int l3), some (.int l4)], [.int (l2 ^^^ l4), .ref 74], Wd f fl g gl hh v tx)) rfl ?_
    refine WP.call hP_226 hP_224 (as := [.ref 74, .int (l2 ^^^ l4)]) (pc' := 51) (L' := [some (.ref 74), some (.int l1), some (.int l2), some (.int l3), some (.int l4)]) (st' := []) (w1 := Wd f fl g gl hh v tx) rfl ⟨Nat.le_of_ble_eq_true rfl, Nat.le_of_ble_eq_true rfl⟩ rfl ?_
    exact h3

set_option maxRecDepth 20000 in
theorem b_m_struck_51 (X : mm_X) (d : Nat) (f : Nat → Int32) (fl : Nat → Int64) (g : Nat → Nat → Int32) (gl : Nat → Nat → Int64) (hh : Nat → Nat → Option Nat) (v : Nat → Value) (tx : mm_W) (l1 : Int32) (l2 : Int32) (l3 : Int32) (l4 : Int32) (s0 : Int32)  (P : Option Value → mm_W → Prop)
    (h : ((¬ s0 = 1000000) → WP X (d) 226 (25, [some (.ref 74), some (.int l1), some (.int l2), some (.int l3), some (.int (l4 + (1 : Int32)))], [], Wd f fl g gl hh v tx) P) ∧
    ((s0 = 1000000) → WP X (d) 226 (25, [some (.ref 74), some (.int l1), some (.int l2), some (.int l4), some (.int (l4 + (1 : Int32)))], [], Wd f fl g gl hh v tx) P)) :
    WP X (d) 226 (51, [some (.ref 74), some (.int l1), some (.int l2), some (.int l3), some (.int l4)], [.int s0], Wd f fl g gl hh v tx) P := by
  refine WP.run hP_226 1 (c' := (53, [some (.ref 74), some (.int l1), some (.int l2), some (.int l3), some (.int l4)], [.int 1000000, .int s0], Wd f fl g gl hh v tx)) rfl ?_
  refine WP.br hP_226 (q := ¬ s0 = 1000000) (t := 59) (f := 56) (L := [some (.ref 74), some (.int l1), some (.int l2), some (.int l3), some (.int l4)]) (st := []) (w := Wd f fl g gl hh v tx) rfl (fun c1 => ?_) (fun c1 => ?_)
  · have h2 := h.1 c1
    refine WP.run hP_226 2 (c' := (25, [some (.ref 74), some (.int l1), some (.int l2), some (.int l3), some (.int (l4 + (1 : Int32)))], [], Wd f fl g gl hh v tx)) rfl ?_
    exact h2
  · have h3 := h.2 (Classical.not_not.mp c1)
    refine WP.run hP_226 2 (c' := (59, [some (.ref 74), some (.int l1), some (.int l2), some (.int l4), some (.int l4)], [], Wd f fl g gl hh v tx)) rfl ?_
    refine WP.run hP_226 2 (c' := (25, [some (.ref 74), some (.int l1), some (.int l2), some (.int l4), some (.int (l4 + (1 : Int32)))], [], Wd f fl g gl hh v tx)) rfl ?_
    exact h3

set_option maxRecDepth 20000 in
theorem b_m_rows_0 (X : mm_X) (d : Nat) (f : Nat → Int32) (fl : Nat → Int64) (g : Nat → Nat → Int32) (gl : Nat → Nat → Int64) (hh : Nat → Nat → Option Nat) (v : Nat → Value) (tx : mm_W) (p0 : Int32)  (P : Option Value → mm_W → Prop)
    (h : (((0 : Int32) ≤ p0 ∧ p0 ≤ (20 : Int32)) → WP X (d + 1) 227 (23, [some (.ref 74), some (.int p0), some (.int 1), none], [], Wd f fl g (va_up gl 94 (vp_updL (gl 94) 0 1)) hh v tx) P) ∧
    ((¬ ((0 : Int32) ≤ p0 ∧ p0 ≤ (20 : Int32))) → P (some (.long (-1))) (Wd f fl g gl hh v tx))) :
    WP X (d + 1) 227 (0, [some (.ref 74), some (.int p0), none, none], [], Wd f fl g gl hh v tx) P := by
  refine WP.run hP_227 3 (c' := (4, [some (.ref 74), some (.int p0), none, none], [.int 20, .int 0, .int p0], Wd f fl g gl hh v tx)) rfl ?_
  refine WP.call hP_227 hP_116 (as := [.int p0, .int 0, .int 20]) (pc' := 7) (L' := [some (.ref 74), some (.int p0), none, none]) (st' := []) (w1 := Wd f fl g gl hh v tx) rfl ⟨Nat.le_of_ble_eq_true rfl, Nat.le_of_ble_eq_true rfl⟩ rfl (b_lies_m X (d) f fl g gl hh v tx p0 0 20 _ ?_)
  refine ⟨fun c1 => ?_, fun c1 => ?_⟩
  · have h2 := h.1 c1
    refine WP.run hP_227 5 (c' := (20, [some (.ref 74), some (.int p0), none, none], [.long 1, .int 0, .ref 94], Wd f fl g gl hh v tx)) rfl ?_
    refine WP.of (fun _ _ => Ex.last hP_227 (w2 := Wd f fl g (va_up gl 94 (vp_updL (gl 94) 0 1)) hh v tx) rfl (Wa_94 _ _ _ _ _ _ _) (by decide) (Ws_94 _ _ _ _ _ _ _ _)) ?_
    refine WP.run hP_227 2 (c' := (23, [some (.ref 74), some (.int p0), some (.int 1), none], [], Wd f fl g (va_up gl 94 (vp_updL (gl 94) 0 1)) hh v tx)) rfl ?_
    exact h2
  · have h3 := h.2 c1
    refine WP.run hP_227 2 (c' := (13, [some (.ref 74), some (.int p0), none, none], [.long (-1)], Wd f fl g gl hh v tx)) rfl ?_
    exact WP.ret hP_227 (r := some (.long (-1))) (w' := Wd f fl g gl hh v tx) rfl h3

set_option maxRecDepth 20000 in
theorem b_m_rows_23 (X : mm_X) (d : Nat) (f : Nat → Int32) (fl : Nat → Int64) (g : Nat → Nat → Int32) (gl : Nat → Nat → Int64) (hh : Nat → Nat → Option Nat) (v : Nat → Value) (tx : mm_W) (l1 : Int32) (l2 : Int32)  (P : Option Value → mm_W → Prop)
    (h : ((l1 < l2) → ((¬ (l1 < 0 ∨ 21 ≤ l1.toNatClampNeg)) ∧ P (some (.long ((gl 94) l1.toNatClampNeg))) (Wd f fl g gl hh v tx))) ∧
    ((¬ (l1 < l2)) → ((¬ (l2 < 0 ∨ 21 ≤ l2.toNatClampNeg)) ∧ WP X (d) 227 (37, [some (.ref 74), some (.int l1), some (.int l2), some (.int 0)], [], Wd f fl g (va_up gl 94 (vp_updL (gl 94) (l2.toNatClampNeg) 0)) hh v tx) P))) :
    WP X (d) 227 (23, [some (.ref 74), some (.int l1), some (.int l2), none], [], Wd f fl g gl hh v tx) P := by
  refine WP.run hP_227 2 (c' := (25, [some (.ref 74), some (.int l1), some (.int l2), none], [.int l1, .int l2], Wd f fl g gl hh v tx)) rfl ?_
  refine WP.br hP_227 (q := l1 < l2) (t := 99) (f := 28) (L := [some (.ref 74), some (.int l1), some (.int l2), none]) (st := []) (w := Wd f fl g gl hh v tx) rfl (fun c1 => ?_) (fun c1 => ?_)
  · have h2 := h.1 c1
    refine WP.run hP_227 3 (c' := (104, [some (.ref 74), some (.int l1), none, none], [.int l1, .ref 94], Wd f fl g gl hh v tx)) rfl ?_
    refine WP.of (fun _ _ => Ex.lald hP_227 rfl (Wa_94 _ _ _ _ _ _ _) h2.1) ?_
    have h3 := h2.2
    exact WP.ret hP_227 (r := some (.long ((gl 94) l1.toNatClampNeg))) (w' := Wd f fl g gl hh v tx) rfl h3
  · have h4 := h.2 c1
    refine WP.run hP_227 4 (c' := (34, [some (.ref 74), some (.int l1), some (.int l2), none], [.long 0, .int l2, .ref 94], Wd f fl g gl hh v tx)) rfl ?_
    refine WP.of (fun _ _ => Ex.last hP_227 (w2 := Wd f fl g (va_up gl 94 (vp_updL (gl 94) (l2.toNatClampNeg) 0)) hh v tx) rfl (Wa_94 _ _ _ _ _ _ _) h4.1 (Ws_94 _ _ _ _ _ _ _ _)) ?_
    have h5 := h4.2
    refine WP.run hP_227 2 (c' := (37, [some (.ref 74), some (.int l1), some (.int l2), some (.int 0)], [], Wd f fl g (va_up gl 94 (vp_updL (gl 94) (l2.toNatClampNeg) 0)) hh v tx)) rfl ?_
    exact h5

set_option maxRecDepth 20000 in
theorem b_m_rows_37 (X : mm_X) (d : Nat) (f : Nat → Int32) (fl : Nat → Int64) (g : Nat → Nat → Int32) (gl : Nat → Nat → Int64) (hh : Nat → Nat → Option Nat) (v : Nat → Value) (tx : mm_W) (l1 : Int32) (l2 : Int32) (l3 : Int32)  (P : Option Value → mm_W → Prop)
    (h : ((((g 76) 55) ≤ l3) → WP X (d + 1) 227 (23, [some (.ref 74), some (.int l1), some (.int (l2 + (1 : Int32))), none], [], Wd f fl g gl hh v tx) P) ∧
    ((¬ (((g 76) 55) ≤ l3)) → ((¬ (l2 < 0 ∨ 21 ≤ l2.toNatClampNeg)) ∧ ((¬ (((31 : Int32) + l3) < 0 ∨ 5667 ≤ ((31 : Int32) + l3).toNatClampNeg)) ∧ (((l2 < ((g 76) ((31 : Int32) + l3).toNatClampNeg)) → ((¬ (l2 < 0 ∨ 21 ≤ l2.toNatClampNeg)) ∧ WP X (d + 1) 227 (37, [some (.ref 74), some (.int l1), some (.int l2), some (.int (l3 + (1 : Int32)))], [], Wd f fl g (va_up gl 94 (vp_updL (gl 94) (l2.toNatClampNeg) (((gl 94) l2.toNatClampNeg) + (0 : Int64)))) hh v tx) P)) ∧
      ((¬ (l2 < ((g 76) ((31 : Int32) + l3).toNatClampNeg))) → ((¬ (((31 : Int32) + l3) < 0 ∨ 5667 ≤ ((31 : Int32) + l3).toNatClampNeg)) ∧ ((¬ ((l2 - ((g 76) ((31 : Int32) + l3).toNatClampNeg)) < 0 ∨ 21 ≤ (l2 - ((g 76) ((31 : Int32) + l3).toNatClampNeg)).toNatClampNeg)) ∧ ((¬ (l2 < 0 ∨ 21 ≤ l2.toNatClampNeg)) ∧ WP X (d + 1) 227 (37, [some (.ref 74), some (.int l1), some (.int l2), some (.int (l3 + (1 : Int32)))], [], Wd f fl g (va_up gl 94 (vp_updL (gl 94) (l2.toNatClampNeg) (((gl 94) l2.toNatClampNeg) + ((gl 94) (l2 - ((g 76) ((31 : Int32) + l3).toNatClampNeg)).toNatClampNeg)))) hh v tx) P))))))))) :
    WP X (d + 1) 227 (37, [some (.ref 74), some (.int l1), some (.int l2), some (.int l3)], [], Wd f fl g gl hh v tx) P := by
  refine WP.run hP_227 2 (c' := (39, [some (.ref 74), some (.int l1), some (.int l2), some (.int l3)], [.ref 74, .int l3], Wd f fl g gl hh v tx)) rfl ?_
  refine WP.call hP_227 hP_129 (as := [.ref 74]) (pc' := 42) (L' := [some (.ref 74), some (.int l1), some (.int l2), some (.int l3)]) (st' := [.int l3]) (w1 := Wd f fl g gl hh v tx) rfl ⟨Nat.le_of_ble_eq_true rfl, Nat.le_of_ble_eq_true rfl⟩ rfl (b_m_signMany_0 X (d) f fl g gl hh v tx  _ ?_)
  refine WP.br hP_227 (q := ((g 76) 55) ≤ l3) (t := 93) (f := 45) (L := [some (.ref 74), some (.int l1), some (.int l2), some (.int l3)]) (st := []) (w := Wd f fl g gl hh v tx) rfl (fun c1 => ?_) (fun c1 => ?_)
  · have h2 := h.1 c1
    refine WP.run hP_227 2 (c' := (23, [some (.ref 74), some (.int l1), some (.int (l2 + (1 : Int32))), none], [], Wd f fl g gl hh v tx)) rfl ?_
    exact h2
  · have h3 := h.2 c1
    refine WP.run hP_227 4 (c' := (51, [some (.ref 74), some (.int l1), some (.int l2), some (.int l3)], [.int l2, .ref 94, .int l2, .ref 94], Wd f fl g gl hh v tx)) rfl ?_
    refine WP.of (fun _ _ => Ex.lald hP_227 rfl (Wa_94 _ _ _ _ _ _ _) h3.1) ?_
    have h4 := h3.2
    refine WP.run hP_227 5 (c' := (60, [some (.ref 74), some (.int l1), some (.int l2), some (.int l3)], [.int ((31 : Int32) + l3), .ref 76, .long ((gl 94) l2.toNatClampNeg), .int l2, .ref 94], Wd f fl g gl hh v tx)) rfl ?_
    refine WP.of (fun _ _ => Ex.iald hP_227 rfl (Wa_76 _ _ _ _ _ _ _) h4.1) ?_
    have h5 := h4.2
    refine WP.run hP_227 1 (c' := (62, [some (.ref 74), some (.int l1), some (.int l2), some (.int l3)], [.int l2, .int ((g 76) ((31 : Int32) + l3).toNatClampNeg), .long ((gl 94) l2.toNatClampNeg), .int l2, .ref 94], Wd f fl g gl hh v tx)) rfl ?_
    refine WP.br hP_227 (q := l2 < ((g 76) ((31 : Int32) + l3).toNatClampNeg)) (t := 84) (f := 65) (L := [some (.ref 74), some (.int l1), some (.int l2), some (.int l3)]) (st := [.long ((gl 94) l2.toNatClampNeg), .int l2, .ref 94]) (w := Wd f fl g gl hh v tx) rfl (fun c6 => ?_) (fun c6 => ?_)
    · have h7 := h5.1 c6
      refine WP.run hP_227 2 (c' := (86, [some (.ref 74), some (.int l1), some (.int l2), some (.int l3)], [.long (((gl 94) l2.toNatClampNeg) + (0 : Int64)), .int l2, .ref 94], Wd f fl g gl hh v tx)) rfl ?_
      refine WP.of (fun _ _ => Ex.last hP_227 (w2 := Wd f fl g (va_up gl 94 (vp_updL (gl 94) (l2.toNatClampNeg) (((gl 94) l2.toNatClampNeg) + (0 : Int64)))) hh v tx) rfl (Wa_94 _ _ _ _ _ _ _) h7.1 (Ws_94 _ _ _ _ _ _ _ _)) ?_
      have h8 := h7.2
      refine WP.run hP_227 2 (c' := (37, [some (.ref 74), some (.int l1), some (.int l2), some (.int (l3 + (1 : Int32)))], [], Wd f fl g (va_up gl 94 (vp_updL (gl 94) (l2.toNatClampNeg) (((gl 94) l2.toNatClampNeg) + (0 : Int64)))) hh v tx)) rfl ?_
      exact h8
    · have h9 := h5.2 c6
      refine WP.run hP_227 8 (c' := (78, [some (.ref 74), some (.int l1), some (.int l2), some (.int l3)], [.int ((31 : Int32) + l3), .ref 76, .int l2, .ref 94, .long ((gl 94) l2.toNatClampNeg), .int l2, .ref 94], Wd f fl g gl hh v tx)) rfl ?_
      refine WP.of (fun _ _ => Ex.iald hP_227 rfl (Wa_76 _ _ _ _ _ _ _) h9.1) ?_
      have h10 := h9.2
      refine WP.run hP_227 1 (c' := (80, [some (.ref 74), some (.int l1), some (.int l2), some (.int l3)], [.int (l2 - ((g 76) ((31 : Int32) + l3).toNatClampNeg)), .ref 94, .long ((gl 94) l2.toNatClampNeg), .int l2, .ref 94], Wd f fl g gl hh v tx)) rfl ?_
      refine WP.of (fun _ _ => Ex.lald hP_227 rfl (Wa_94 _ _ _ _ _ _ _) h10.1) ?_
      have h11 := h10.2
      refine WP.run hP_227 2 (c' := (86, [some (.ref 74), some (.int l1), some (.int l2), some (.int l3)], [.long (((gl 94) l2.toNatClampNeg) + ((gl 94) (l2 - ((g 76) ((31 : Int32) + l3).toNatClampNeg)).toNatClampNeg)), .int l2, .ref 94], Wd f fl g gl hh v tx)) rfl ?_
      refine WP.of (fun _ _ => Ex.last hP_227 (w2 := Wd f fl g (va_up gl 94 (vp_updL (gl 94) (l2.toNatClampNeg) (((gl 94) l2.toNatClampNeg) + ((gl 94) (l2 - ((g 76) ((31 : Int32) + l3).toNatClampNeg)).toNatClampNeg)))) hh v tx) rfl (Wa_94 _ _ _ _ _ _ _) h11.1 (Ws_94 _ _ _ _ _ _ _ _)) ?_
      have h12 := h11.2
      refine WP.run hP_227 2 (c' := (37, [some (.ref 74), some (.int l1), some (.int l2), some (.int (l3 + (1 : Int32)))], [], Wd f fl g (va_up gl 94 (vp_updL (gl 94) (l2.toNatClampNeg) (((gl 94) l2.toNatClampNeg) + ((gl 94) (l2 - ((g 76) ((31 : Int32) + l3).toNatClampNeg)).toNatClampNeg)))) hh v tx)) rfl ?_
      exact h12

set_option maxRecDepth 20000 in
theorem b_m_seen_0 (X : mm_X) (d : Nat) (f : Nat → Int32) (fl : Nat → Int64) (g : Nat → Nat → Int32) (gl : Nat → Nat → Int64) (hh : Nat → Nat → Option Nat) (v : Nat → Value) (tx : mm_W) (p0 : Int32)  (P : Option Value → mm_W → Prop)
    (h : (((0 : Int32) ≤ p0 ∧ p0 ≤ (5 : Int32)) → (((¬ ((g 76) 57) = 6) → ((¬ (((47 : Int32) + ((g 76) 57)) < 0 ∨ 5667 ≤ ((47 : Int32) + ((g 76) 57)).toNatClampNeg)) ∧ P (some (.int (((g 76) 57) + (1 : Int32)))) (Wd (va_up f 4736 0) fl (va_up (va_up g 76 (upd (g 76) (((47 : Int32) + ((g 76) 57)).toNatClampNeg) p0)) 76 (upd (upd (g 76) (((47 : Int32) + ((g 76) 57)).toNatClampNeg) p0) 57 (((upd (g 76) (((47 : Int32) + ((g 76) 57)).toNatClampNeg) p0) 57) + (1 : Int32)))) gl hh v tx))) ∧
      ((((g 76) 57) = 6) → P (some (.int (-5))) (Wd (va_up f 4736 (-5 : Int32)) fl (va_up g 75 (upd (g 75) (5) (((g 75) 5) + (1 : Int32)))) gl hh v tx)))) ∧
    ((¬ ((0 : Int32) ≤ p0 ∧ p0 ≤ (5 : Int32))) → P (some (.int (-1))) (Wd (va_up f 4736 (-1 : Int32)) fl (va_up g 75 (upd (g 75) (1) (((g 75) 1) + (1 : Int32)))) gl hh v tx))) :
    WP X (d + 1) 228 (0, [some (.ref 74), some (.int p0), none], [], Wd f fl g gl hh v tx) P := by
  refine WP.run hP_228 3 (c' := (3, [some (.ref 74), some (.int p0), none], [.int 5, .int 0, .int p0], Wd f fl g gl hh v tx)) rfl ?_
  refine WP.call hP_228 hP_116 (as := [.int p0, .int 0, .int 5]) (pc' := 6) (L' := [some (.ref 74), some (.int p0), none]) (st' := []) (w1 := Wd f fl g gl hh v tx) rfl ⟨Nat.le_of_ble_eq_true rfl, Nat.le_of_ble_eq_true rfl⟩ rfl (b_lies_m X (d) f fl g gl hh v tx p0 0 5 _ ?_)
  refine ⟨fun c1 => ?_, fun c1 => ?_⟩
  · have h2 := h.1 c1
    refine WP.run hP_228 4 (c' := (21, [some (.ref 74), some (.int p0), none], [.int 57, .ref 76], Wd f fl g gl hh v tx)) rfl ?_
    refine WP.of (fun _ _ => Ex.iald hP_228 rfl (Wa_76 _ _ _ _ _ _ _) (by decide)) ?_
    show WP X _ 228 (22, [some (.ref 74), some (.int p0), none], [.int ((g 76) 57)], Wd f fl g gl hh v tx) P
    refine WP.run hP_228 3 (c' := (26, [some (.ref 74), some (.int p0), some (.int ((g 76) 57))], [.int 6, .int ((g 76) 57)], Wd f fl g gl hh v tx)) rfl ?_
    refine WP.br hP_228 (q := ¬ ((g 76) 57) = 6) (t := 36) (f := 29) (L := [some (.ref 74), some (.int p0), some (.int ((g 76) 57))]) (st := []) (w := Wd f fl g gl hh v tx) rfl (fun c3 => ?_) (fun c3 => ?_)
    · have h4 := h2.1 c3
      refine WP.run hP_228 6 (c' := (45, [some (.ref 74), some (.int p0), some (.int ((g 76) 57))], [.int p0, .int ((47 : Int32) + ((g 76) 57)), .ref 76], Wd f fl g gl hh v tx)) rfl ?_
      refine WP.of (fun _ _ => Ex.iast hP_228 (w2 := Wd f fl (va_up g 76 (upd (g 76) (((47 : Int32) + ((g 76) 57)).toNatClampNeg) p0)) gl hh v tx) rfl (Wa_76 _ _ _ _ _ _ _) h4.1 (Ws_76 _ _ _ _ _ _ _ _)) ?_
      have h5 := h4.2
      refine WP.run hP_228 4 (c' := (53, [some (.ref 74), some (.int p0), some (.int ((g 76) 57))], [.int 57, .ref 76, .int 57, .ref 76], Wd f fl (va_up g 76 (upd (g 76) (((47 : Int32) + ((g 76) 57)).toNatClampNeg) p0)) gl hh v tx)) rfl ?_
      refine WP.of (fun _ _ => Ex.iald hP_228 rfl (Wa_76 _ _ _ _ _ _ _) (by decide)) ?_
      show WP X _ 228 (54, [some (.ref 74), some (.int p0), some (.int ((g 76) 57))], [.int ((upd (g 76) (((47 : Int32) + ((g 76) 57)).toNatClampNeg) p0) 57), .int 57, .ref 76], Wd f fl (va_up g 76 (upd (g 76) (((47 : Int32) + ((g 76) 57)).toNatClampNeg) p0)) gl hh v tx) P
      refine WP.run hP_228 2 (c' := (56, [some (.ref 74), some (.int p0), some (.int ((g 76) 57))], [.int (((upd (g 76) (((47 : Int32) + ((g 76) 57)).toNatClampNeg) p0) 57) + (1 : Int32)), .int 57, .ref 76], Wd f fl (va_up g 76 (upd (g 76) (((47 : Int32) + ((g 76) 57)).toNatClampNeg) p0)) gl hh v tx)) rfl ?_
      refine WP.of (fun _ _ => Ex.iast hP_228 (w2 := Wd f fl (va_up (va_up g 76 (upd (g 76) (((47 : Int32) + ((g 76) 57)).toNatClampNeg) p0)) 76 (upd (upd (g 76) (((47 : Int32) + ((g 76) 57)).toNatClampNeg) p0) 57 (((upd (g 76) (((47 : Int32) + ((g 76) 57)).toNatClampNeg) p0) 57) + (1 : Int32)))) gl hh v tx) rfl (Wa_76 _ _ _ _ _ _ _) (by decide) (Ws_76 _ _ _ _ _ _ _ _)) ?_
      refine WP.run hP_228 4 (c' := (61, [some (.ref 74), some (.int p0), some (.int ((g 76) 57))], [.int (((g 76) 57) + (1 : Int32)), .ref 74], Wd f fl (va_up (va_up g 76 (upd (g 76) (((47 : Int32) + ((g 76) 57)).toNatClampNeg) p0)) 76 (upd (upd (g 76) (((47 : Int32) + ((g 76) 57)).toNatClampNeg) p0) 57 (((upd (g 76) (((47 : Int32) + ((g 76) 57)).toNatClampNeg) p0) 57) + (1 : Int32)))) gl hh v tx)) rfl ?_
      refine WP.call hP_228 hP_120 (as := [.ref 74, .int (((g 76) 57) + (1 : Int32))]) (pc' := 64) (L' := [some (.ref 74), some (.int p0), some (.int ((g 76) 57))]) (st' := []) (w1 := Wd f fl (va_up (va_up g 76 (upd (g 76) (((47 : Int32) + ((g 76) 57)).toNatClampNeg) p0)) 76 (upd (upd (g 76) (((47 : Int32) + ((g 76) 57)).toNatClampNeg) p0) 57 (((upd (g 76) (((47 : Int32) + ((g 76) 57)).toNatClampNeg) p0) 57) + (1 : Int32)))) gl hh v tx) rfl ⟨Nat.le_of_ble_eq_true rfl, Nat.le_of_ble_eq_true rfl⟩ rfl (b_m_good_0 X (d) f fl (va_up (va_up g 76 (upd (g 76) (((47 : Int32) + ((g 76) 57)).toNatClampNeg) p0)) 76 (upd (upd (g 76) (((47 : Int32) + ((g 76) 57)).toNatClampNeg) p0) 57 (((upd (g 76) (((47 : Int32) + ((g 76) 57)).toNatClampNeg) p0) 57) + (1 : Int32)))) gl hh v tx (((g 76) 57) + (1 : Int32)) _ ?_)
      exact WP.retI hP_228 rfl rfl h5
    · have h6 := h2.2 (Classical.not_not.mp c3)
      refine WP.run hP_228 2 (c' := (32, [some (.ref 74), some (.int p0), some (.int ((g 76) 57))], [.int (-5), .ref 74], Wd f fl g gl hh v tx)) rfl ?_
      refine WP.call hP_228 hP_119 (as := [.ref 74, .int (-5)]) (pc' := 35) (L' := [some (.ref 74), some (.int p0), some (.int ((g 76) 57))]) (st' := []) (w1 := Wd f fl g gl hh v tx) rfl ⟨Nat.le_of_ble_eq_true rfl, Nat.le_of_ble_eq_true rfl⟩ rfl (b_m_refuses_0 X (d) f fl g gl hh v tx (-5) _ ?_)
      refine ⟨by decide, ?_⟩
      refine ⟨by decide, ?_⟩
      exact WP.retI hP_228 rfl rfl h6
  · have h7 := h.2 c1
    refine WP.run hP_228 3 (c' := (11, [some (.ref 74), some (.int p0), none], [.int (-1), .ref 74], Wd f fl g gl hh v tx)) rfl ?_
    refine WP.call hP_228 hP_119 (as := [.ref 74, .int (-1)]) (pc' := 14) (L' := [some (.ref 74), some (.int p0), none]) (st' := []) (w1 := Wd f fl g gl hh v tx) rfl ⟨Nat.le_of_ble_eq_true rfl, Nat.le_of_ble_eq_true rfl⟩ rfl (b_m_refuses_0 X (d) f fl g gl hh v tx (-1) _ ?_)
    refine ⟨by decide, ?_⟩
    refine ⟨by decide, ?_⟩
    exact WP.retI hP_228 rfl rfl h7

set_option maxRecDepth 20000 in
theorem b_m_forget_0 (X : mm_X) (d : Nat) (f : Nat → Int32) (fl : Nat → Int64) (g : Nat → Nat → Int32) (gl : Nat → Nat → Int64) (hh : Nat → Nat → Option Nat) (v : Nat → Value) (tx : mm_W)   (P : Option Value → mm_W → Prop)
    (h : P (some (.int ((g 76) 57))) (Wd f fl (va_up g 76 (upd (g 76) 57 0)) gl hh v tx)) :
    WP X (d) 229 (0, [some (.ref 74), none], [], Wd f fl g gl hh v tx) P := by
  refine WP.run hP_229 3 (c' := (6, [some (.ref 74), none], [.int 57, .ref 76], Wd f fl g gl hh v tx)) rfl ?_
  refine WP.of (fun _ _ => Ex.iald hP_229 rfl (Wa_76 _ _ _ _ _ _ _) (by decide)) ?_
  show WP X _ 229 (7, [some (.ref 74), none], [.int ((g 76) 57)], Wd f fl g gl hh v tx) P
  refine WP.run hP_229 5 (c' := (15, [some (.ref 74), some (.int ((g 76) 57))], [.int 0, .int 57, .ref 76], Wd f fl g gl hh v tx)) rfl ?_
  refine WP.of (fun _ _ => Ex.iast hP_229 (w2 := Wd f fl (va_up g 76 (upd (g 76) 57 0)) gl hh v tx) rfl (Wa_76 _ _ _ _ _ _ _) (by decide) (Ws_76 _ _ _ _ _ _ _ _)) ?_
  refine WP.run hP_229 1 (c' := (17, [some (.ref 74), some (.int ((g 76) 57))], [.int ((g 76) 57)], Wd f fl (va_up g 76 (upd (g 76) 57 0)) gl hh v tx)) rfl ?_
  exact WP.retI hP_229 rfl rfl h

set_option maxRecDepth 20000 in
theorem b_m_fits_0 (X : mm_X) (d : Nat) (f : Nat → Int32) (fl : Nat → Int64) (g : Nat → Nat → Int32) (gl : Nat → Nat → Int64) (hh : Nat → Nat → Option Nat) (v : Nat → Value) (tx : mm_W)   (P : Option Value → mm_W → Prop)
    (h : WP X (d) 195 (0, [some (.ref 74), none, none], [], Wd f fl g gl hh v tx) (fun rv w2 => WP X (d + 1) 230 (12, [some (.ref 74), some (.int ((g 76) 57)), none, none, none, none], rv.toList ++ [], w2) P)) :
    WP X (d + 1) 230 (0, [some (.ref 74), none, none, none, none, none], [], Wd f fl g gl hh v tx) P := by
  refine WP.run hP_230 3 (c' := (6, [some (.ref 74), none, none, none, none, none], [.int 57, .ref 76], Wd f fl g gl hh v tx)) rfl ?_
  refine WP.of (fun _ _ => Ex.iald hP_230 rfl (Wa_76 _ _ _ _ _ _ _) (by decide)) ?_
  show WP X _ 230 (7, [some (.ref 74), none, none, none, none, none], [.int ((g 76) 57)], Wd f fl g gl hh v tx) P
  refine WP.run hP_230 2 (c' := (9, [some (.ref 74), some (.int ((g 76) 57)), none, none, none, none], [.ref 74], Wd f fl g gl hh v tx)) rfl ?_
  refine WP.call hP_230 hP_195 (as := [.ref 74]) (pc' := 12) (L' := [some (.ref 74), some (.int ((g 76) 57)), none, none, none, none]) (st' := []) (w1 := Wd f fl g gl hh v tx) rfl ⟨Nat.le_of_ble_eq_true rfl, Nat.le_of_ble_eq_true rfl⟩ rfl ?_
  exact h

set_option maxRecDepth 20000 in
theorem b_m_fits_12 (X : mm_X) (d : Nat) (f : Nat → Int32) (fl : Nat → Int64) (g : Nat → Nat → Int32) (gl : Nat → Nat → Int64) (hh : Nat → Nat → Option Nat) (v : Nat → Value) (tx : mm_W) (l1 : Int32) (s0 : Int32)  (P : Option Value → mm_W → Prop)
    (h : WP X (d) 230 (15, [some (.ref 74), some (.int l1), some (.int 0), none, none, none], [], Wd f fl g gl hh v tx) P) :
    WP X (d) 230 (12, [some (.ref 74), some (.int l1), none, none, none, none], [.int s0], Wd f fl g gl hh v tx) P := by
  refine WP.run hP_230 3 (c' := (15, [some (.ref 74), some (.int l1), some (.int 0), none, none, none], [], Wd f fl g gl hh v tx)) rfl ?_
  exact h

set_option maxRecDepth 20000 in
theorem b_m_fits_15 (X : mm_X) (d : Nat) (f : Nat → Int32) (fl : Nat → Int64) (g : Nat → Nat → Int32) (gl : Nat → Nat → Int64) (hh : Nat → Nat → Option Nat) (v : Nat → Value) (tx : mm_W) (l1 : Int32) (l2 : Int32)  (P : Option Value → mm_W → Prop)
    (h : ((((g 76) 12) < l2) → WP X (d + 1) 230 (50, [some (.ref 74), none, some (.int (l1 - (1 : Int32))), none, none, none], [], Wd f fl g gl hh v tx) P) ∧
    ((¬ (((g 76) 12) < l2)) → ((¬ (l2 < 0 ∨ 13 ≤ l2.toNatClampNeg)) ∧ ((¬ ((((7 : Int32) * l2) + l1) < 0 ∨ 91 ≤ (((7 : Int32) * l2) + l1).toNatClampNeg)) ∧ WP X (d + 1) 230 (15, [some (.ref 74), some (.int l1), some (.int (l2 + (1 : Int32))), none, none, none], [], Wd f fl (va_up g 95 (upd (g 95) ((((7 : Int32) * l2) + l1).toNatClampNeg) ((g 87) l2.toNatClampNeg))) gl hh v tx) P)))) :
    WP X (d + 1) 230 (15, [some (.ref 74), some (.int l1), some (.int l2), none, none, none], [], Wd f fl g gl hh v tx) P := by
  refine WP.run hP_230 2 (c' := (17, [some (.ref 74), some (.int l1), some (.int l2), none, none, none], [.ref 74, .int l2], Wd f fl g gl hh v tx)) rfl ?_
  refine WP.call hP_230 hP_130 (as := [.ref 74]) (pc' := 20) (L' := [some (.ref 74), some (.int l1), some (.int l2), none, none, none]) (st' := [.int l2]) (w1 := Wd f fl g gl hh v tx) rfl ⟨Nat.le_of_ble_eq_true rfl, Nat.le_of_ble_eq_true rfl⟩ rfl (b_m_size_0 X (d) f fl g gl hh v tx  _ ?_)
  refine WP.br hP_230 (q := ((g 76) 12) < l2) (t := 46) (f := 23) (L := [some (.ref 74), some (.int l1), some (.int l2), none, none, none]) (st := []) (w := Wd f fl g gl hh v tx) rfl (fun c1 => ?_) (fun c1 => ?_)
  · have h2 := h.1 c1
    refine WP.run hP_230 3 (c' := (49, [some (.ref 74), some (.int l1), none, none, none, none], [.int (l1 - (1 : Int32))], Wd f fl g gl hh v tx)) rfl ?_
    refine WP.run hP_230 1 (c' := (50, [some (.ref 74), some (.int l1), some (.int (l1 - (1 : Int32))), none, none, none], [], Wd f fl g gl hh v tx)) rfl ?_
    refine WP.clr hP_230 (pc := 50) rfl ?_
    exact h2
  · have h3 := h.2 c1
    refine WP.run hP_230 10 (c' := (38, [some (.ref 74), some (.int l1), some (.int l2), none, none, none], [.int l2, .ref 87, .int (((7 : Int32) * l2) + l1), .ref 95], Wd f fl g gl hh v tx)) rfl ?_
    refine WP.of (fun _ _ => Ex.iald hP_230 rfl (Wa_87 _ _ _ _ _ _ _) h3.1) ?_
    have h4 := h3.2
    refine WP.of (fun _ _ => Ex.iast hP_230 (w2 := Wd f fl (va_up g 95 (upd (g 95) ((((7 : Int32) * l2) + l1).toNatClampNeg) ((g 87) l2.toNatClampNeg))) gl hh v tx) rfl (Wa_95 _ _ _ _ _ _ _) h4.1 (Ws_95 _ _ _ _ _ _ _ _)) ?_
    have h5 := h4.2
    refine WP.run hP_230 2 (c' := (15, [some (.ref 74), some (.int l1), some (.int (l2 + (1 : Int32))), none, none, none], [], Wd f fl (va_up g 95 (upd (g 95) ((((7 : Int32) * l2) + l1).toNatClampNeg) ((g 87) l2.toNatClampNeg))) gl hh v tx)) rfl ?_
    exact h5

set_option maxRecDepth 20000 in
theorem b_m_fits_50 (X : mm_X) (d : Nat) (f : Nat → Int32) (fl : Nat → Int64) (g : Nat → Nat → Int32) (gl : Nat → Nat → Int64) (hh : Nat → Nat → Option Nat) (v : Nat → Value) (tx : mm_W) (l2 : Int32)  (P : Option Value → mm_W → Prop)
    (h : ((l2 < 0) → P (some (.int ((g 95) 0))) (Wd f fl g gl hh v tx)) ∧
    ((¬ (l2 < 0)) → WP X (d) 230 (56, [some (.ref 74), none, some (.int l2), some (.int 0), none, none], [], Wd f fl g gl hh v tx) P)) :
    WP X (d) 230 (50, [some (.ref 74), none, some (.int l2), none, none, none], [], Wd f fl g gl hh v tx) P := by
  refine WP.run hP_230 1 (c' := (51, [some (.ref 74), none, some (.int l2), none, none, none], [.int l2], Wd f fl g gl hh v tx)) rfl ?_
  refine WP.br hP_230 (q := l2 < 0) (t := 175) (f := 54) (L := [some (.ref 74), none, some (.int l2), none, none, none]) (st := []) (w := Wd f fl g gl hh v tx) rfl (fun c1 => ?_) (fun c1 => ?_)
  · have h2 := h.1 c1
    refine WP.run hP_230 3 (c' := (180, [some (.ref 74), none, none, none, none, none], [.int 0, .ref 95], Wd f fl g gl hh v tx)) rfl ?_
    refine WP.of (fun _ _ => Ex.iald hP_230 rfl (Wa_95 _ _ _ _ _ _ _) (by decide)) ?_
    show WP X _ 230 (181, [some (.ref 74), none, none, none, none, none], [.int ((g 95) 0)], Wd f fl g gl hh v tx) P
    exact WP.retI hP_230 rfl rfl h2
  · have h3 := h.2 c1
    refine WP.run hP_230 2 (c' := (56, [some (.ref 74), none, some (.int l2), some (.int 0), none, none], [], Wd f fl g gl hh v tx)) rfl ?_
    exact h3

set_option maxRecDepth 20000 in
theorem b_m_fits_56 (X : mm_X) (d : Nat) (f : Nat → Int32) (fl : Nat → Int64) (g : Nat → Nat → Int32) (gl : Nat → Nat → Int64) (hh : Nat → Nat → Option Nat) (v : Nat → Value) (tx : mm_W) (l2 : Int32) (l3 : Int32)  (P : Option Value → mm_W → Prop)
    (h : ((((g 76) 12) < l3) → WP X (d + 1) 230 (50, [some (.ref 74), none, some (.int (l2 + (-1 : Int32))), none, none, none], [], Wd f fl g gl hh v tx) P) ∧
    ((¬ (((g 76) 12) < l3)) → WP X (d + 1) 230 (70, [some (.ref 74), none, some (.int l2), some (.int l3), some (.int 0), some (.int 0)], [], Wd f fl g gl hh v tx) P)) :
    WP X (d + 1) 230 (56, [some (.ref 74), none, some (.int l2), some (.int l3), none, none], [], Wd f fl g gl hh v tx) P := by
  refine WP.run hP_230 2 (c' := (58, [some (.ref 74), none, some (.int l2), some (.int l3), none, none], [.ref 74, .int l3], Wd f fl g gl hh v tx)) rfl ?_
  refine WP.call hP_230 hP_130 (as := [.ref 74]) (pc' := 61) (L' := [some (.ref 74), none, some (.int l2), some (.int l3), none, none]) (st' := [.int l3]) (w1 := Wd f fl g gl hh v tx) rfl ⟨Nat.le_of_ble_eq_true rfl, Nat.le_of_ble_eq_true rfl⟩ rfl (b_m_size_0 X (d) f fl g gl hh v tx  _ ?_)
  refine WP.br hP_230 (q := ((g 76) 12) < l3) (t := 169) (f := 64) (L := [some (.ref 74), none, some (.int l2), some (.int l3), none, none]) (st := []) (w := Wd f fl g gl hh v tx) rfl (fun c1 => ?_) (fun c1 => ?_)
  · have h2 := h.1 c1
    refine WP.run hP_230 2 (c' := (50, [some (.ref 74), none, some (.int (l2 + (-1 : Int32))), none, none, none], [], Wd f fl g gl hh v tx)) rfl ?_
    exact h2
  · have h3 := h.2 c1
    refine WP.run hP_230 3 (c' := (68, [some (.ref 74), none, some (.int l2), some (.int l3), some (.int 0), none], [.int 0], Wd f fl g gl hh v tx)) rfl ?_
    refine WP.run hP_230 1 (c' := (70, [some (.ref 74), none, some (.int l2), some (.int l3), some (.int 0), some (.int 0)], [], Wd f fl g gl hh v tx)) rfl ?_
    exact h3

set_option maxRecDepth 20000 in
theorem b_m_fits_70 (X : mm_X) (d : Nat) (f : Nat → Int32) (fl : Nat → Int64) (g : Nat → Nat → Int32) (gl : Nat → Nat → Int64) (hh : Nat → Nat → Option Nat) (v : Nat → Value) (tx : mm_W) (l2 : Int32) (l3 : Int32) (l4 : Int32) (l5 : Int32)  (P : Option Value → mm_W → Prop)
    (h : ((((g 76) 55) ≤ l5) → ((¬ ((((7 : Int32) * l3) + l2) < 0 ∨ 91 ≤ (((7 : Int32) * l3) + l2).toNatClampNeg)) ∧ WP X (d + 1) 230 (56, [some (.ref 74), none, some (.int l2), some (.int (l3 + (1 : Int32))), none, none], [], Wd f fl (va_up g 95 (upd (g 95) ((((7 : Int32) * l3) + l2).toNatClampNeg) l4)) gl hh v tx) P)) ∧
    ((¬ (((g 76) 55) ≤ l5)) → ((¬ (((39 : Int32) + l5) < 0 ∨ 5667 ≤ ((39 : Int32) + l5).toNatClampNeg)) ∧ ((¬ (((47 : Int32) + l2) < 0 ∨ 5667 ≤ ((47 : Int32) + l2).toNatClampNeg)) ∧ (((¬ ((g 76) ((39 : Int32) + l5).toNatClampNeg) = ((g 76) ((47 : Int32) + l2).toNatClampNeg)) → WP X (d + 1) 230 (70, [some (.ref 74), none, some (.int l2), some (.int l3), some (.int (l4 + (0 : Int32))), some (.int (l5 + (1 : Int32)))], [], Wd f fl g gl hh v tx) P) ∧
      ((((g 76) ((39 : Int32) + l5).toNatClampNeg) = ((g 76) ((47 : Int32) + l2).toNatClampNeg)) → WP X (d) 194 (0, [some (.ref 74), some (.int l5), some (.int l3), none, none], [], Wd f fl g gl hh v tx) (fun rv w2 => WP X (d + 1) 230 (110, [some (.ref 74), none, some (.int l2), some (.int l3), some (.int l4), some (.int l5)], rv.toList ++ [.int l4], w2) P))))))) :
    WP X (d + 1) 230 (70, [some (.ref 74), none, some (.int l2), some (.int l3), some (.int l4), some (.int l5)], [], Wd f fl g gl hh v tx) P := by
  refine WP.run hP_230 2 (c' := (73, [some (.ref 74), none, some (.int l2), some (.int l3), some (.int l4), some (.int l5)], [.ref 74, .int l5], Wd f fl g gl hh v tx)) rfl ?_
  refine WP.call hP_230 hP_129 (as := [.ref 74]) (pc' := 76) (L' := [some (.ref 74), none, some (.int l2), some (.int l3), some (.int l4), some (.int l5)]) (st' := [.int l5]) (w1 := Wd f fl g gl hh v tx) rfl ⟨Nat.le_of_ble_eq_true rfl, Nat.le_of_ble_eq_true rfl⟩ rfl (b_m_signMany_0 X (d) f fl g gl hh v tx  _ ?_)
  refine WP.br hP_230 (q := ((g 76) 55) ≤ l5) (t := 150) (f := 79) (L := [some (.ref 74), none, some (.int l2), some (.int l3), some (.int l4), some (.int l5)]) (st := []) (w := Wd f fl g gl hh v tx) rfl (fun c1 => ?_) (fun c1 => ?_)
  · have h2 := h.1 c1
    refine WP.run hP_230 8 (c' := (162, [some (.ref 74), none, some (.int l2), some (.int l3), some (.int l4), none], [.int l4, .int (((7 : Int32) * l3) + l2), .ref 95], Wd f fl g gl hh v tx)) rfl ?_
    refine WP.of (fun _ _ => Ex.iast hP_230 (w2 := Wd f fl (va_up g 95 (upd (g 95) ((((7 : Int32) * l3) + l2).toNatClampNeg) l4)) gl hh v tx) rfl (Wa_95 _ _ _ _ _ _ _) h2.1 (Ws_95 _ _ _ _ _ _ _ _)) ?_
    have h3 := h2.2
    refine WP.run hP_230 2 (c' := (56, [some (.ref 74), none, some (.int l2), some (.int (l3 + (1 : Int32))), some (.int l4), none], [], Wd f fl (va_up g 95 (upd (g 95) ((((7 : Int32) * l3) + l2).toNatClampNeg) l4)) gl hh v tx)) rfl ?_
    refine WP.clr hP_230 (pc := 56) rfl ?_
    exact h3
  · have h4 := h.2 c1
    refine WP.run hP_230 6 (c' := (90, [some (.ref 74), none, some (.int l2), some (.int l3), some (.int l4), some (.int l5)], [.int ((39 : Int32) + l5), .ref 76, .int l4], Wd f fl g gl hh v tx)) rfl ?_
    refine WP.of (fun _ _ => Ex.iald hP_230 rfl (Wa_76 _ _ _ _ _ _ _) h4.1) ?_
    have h5 := h4.2
    refine WP.run hP_230 5 (c' := (99, [some (.ref 74), none, some (.int l2), some (.int l3), some (.int l4), some (.int l5)], [.int ((47 : Int32) + l2), .ref 76, .int ((g 76) ((39 : Int32) + l5).toNatClampNeg), .int l4], Wd f fl g gl hh v tx)) rfl ?_
    refine WP.of (fun _ _ => Ex.iald hP_230 rfl (Wa_76 _ _ _ _ _ _ _) h5.1) ?_
    have h6 := h5.2
    refine WP.br hP_230 (q := ¬ ((g 76) ((39 : Int32) + l5).toNatClampNeg) = ((g 76) ((47 : Int32) + l2).toNatClampNeg)) (t := 140) (f := 103) (L := [some (.ref 74), none, some (.int l2), some (.int l3), some (.int l4), some (.int l5)]) (st := [.int l4]) (w := Wd f fl g gl hh v tx) rfl (fun c7 => ?_) (fun c7 => ?_)
    · have h8 := h6.1 c7
      refine WP.run hP_230 1 (c' := (141, [some (.ref 74), none, some (.int l2), some (.int l3), none, some (.int l5)], [.int 0, .int l4], Wd f fl g gl hh v tx)) rfl ?_
      refine WP.run hP_230 1 (c' := (142, [some (.ref 74), none, some (.int l2), some (.int l3), none, some (.int l5)], [.int (l4 + (0 : Int32))], Wd f fl g gl hh v tx)) rfl ?_
      refine WP.run hP_230 1 (c' := (144, [some (.ref 74), none, some (.int l2), some (.int l3), some (.int (l4 + (0 : Int32))), some (.int l5)], [], Wd f fl g gl hh v tx)) rfl ?_
      refine WP.run hP_230 2 (c' := (70, [some (.ref 74), none, some (.int l2), some (.int l3), some (.int (l4 + (0 : Int32))), some (.int (l5 + (1 : Int32)))], [], Wd f fl g gl hh v tx)) rfl ?_
      exact h8
    · have h9 := h6.2 (Classical.not_not.mp c7)
      refine WP.run hP_230 3 (c' := (107, [some (.ref 74), none, some (.int l2), some (.int l3), some (.int l4), some (.int l5)], [.int l3, .int l5, .ref 74, .int l4], Wd f fl g gl hh v tx)) rfl ?_
      refine WP.call hP_230 hP_194 (as := [.ref 74, .int l5, .int l3]) (pc' := 110) (L' := [some (.ref 74), none, some (.int l2), some (.int l3), some (.int l4), some (.int l5)]) (st' := [.int l4]) (w1 := Wd f fl g gl hh v tx) rfl ⟨Nat.le_of_ble_eq_true rfl, Nat.le_of_ble_eq_true rfl⟩ rfl ?_
      exact h9

set_option maxRecDepth 20000 in
theorem b_m_fits_110 (X : mm_X) (d : Nat) (f : Nat → Int32) (fl : Nat → Int64) (g : Nat → Nat → Int32) (gl : Nat → Nat → Int64) (hh : Nat → Nat → Option Nat) (v : Nat → Value) (tx : mm_W) (l2 : Int32) (l3 : Int32) (l4 : Int32) (l5 : Int32) (s0 : Int32) (s1 : Int32)  (P : Option Value → mm_W → Prop)
    (h : ((¬ s0 = 0) → WP X (d) 230 (70, [some (.ref 74), none, some (.int l2), some (.int l3), some (.int (s1 + (0 : Int32))), some (.int (l5 + (1 : Int32)))], [], Wd f fl g gl hh v tx) P) ∧
    ((s0 = 0) → ((¬ (((31 : Int32) + l5) < 0 ∨ 5667 ≤ ((31 : Int32) + l5).toNatClampNeg)) ∧ ((¬ (((((7 : Int32) * (l3 + ((g 76) ((31 : Int32) + l5).toNatClampNeg))) + l2) + (1 : Int32)) < 0 ∨ 91 ≤ ((((7 : Int32) * (l3 + ((g 76) ((31 : Int32) + l5).toNatClampNeg))) + l2) + (1 : Int32)).toNatClampNeg)) ∧ WP X (d) 230 (70, [some (.ref 74), none, some (.int l2), some (.int l3), some (.int (s1 + ((g 95) ((((7 : Int32) * (l3 + ((g 76) ((31 : Int32) + l5).toNatClampNeg))) + l2) + (1 : Int32)).toNatClampNeg))), some (.int (l5 + (1 : Int32)))], [], Wd f fl g gl hh v tx) P)))) :
    WP X (d) 230 (110, [some (.ref 74), none, some (.int l2), some (.int l3), some (.int l4), some (.int l5)], [.int s0, .int s1], Wd f fl g gl hh v tx) P := by
  refine WP.br hP_230 (q := ¬ s0 = 0) (t := 140) (f := 113) (L := [some (.ref 74), none, some (.int l2), some (.int l3), some (.int l4), some (.int l5)]) (st := [.int s1]) (w := Wd f fl g gl hh v tx) rfl (fun c1 => ?_) (fun c1 => ?_)
  · have h2 := h.1 c1
    refine WP.run hP_230 1 (c' := (141, [some (.ref 74), none, some (.int l2), some (.int l3), none, some (.int l5)], [.int 0, .int s1], Wd f fl g gl hh v tx)) rfl ?_
    refine WP.run hP_230 1 (c' := (142, [some (.ref 74), none, some (.int l2), some (.int l3), none, some (.int l5)], [.int (s1 + (0 : Int32))], Wd f fl g gl hh v tx)) rfl ?_
    refine WP.run hP_230 1 (c' := (144, [some (.ref 74), none, some (.int l2), some (.int l3), some (.int (s1 + (0 : Int32))), some (.int l5)], [], Wd f fl g gl hh v tx)) rfl ?_
    refine WP.run hP_230 2 (c' := (70, [some (.ref 74), none, some (.int l2), some (.int l3), some (.int (s1 + (0 : Int32))), some (.int (l5 + (1 : Int32)))], [], Wd f fl g gl hh v tx)) rfl ?_
    exact h2
  · have h3 := h.2 (Classical.not_not.mp c1)
    refine WP.run hP_230 9 (c' := (129, [some (.ref 74), none, some (.int l2), some (.int l3), some (.int l4), some (.int l5)], [.int ((31 : Int32) + l5), .ref 76, .int l3, .int 7, .ref 95, .int s1], Wd f fl g gl hh v tx)) rfl ?_
    refine WP.of (fun _ _ => Ex.iald hP_230 rfl (Wa_76 _ _ _ _ _ _ _) h3.1) ?_
    have h4 := h3.2
    refine WP.run hP_230 6 (c' := (136, [some (.ref 74), none, some (.int l2), some (.int l3), some (.int l4), some (.int l5)], [.int ((((7 : Int32) * (l3 + ((g 76) ((31 : Int32) + l5).toNatClampNeg))) + l2) + (1 : Int32)), .ref 95, .int s1], Wd f fl g gl hh v tx)) rfl ?_
    refine WP.of (fun _ _ => Ex.iald hP_230 rfl (Wa_95 _ _ _ _ _ _ _) h4.1) ?_
    have h5 := h4.2
    refine WP.run hP_230 2 (c' := (142, [some (.ref 74), none, some (.int l2), some (.int l3), none, some (.int l5)], [.int (s1 + ((g 95) ((((7 : Int32) * (l3 + ((g 76) ((31 : Int32) + l5).toNatClampNeg))) + l2) + (1 : Int32)).toNatClampNeg))], Wd f fl g gl hh v tx)) rfl ?_
    refine WP.run hP_230 1 (c' := (144, [some (.ref 74), none, some (.int l2), some (.int l3), some (.int (s1 + ((g 95) ((((7 : Int32) * (l3 + ((g 76) ((31 : Int32) + l5).toNatClampNeg))) + l2) + (1 : Int32)).toNatClampNeg))), some (.int l5)], [], Wd f fl g gl hh v tx)) rfl ?_
    refine WP.run hP_230 2 (c' := (70, [some (.ref 74), none, some (.int l2), some (.int l3), some (.int (s1 + ((g 95) ((((7 : Int32) * (l3 + ((g 76) ((31 : Int32) + l5).toNatClampNeg))) + l2) + (1 : Int32)).toNatClampNeg))), some (.int (l5 + (1 : Int32)))], [], Wd f fl g gl hh v tx)) rfl ?_
    exact h5

set_option maxRecDepth 20000 in
theorem b_m_few_0 (X : mm_X) (d : Nat) (f : Nat → Int32) (fl : Nat → Int64) (g : Nat → Nat → Int32) (gl : Nat → Nat → Int64) (hh : Nat → Nat → Option Nat) (v : Nat → Value) (tx : mm_W) (p0 : Int32) (p1 : Int32)  (P : Option Value → mm_W → Prop)
    (h : (((1 : Int32) ≤ p0 ∧ p0 ≤ (20 : Int32)) → ((((0 : Int32) ≤ p1 ∧ p1 ≤ (99 : Int32)) → WP X (d + 1) 231 (26, [some (.ref 74), some (.int p0), some (.int p1), some (.int 0), none, none], [], Wd f fl g gl hh v tx) P) ∧
      ((¬ ((0 : Int32) ≤ p1 ∧ p1 ≤ (99 : Int32))) → P (some (.long (-1))) (Wd f fl g gl hh v tx)))) ∧
    ((¬ ((1 : Int32) ≤ p0 ∧ p0 ≤ (20 : Int32))) → P (some (.long (-1))) (Wd f fl g gl hh v tx))) :
    WP X (d + 1) 231 (0, [some (.ref 74), some (.int p0), some (.int p1), none, none, none], [], Wd f fl g gl hh v tx) P := by
  refine WP.run hP_231 3 (c' := (4, [some (.ref 74), some (.int p0), some (.int p1), none, none, none], [.int 20, .int 1, .int p0], Wd f fl g gl hh v tx)) rfl ?_
  refine WP.call hP_231 hP_116 (as := [.int p0, .int 1, .int 20]) (pc' := 7) (L' := [some (.ref 74), some (.int p0), some (.int p1), none, none, none]) (st' := []) (w1 := Wd f fl g gl hh v tx) rfl ⟨Nat.le_of_ble_eq_true rfl, Nat.le_of_ble_eq_true rfl⟩ rfl (b_lies_m X (d) f fl g gl hh v tx p0 1 20 _ ?_)
  refine ⟨fun c1 => ?_, fun c1 => ?_⟩
  · have h2 := h.1 c1
    refine WP.run hP_231 4 (c' := (14, [some (.ref 74), some (.int p0), some (.int p1), none, none, none], [.int 99, .int 0, .int p1], Wd f fl g gl hh v tx)) rfl ?_
    refine WP.call hP_231 hP_116 (as := [.int p1, .int 0, .int 99]) (pc' := 17) (L' := [some (.ref 74), some (.int p0), some (.int p1), none, none, none]) (st' := []) (w1 := Wd f fl g gl hh v tx) rfl ⟨Nat.le_of_ble_eq_true rfl, Nat.le_of_ble_eq_true rfl⟩ rfl (b_lies_m X (d) f fl g gl hh v tx p1 0 99 _ ?_)
    refine ⟨fun c3 => ?_, fun c3 => ?_⟩
    · have h4 := h2.1 c3
      refine WP.run hP_231 2 (c' := (25, [some (.ref 74), some (.int p0), some (.int p1), none, none, none], [.int 0], Wd f fl g gl hh v tx)) rfl ?_
      refine WP.run hP_231 1 (c' := (26, [some (.ref 74), some (.int p0), some (.int p1), some (.int 0), none, none], [], Wd f fl g gl hh v tx)) rfl ?_
      exact h4
    · have h5 := h2.2 c3
      refine WP.run hP_231 2 (c' := (23, [none, none, none, none, none, none], [.long (-1)], Wd f fl g gl hh v tx)) rfl ?_
      exact WP.ret hP_231 (r := some (.long (-1))) (w' := Wd f fl g gl hh v tx) rfl h5
  · have h6 := h.2 c1
    refine WP.run hP_231 2 (c' := (23, [none, none, none, none, none, none], [.long (-1)], Wd f fl g gl hh v tx)) rfl ?_
    exact WP.ret hP_231 (r := some (.long (-1))) (w' := Wd f fl g gl hh v tx) rfl h6

set_option maxRecDepth 20000 in
theorem b_m_few_26 (X : mm_X) (d : Nat) (f : Nat → Int32) (fl : Nat → Int64) (g : Nat → Nat → Int32) (gl : Nat → Nat → Int64) (hh : Nat → Nat → Option Nat) (v : Nat → Value) (tx : mm_W) (l1 : Int32) (l2 : Int32) (l3 : Int32)  (P : Option Value → mm_W → Prop)
    (h : ((20 < l3) → WP X (d) 231 (57, [some (.ref 74), some (.int l1), some (.int l2), some (.int 0), none, none], [], Wd f fl g gl hh v tx) P) ∧
    ((¬ (20 < l3)) → (((¬ l3 = 0) → ((¬ (l3 < 0 ∨ 21 ≤ l3.toNatClampNeg)) ∧ WP X (d) 231 (26, [some (.ref 74), some (.int l1), some (.int l2), some (.int (l3 + (1 : Int32))), none, none], [], Wd f fl g (va_up gl 96 (vp_updL (gl 96) (l3.toNatClampNeg) 0)) hh v tx) P)) ∧
      ((l3 = 0) → ((¬ (l3 < 0 ∨ 21 ≤ l3.toNatClampNeg)) ∧ WP X (d) 231 (26, [some (.ref 74), some (.int l1), some (.int l2), some (.int (l3 + (1 : Int32))), none, none], [], Wd f fl g (va_up gl 96 (vp_updL (gl 96) (l3.toNatClampNeg) 1000000000000)) hh v tx) P))))) :
    WP X (d) 231 (26, [some (.ref 74), some (.int l1), some (.int l2), some (.int l3), none, none], [], Wd f fl g gl hh v tx) P := by
  refine WP.run hP_231 2 (c' := (29, [some (.ref 74), some (.int l1), some (.int l2), some (.int l3), none, none], [.int 20, .int l3], Wd f fl g gl hh v tx)) rfl ?_
  refine WP.br hP_231 (q := 20 < l3) (t := 55) (f := 32) (L := [some (.ref 74), some (.int l1), some (.int l2), some (.int l3), none, none]) (st := []) (w := Wd f fl g gl hh v tx) rfl (fun c1 => ?_) (fun c1 => ?_)
  · have h2 := h.1 c1
    refine WP.run hP_231 1 (c' := (56, [some (.ref 74), some (.int l1), some (.int l2), none, none, none], [.int 0], Wd f fl g gl hh v tx)) rfl ?_
    refine WP.run hP_231 1 (c' := (57, [some (.ref 74), some (.int l1), some (.int l2), some (.int 0), none, none], [], Wd f fl g gl hh v tx)) rfl ?_
    exact h2
  · have h3 := h.2 c1
    refine WP.run hP_231 4 (c' := (38, [some (.ref 74), some (.int l1), some (.int l2), some (.int l3), none, none], [.int l3, .int l3, .ref 96], Wd f fl g gl hh v tx)) rfl ?_
    refine WP.br hP_231 (q := ¬ l3 = 0) (t := 47) (f := 41) (L := [some (.ref 74), some (.int l1), some (.int l2), some (.int l3), none, none]) (st := [.int l3, .ref 96]) (w := Wd f fl g gl hh v tx) rfl (fun c4 => ?_) (fun c4 => ?_)
    · have h5 := h3.1 c4
      refine WP.run hP_231 1 (c' := (48, [some (.ref 74), some (.int l1), some (.int l2), some (.int l3), none, none], [.long 0, .int l3, .ref 96], Wd f fl g gl hh v tx)) rfl ?_
      refine WP.of (fun _ _ => Ex.last hP_231 (w2 := Wd f fl g (va_up gl 96 (vp_updL (gl 96) (l3.toNatClampNeg) 0)) hh v tx) rfl (Wa_96 _ _ _ _ _ _ _) h5.1 (Ws_96 _ _ _ _ _ _ _ _)) ?_
      have h6 := h5.2
      refine WP.run hP_231 2 (c' := (26, [some (.ref 74), some (.int l1), some (.int l2), some (.int (l3 + (1 : Int32))), none, none], [], Wd f fl g (va_up gl 96 (vp_updL (gl 96) (l3.toNatClampNeg) 0)) hh v tx)) rfl ?_
      exact h6
    · have h7 := h3.2 (Classical.not_not.mp c4)
      refine WP.run hP_231 2 (c' := (48, [some (.ref 74), some (.int l1), some (.int l2), some (.int l3), none, none], [.long 1000000000000, .int l3, .ref 96], Wd f fl g gl hh v tx)) rfl ?_
      refine WP.of (fun _ _ => Ex.last hP_231 (w2 := Wd f fl g (va_up gl 96 (vp_updL (gl 96) (l3.toNatClampNeg) 1000000000000)) hh v tx) rfl (Wa_96 _ _ _ _ _ _ _) h7.1 (Ws_96 _ _ _ _ _ _ _ _)) ?_
      have h8 := h7.2
      refine WP.run hP_231 2 (c' := (26, [some (.ref 74), some (.int l1), some (.int l2), some (.int (l3 + (1 : Int32))), none, none], [], Wd f fl g (va_up gl 96 (vp_updL (gl 96) (l3.toNatClampNeg) 1000000000000)) hh v tx)) rfl ?_
      exact h8

set_option maxRecDepth 20000 in
theorem b_m_few_57 (X : mm_X) (d : Nat) (f : Nat → Int32) (fl : Nat → Int64) (g : Nat → Nat → Int32) (gl : Nat → Nat → Int64) (hh : Nat → Nat → Option Nat) (v : Nat → Value) (tx : mm_W) (l1 : Int32) (l2 : Int32) (l3 : Int32)  (P : Option Value → mm_W → Prop)
    (h : ((l2 ≤ l3) → WP X (d) 231 (151, [some (.ref 74), some (.int l1), none, some (.long 0), none, some (.int 0)], [], Wd f fl g gl hh v tx) P) ∧
    ((¬ (l2 ≤ l3)) → WP X (d) 231 (67, [some (.ref 74), some (.int l1), some (.int l2), some (.int l3), some (.int (l1 - (1 : Int32))), none], [], Wd f fl g gl hh v tx) P)) :
    WP X (d) 231 (57, [some (.ref 74), some (.int l1), some (.int l2), some (.int l3), none, none], [], Wd f fl g gl hh v tx) P := by
  refine WP.run hP_231 2 (c' := (59, [some (.ref 74), some (.int l1), some (.int l2), some (.int l3), none, none], [.int l2, .int l3], Wd f fl g gl hh v tx)) rfl ?_
  refine WP.br hP_231 (q := l2 ≤ l3) (t := 146) (f := 62) (L := [some (.ref 74), some (.int l1), some (.int l2), some (.int l3), none, none]) (st := []) (w := Wd f fl g gl hh v tx) rfl (fun c1 => ?_) (fun c1 => ?_)
  · have h2 := h.1 c1
    refine WP.run hP_231 1 (c' := (147, [some (.ref 74), some (.int l1), none, none, none, none], [.long 0], Wd f fl g gl hh v tx)) rfl ?_
    refine WP.run hP_231 2 (c' := (149, [some (.ref 74), some (.int l1), none, some (.long 0), none, none], [.int 0], Wd f fl g gl hh v tx)) rfl ?_
    refine WP.run hP_231 1 (c' := (151, [some (.ref 74), some (.int l1), none, some (.long 0), none, some (.int 0)], [], Wd f fl g gl hh v tx)) rfl ?_
    exact h2
  · have h3 := h.2 c1
    refine WP.run hP_231 4 (c' := (67, [some (.ref 74), some (.int l1), some (.int l2), some (.int l3), some (.int (l1 - (1 : Int32))), none], [], Wd f fl g gl hh v tx)) rfl ?_
    exact h3

set_option maxRecDepth 20000 in
theorem b_m_few_151 (X : mm_X) (d : Nat) (f : Nat → Int32) (fl : Nat → Int64) (g : Nat → Nat → Int32) (gl : Nat → Nat → Int64) (hh : Nat → Nat → Option Nat) (v : Nat → Value) (tx : mm_W) (l1 : Int32) (l3 : Int64) (l5 : Int32)  (P : Option Value → mm_W → Prop)
    (h : ((l1 ≤ l5) → P (some (.long l3)) (Wd f fl g gl hh v tx)) ∧
    ((¬ (l1 ≤ l5)) → ((¬ (l5 < 0 ∨ 21 ≤ l5.toNatClampNeg)) ∧ WP X (d) 231 (151, [some (.ref 74), some (.int l1), none, some (.long (l3 + ((gl 96) l5.toNatClampNeg))), none, some (.int (l5 + (1 : Int32)))], [], Wd f fl g gl hh v tx) P))) :
    WP X (d) 231 (151, [some (.ref 74), some (.int l1), none, some (.long l3), none, some (.int l5)], [], Wd f fl g gl hh v tx) P := by
  refine WP.run hP_231 2 (c' := (154, [some (.ref 74), some (.int l1), none, some (.long l3), none, some (.int l5)], [.int l1, .int l5], Wd f fl g gl hh v tx)) rfl ?_
  refine WP.br hP_231 (q := l1 ≤ l5) (t := 173) (f := 157) (L := [some (.ref 74), some (.int l1), none, some (.long l3), none, some (.int l5)]) (st := []) (w := Wd f fl g gl hh v tx) rfl (fun c1 => ?_) (fun c1 => ?_)
  · have h2 := h.1 c1
    refine WP.run hP_231 1 (c' := (174, [none, none, none, some (.long l3), none, none], [.long l3], Wd f fl g gl hh v tx)) rfl ?_
    exact WP.ret hP_231 (r := some (.long l3)) (w' := Wd f fl g gl hh v tx) rfl h2
  · have h3 := h.2 c1
    refine WP.run hP_231 4 (c' := (164, [some (.ref 74), some (.int l1), none, some (.long l3), none, some (.int l5)], [.int l5, .ref 96, .long l3], Wd f fl g gl hh v tx)) rfl ?_
    refine WP.of (fun _ _ => Ex.lald hP_231 rfl (Wa_96 _ _ _ _ _ _ _) h3.1) ?_
    have h4 := h3.2
    refine WP.run hP_231 2 (c' := (167, [some (.ref 74), some (.int l1), none, some (.long (l3 + ((gl 96) l5.toNatClampNeg))), none, some (.int l5)], [], Wd f fl g gl hh v tx)) rfl ?_
    refine WP.run hP_231 2 (c' := (151, [some (.ref 74), some (.int l1), none, some (.long (l3 + ((gl 96) l5.toNatClampNeg))), none, some (.int (l5 + (1 : Int32)))], [], Wd f fl g gl hh v tx)) rfl ?_
    exact h4

set_option maxRecDepth 20000 in
theorem b_m_few_67 (X : mm_X) (d : Nat) (f : Nat → Int32) (fl : Nat → Int64) (g : Nat → Nat → Int32) (gl : Nat → Nat → Int64) (hh : Nat → Nat → Option Nat) (v : Nat → Value) (tx : mm_W) (l1 : Int32) (l2 : Int32) (l3 : Int32) (l4 : Int32)  (P : Option Value → mm_W → Prop)
    (h : ((l4 < 0) → WP X (d) 231 (57, [some (.ref 74), some (.int l1), some (.int l2), some (.int (l3 + (1 : Int32))), none, none], [], Wd f fl g gl hh v tx) P) ∧
    ((¬ (l4 < 0)) → ((¬ ((l4 + (1 : Int32)) < 0 ∨ 21 ≤ (l4 + (1 : Int32)).toNatClampNeg)) ∧ ((¬ (l4 < 0 ∨ 21 ≤ l4.toNatClampNeg)) ∧ ((¬ ((l4 + (1 : Int32)) < 0 ∨ 21 ≤ (l4 + (1 : Int32)).toNatClampNeg)) ∧ ((¬ (l4 < 0 ∨ 21 ≤ l4.toNatClampNeg)) ∧ ((¬ (l4 < 0 ∨ 21 ≤ l4.toNatClampNeg)) ∧ WP X (d) 231 (67, [some (.ref 74), some (.int l1), some (.int l2), some (.int l3), some (.int (l4 + (-1 : Int32))), none], [], Wd f fl g (va_up (va_up gl 96 (vp_updL (gl 96) ((l4 + (1 : Int32)).toNatClampNeg) (((gl 96) (l4 + (1 : Int32)).toNatClampNeg) + ((((gl 96) l4.toNatClampNeg) * ((((g 76) 53) : Int32).toInt64)) / (10 : Int64))))) 96 (vp_updL (vp_updL (gl 96) ((l4 + (1 : Int32)).toNatClampNeg) (((gl 96) (l4 + (1 : Int32)).toNatClampNeg) + ((((gl 96) l4.toNatClampNeg) * ((((g 76) 53) : Int32).toInt64)) / (10 : Int64)))) (l4.toNatClampNeg) ((((vp_updL (gl 96) ((l4 + (1 : Int32)).toNatClampNeg) (((gl 96) (l4 + (1 : Int32)).toNatClampNeg) + ((((gl 96) l4.toNatClampNeg) * ((((g 76) 53) : Int32).toInt64)) / (10 : Int64)))) l4.toNatClampNeg) * ((((10 : Int32) - ((g 76) 53)) : Int32).toInt64)) / (10 : Int64)))) hh v tx) P))))))) :
    WP X (d) 231 (67, [some (.ref 74), some (.int l1), some (.int l2), some (.int l3), some (.int l4), none], [], Wd f fl g gl hh v tx) P := by
  refine WP.run hP_231 1 (c' := (69, [some (.ref 74), some (.int l1), some (.int l2), some (.int l3), some (.int l4), none], [.int l4], Wd f fl g gl hh v tx)) rfl ?_
  refine WP.br hP_231 (q := l4 < 0) (t := 140) (f := 72) (L := [some (.ref 74), some (.int l1), some (.int l2), some (.int l3), some (.int l4), none]) (st := []) (w := Wd f fl g gl hh v tx) rfl (fun c1 => ?_) (fun c1 => ?_)
  · have h2 := h.1 c1
    refine WP.run hP_231 2 (c' := (57, [some (.ref 74), some (.int l1), some (.int l2), some (.int (l3 + (1 : Int32))), none, none], [], Wd f fl g gl hh v tx)) rfl ?_
    exact h2
  · have h3 := h.2 c1
    refine WP.run hP_231 6 (c' := (81, [some (.ref 74), some (.int l1), some (.int l2), some (.int l3), some (.int l4), none], [.int (l4 + (1 : Int32)), .ref 96, .int (l4 + (1 : Int32)), .ref 96], Wd f fl g gl hh v tx)) rfl ?_
    refine WP.of (fun _ _ => Ex.lald hP_231 rfl (Wa_96 _ _ _ _ _ _ _) h3.1) ?_
    have h4 := h3.2
    refine WP.run hP_231 3 (c' := (88, [some (.ref 74), some (.int l1), some (.int l2), some (.int l3), some (.int l4), none], [.int l4, .ref 96, .long ((gl 96) (l4 + (1 : Int32)).toNatClampNeg), .int (l4 + (1 : Int32)), .ref 96], Wd f fl g gl hh v tx)) rfl ?_
    refine WP.of (fun _ _ => Ex.lald hP_231 rfl (Wa_96 _ _ _ _ _ _ _) h4.1) ?_
    have h5 := h4.2
    refine WP.run hP_231 3 (c' := (95, [some (.ref 74), some (.int l1), some (.int l2), some (.int l3), some (.int l4), none], [.int 53, .ref 76, .long ((gl 96) l4.toNatClampNeg), .long ((gl 96) (l4 + (1 : Int32)).toNatClampNeg), .int (l4 + (1 : Int32)), .ref 96], Wd f fl g gl hh v tx)) rfl ?_
    refine WP.of (fun _ _ => Ex.iald hP_231 rfl (Wa_76 _ _ _ _ _ _ _) (by decide)) ?_
    show WP X _ 231 (96, [some (.ref 74), some (.int l1), some (.int l2), some (.int l3), some (.int l4), none], [.int ((g 76) 53), .long ((gl 96) l4.toNatClampNeg), .long ((gl 96) (l4 + (1 : Int32)).toNatClampNeg), .int (l4 + (1 : Int32)), .ref 96], Wd f fl g gl hh v tx) P
    refine WP.run hP_231 5 (c' := (103, [some (.ref 74), some (.int l1), some (.int l2), some (.int l3), some (.int l4), none], [.long (((gl 96) (l4 + (1 : Int32)).toNatClampNeg) + ((((gl 96) l4.toNatClampNeg) * ((((g 76) 53) : Int32).toInt64)) / (10 : Int64))), .int (l4 + (1 : Int32)), .ref 96], Wd f fl g gl hh v tx)) rfl ?_
    refine WP.of (fun _ _ => Ex.last hP_231 (w2 := Wd f fl g (va_up gl 96 (vp_updL (gl 96) ((l4 + (1 : Int32)).toNatClampNeg) (((gl 96) (l4 + (1 : Int32)).toNatClampNeg) + ((((gl 96) l4.toNatClampNeg) * ((((g 76) 53) : Int32).toInt64)) / (10 : Int64))))) hh v tx) rfl (Wa_96 _ _ _ _ _ _ _) h5.1 (Ws_96 _ _ _ _ _ _ _ _)) ?_
    have h6 := h5.2
    refine WP.run hP_231 6 (c' := (116, [some (.ref 74), some (.int l1), some (.int l2), some (.int l3), some (.int l4), none], [.int l4, .ref 96, .int l4, .ref 96], Wd f fl g (va_up gl 96 (vp_updL (gl 96) ((l4 + (1 : Int32)).toNatClampNeg) (((gl 96) (l4 + (1 : Int32)).toNatClampNeg) + ((((gl 96) l4.toNatClampNeg) * ((((g 76) 53) : Int32).toInt64)) / (10 : Int64))))) hh v tx)) rfl ?_
    refine WP.of (fun _ _ => Ex.lald hP_231 rfl (Wa_96 _ _ _ _ _ _ _) h6.1) ?_
    have h7 := h6.2
    refine WP.run hP_231 4 (c' := (125, [some (.ref 74), some (.int l1), some (.int l2), some (.int l3), some (.int l4), none], [.int 53, .ref 76, .int 10, .long ((vp_updL (gl 96) ((l4 + (1 : Int32)).toNatClampNeg) (((gl 96) (l4 + (1 : Int32)).toNatClampNeg) + ((((gl 96) l4.toNatClampNeg) * ((((g 76) 53) : Int32).toInt64)) / (10 : Int64)))) l4.toNatClampNeg), .int l4, .ref 96], Wd f fl g (va_up gl 96 (vp_updL (gl 96) ((l4 + (1 : Int32)).toNatClampNeg) (((gl 96) (l4 + (1 : Int32)).toNatClampNeg) + ((((gl 96) l4.toNatClampNeg) * ((((g 76) 53) : Int32).toInt64)) / (10 : Int64))))) hh v tx)) rfl ?_
    refine WP.of (fun _ _ => Ex.iald hP_231 rfl (Wa_76 _ _ _ _ _ _ _) (by decide)) ?_
    show WP X _ 231 (126, [some (.ref 74), some (.int l1), some (.int l2), some (.int l3), some (.int l4), none], [.int ((g 76) 53), .int 10, .long ((vp_updL (gl 96) ((l4 + (1 : Int32)).toNatClampNeg) (((gl 96) (l4 + (1 : Int32)).toNatClampNeg) + ((((gl 96) l4.toNatClampNeg) * ((((g 76) 53) : Int32).toInt64)) / (10 : Int64)))) l4.toNatClampNeg), .int l4, .ref 96], Wd f fl g (va_up gl 96 (vp_updL (gl 96) ((l4 + (1 : Int32)).toNatClampNeg) (((gl 96) (l4 + (1 : Int32)).toNatClampNeg) + ((((gl 96) l4.toNatClampNeg) * ((((g 76) 53) : Int32).toInt64)) / (10 : Int64))))) hh v tx) P
    refine WP.run hP_231 5 (c' := (133, [some (.ref 74), some (.int l1), some (.int l2), some (.int l3), some (.int l4), none], [.long ((((vp_updL (gl 96) ((l4 + (1 : Int32)).toNatClampNeg) (((gl 96) (l4 + (1 : Int32)).toNatClampNeg) + ((((gl 96) l4.toNatClampNeg) * ((((g 76) 53) : Int32).toInt64)) / (10 : Int64)))) l4.toNatClampNeg) * ((((10 : Int32) - ((g 76) 53)) : Int32).toInt64)) / (10 : Int64)), .int l4, .ref 96], Wd f fl g (va_up gl 96 (vp_updL (gl 96) ((l4 + (1 : Int32)).toNatClampNeg) (((gl 96) (l4 + (1 : Int32)).toNatClampNeg) + ((((gl 96) l4.toNatClampNeg) * ((((g 76) 53) : Int32).toInt64)) / (10 : Int64))))) hh v tx)) rfl ?_
    refine WP.of (fun _ _ => Ex.last hP_231 (w2 := Wd f fl g (va_up (va_up gl 96 (vp_updL (gl 96) ((l4 + (1 : Int32)).toNatClampNeg) (((gl 96) (l4 + (1 : Int32)).toNatClampNeg) + ((((gl 96) l4.toNatClampNeg) * ((((g 76) 53) : Int32).toInt64)) / (10 : Int64))))) 96 (vp_updL (vp_updL (gl 96) ((l4 + (1 : Int32)).toNatClampNeg) (((gl 96) (l4 + (1 : Int32)).toNatClampNeg) + ((((gl 96) l4.toNatClampNeg) * ((((g 76) 53) : Int32).toInt64)) / (10 : Int64)))) (l4.toNatClampNeg) ((((vp_updL (gl 96) ((l4 + (1 : Int32)).toNatClampNeg) (((gl 96) (l4 + (1 : Int32)).toNatClampNeg) + ((((gl 96) l4.toNatClampNeg) * ((((g 76) 53) : Int32).toInt64)) / (10 : Int64)))) l4.toNatClampNeg) * ((((10 : Int32) - ((g 76) 53)) : Int32).toInt64)) / (10 : Int64)))) hh v tx) rfl (Wa_96 _ _ _ _ _ _ _) h7.1 (Ws_96 _ _ _ _ _ _ _ _)) ?_
    have h8 := h7.2
    refine WP.run hP_231 2 (c' := (67, [some (.ref 74), some (.int l1), some (.int l2), some (.int l3), some (.int (l4 + (-1 : Int32))), none], [], Wd f fl g (va_up (va_up gl 96 (vp_updL (gl 96) ((l4 + (1 : Int32)).toNatClampNeg) (((gl 96) (l4 + (1 : Int32)).toNatClampNeg) + ((((gl 96) l4.toNatClampNeg) * ((((g 76) 53) : Int32).toInt64)) / (10 : Int64))))) 96 (vp_updL (vp_updL (gl 96) ((l4 + (1 : Int32)).toNatClampNeg) (((gl 96) (l4 + (1 : Int32)).toNatClampNeg) + ((((gl 96) l4.toNatClampNeg) * ((((g 76) 53) : Int32).toInt64)) / (10 : Int64)))) (l4.toNatClampNeg) ((((vp_updL (gl 96) ((l4 + (1 : Int32)).toNatClampNeg) (((gl 96) (l4 + (1 : Int32)).toNatClampNeg) + ((((gl 96) l4.toNatClampNeg) * ((((g 76) 53) : Int32).toInt64)) / (10 : Int64)))) l4.toNatClampNeg) * ((((10 : Int32) - ((g 76) 53)) : Int32).toInt64)) / (10 : Int64)))) hh v tx)) rfl ?_
    exact h8

set_option maxRecDepth 20000 in
theorem b_m_keeps_0 (X : mm_X) (d : Nat) (f : Nat → Int32) (fl : Nat → Int64) (g : Nat → Nat → Int32) (gl : Nat → Nat → Int64) (hh : Nat → Nat → Option Nat) (v : Nat → Value) (tx : mm_W) (p0 : Int32)  (P : Option Value → mm_W → Prop)
    (h : ((¬ (f 4777) = 16) → WP X (d) 232 (54, [some (.ref 74), some (.int p0), some (.int 24), some (.int 0)], [], Wd f fl g gl hh v tx) P) ∧
    (((f 4777) = 16) → WP X (d) 232 (14, [some (.ref 74), some (.int p0), some (.int 24), some (.int 0)], [], Wd f fl g gl hh v tx) P)) :
    WP X (d) 232 (0, [some (.ref 74), some (.int p0), none, none], [], Wd f fl g gl hh v tx) P := by
  refine WP.run hP_232 5 (c' := (9, [some (.ref 74), some (.int p0), some (.int 24), none], [.int 16, .int (f 4777)], Wd f fl g gl hh v tx)) rfl ?_
  refine WP.br hP_232 (q := ¬ (f 4777) = 16) (t := 52) (f := 12) (L := [some (.ref 74), some (.int p0), some (.int 24), none]) (st := []) (w := Wd f fl g gl hh v tx) rfl (fun c1 => ?_) (fun c1 => ?_)
  · have h2 := h.1 c1
    refine WP.run hP_232 1 (c' := (53, [some (.ref 74), some (.int p0), some (.int 24), none], [.int 0], Wd f fl g gl hh v tx)) rfl ?_
    refine WP.run hP_232 1 (c' := (54, [some (.ref 74), some (.int p0), some (.int 24), some (.int 0)], [], Wd f fl g gl hh v tx)) rfl ?_
    exact h2
  · have h3 := h.2 (Classical.not_not.mp c1)
    refine WP.run hP_232 2 (c' := (14, [some (.ref 74), some (.int p0), some (.int 24), some (.int 0)], [], Wd f fl g gl hh v tx)) rfl ?_
    exact h3

set_option maxRecDepth 20000 in
theorem b_m_keeps_54 (X : mm_X) (d : Nat) (f : Nat → Int32) (fl : Nat → Int64) (g : Nat → Nat → Int32) (gl : Nat → Nat → Int64) (hh : Nat → Nat → Option Nat) (v : Nat → Value) (tx : mm_W) (l1 : Int32) (l2 : Int32) (l3 : Int32)  (P : Option Value → mm_W → Prop)
    (h : ((23 ≤ l3) → ((¬ (((l2 * (f 4777)) + (23 : Int32)) < 0 ∨ 384 ≤ ((l2 * (f 4777)) + (23 : Int32)).toNatClampNeg)) ∧ P none (Wd (va_up f 4777 ((f 4777) + (1 : Int32))) fl (va_up g 97 (upd (g 97) (((l2 * (f 4777)) + (23 : Int32)).toNatClampNeg) l1)) gl hh v tx))) ∧
    ((¬ (23 ≤ l3)) → ((¬ (l3 < 0 ∨ 5667 ≤ l3.toNatClampNeg)) ∧ ((¬ (((l2 * (f 4777)) + l3) < 0 ∨ 384 ≤ ((l2 * (f 4777)) + l3).toNatClampNeg)) ∧ WP X (d) 232 (54, [some (.ref 74), some (.int l1), some (.int l2), some (.int (l3 + (1 : Int32)))], [], Wd f fl (va_up g 97 (upd (g 97) (((l2 * (f 4777)) + l3).toNatClampNeg) ((g 76) l3.toNatClampNeg))) gl hh v tx) P)))) :
    WP X (d) 232 (54, [some (.ref 74), some (.int l1), some (.int l2), some (.int l3)], [], Wd f fl g gl hh v tx) P := by
  refine WP.run hP_232 2 (c' := (57, [some (.ref 74), some (.int l1), some (.int l2), some (.int l3)], [.int 23, .int l3], Wd f fl g gl hh v tx)) rfl ?_
  refine WP.br hP_232 (q := 23 ≤ l3) (t := 85) (f := 60) (L := [some (.ref 74), some (.int l1), some (.int l2), some (.int l3)]) (st := []) (w := Wd f fl g gl hh v tx) rfl (fun c1 => ?_) (fun c1 => ?_)
  · have h2 := h.1 c1
    refine WP.run hP_232 9 (c' := (99, [some (.ref 74), some (.int l1), some (.int l2), none], [.int l1, .int ((l2 * (f 4777)) + (23 : Int32)), .ref 97], Wd f fl g gl hh v tx)) rfl ?_
    refine WP.of (fun _ _ => Ex.iast hP_232 (w2 := Wd f fl (va_up g 97 (upd (g 97) (((l2 * (f 4777)) + (23 : Int32)).toNatClampNeg) l1)) gl hh v tx) rfl (Wa_97 _ _ _ _ _ _ _) h2.1 (Ws_97 _ _ _ _ _ _ _ _)) ?_
    have h3 := h2.2
    refine WP.run hP_232 6 (c' := (110, [some (.ref 74), some (.int l1), some (.int l2), none], [], Wd (va_up f 4777 ((f 4777) + (1 : Int32))) fl (va_up g 97 (upd (g 97) (((l2 * (f 4777)) + (23 : Int32)).toNatClampNeg) l1)) gl hh v tx)) rfl ?_
    exact WP.ret hP_232 (r := none) (w' := Wd (va_up f 4777 ((f 4777) + (1 : Int32))) fl (va_up g 97 (upd (g 97) (((l2 * (f 4777)) + (23 : Int32)).toNatClampNeg) l1)) gl hh v tx) rfl h3
  · have h4 := h.2 c1
    refine WP.run hP_232 11 (c' := (77, [some (.ref 74), some (.int l1), some (.int l2), some (.int l3)], [.int l3, .ref 76, .int ((l2 * (f 4777)) + l3), .ref 97], Wd f fl g gl hh v tx)) rfl ?_
    refine WP.of (fun _ _ => Ex.iald hP_232 rfl (Wa_76 _ _ _ _ _ _ _) h4.1) ?_
    have h5 := h4.2
    refine WP.of (fun _ _ => Ex.iast hP_232 (w2 := Wd f fl (va_up g 97 (upd (g 97) (((l2 * (f 4777)) + l3).toNatClampNeg) ((g 76) l3.toNatClampNeg))) gl hh v tx) rfl (Wa_97 _ _ _ _ _ _ _) h5.1 (Ws_97 _ _ _ _ _ _ _ _)) ?_
    have h6 := h5.2
    refine WP.run hP_232 2 (c' := (54, [some (.ref 74), some (.int l1), some (.int l2), some (.int (l3 + (1 : Int32)))], [], Wd f fl (va_up g 97 (upd (g 97) (((l2 * (f 4777)) + l3).toNatClampNeg) ((g 76) l3.toNatClampNeg))) gl hh v tx)) rfl ?_
    exact h6

set_option maxRecDepth 20000 in
theorem b_m_keeps_14 (X : mm_X) (d : Nat) (f : Nat → Int32) (fl : Nat → Int64) (g : Nat → Nat → Int32) (gl : Nat → Nat → Int64) (hh : Nat → Nat → Option Nat) (v : Nat → Value) (tx : mm_W) (l1 : Int32) (l2 : Int32) (l3 : Int32)  (P : Option Value → mm_W → Prop)
    (h : ((((15 : Int32) * l2) ≤ l3) → WP X (d) 232 (54, [some (.ref 74), some (.int l1), some (.int l2), some (.int 0)], [], Wd (va_up f 4777 ((f 4777) - (1 : Int32))) fl g gl hh v tx) P) ∧
    ((¬ (((15 : Int32) * l2) ≤ l3)) → ((¬ ((l3 + l2) < 0 ∨ 384 ≤ (l3 + l2).toNatClampNeg)) ∧ ((¬ (l3 < 0 ∨ 384 ≤ l3.toNatClampNeg)) ∧ WP X (d) 232 (14, [some (.ref 74), some (.int l1), some (.int l2), some (.int (l3 + (1 : Int32)))], [], Wd f fl (va_up g 97 (upd (g 97) (l3.toNatClampNeg) ((g 97) (l3 + l2).toNatClampNeg))) gl hh v tx) P)))) :
    WP X (d) 232 (14, [some (.ref 74), some (.int l1), some (.int l2), some (.int l3)], [], Wd f fl g gl hh v tx) P := by
  refine WP.run hP_232 4 (c' := (19, [some (.ref 74), some (.int l1), some (.int l2), some (.int l3)], [.int ((15 : Int32) * l2), .int l3], Wd f fl g gl hh v tx)) rfl ?_
  refine WP.br hP_232 (q := ((15 : Int32) * l2) ≤ l3) (t := 42) (f := 22) (L := [some (.ref 74), some (.int l1), some (.int l2), some (.int l3)]) (st := []) (w := Wd f fl g gl hh v tx) rfl (fun c1 => ?_) (fun c1 => ?_)
  · have h2 := h.1 c1
    refine WP.run hP_232 6 (c' := (52, [some (.ref 74), some (.int l1), some (.int l2), none], [], Wd (va_up f 4777 ((f 4777) - (1 : Int32))) fl g gl hh v tx)) rfl ?_
    refine WP.run hP_232 1 (c' := (53, [some (.ref 74), some (.int l1), some (.int l2), none], [.int 0], Wd (va_up f 4777 ((f 4777) - (1 : Int32))) fl g gl hh v tx)) rfl ?_
    refine WP.run hP_232 1 (c' := (54, [some (.ref 74), some (.int l1), some (.int l2), some (.int 0)], [], Wd (va_up f 4777 ((f 4777) - (1 : Int32))) fl g gl hh v tx)) rfl ?_
    exact h2
  · have h3 := h.2 c1
    refine WP.run hP_232 8 (c' := (34, [some (.ref 74), some (.int l1), some (.int l2), some (.int l3)], [.int (l3 + l2), .ref 97, .int l3, .ref 97], Wd f fl g gl hh v tx)) rfl ?_
    refine WP.of (fun _ _ => Ex.iald hP_232 rfl (Wa_97 _ _ _ _ _ _ _) h3.1) ?_
    have h4 := h3.2
    refine WP.of (fun _ _ => Ex.iast hP_232 (w2 := Wd f fl (va_up g 97 (upd (g 97) (l3.toNatClampNeg) ((g 97) (l3 + l2).toNatClampNeg))) gl hh v tx) rfl (Wa_97 _ _ _ _ _ _ _) h4.1 (Ws_97 _ _ _ _ _ _ _ _)) ?_
    have h5 := h4.2
    refine WP.run hP_232 2 (c' := (14, [some (.ref 74), some (.int l1), some (.int l2), some (.int (l3 + (1 : Int32)))], [], Wd f fl (va_up g 97 (upd (g 97) (l3.toNatClampNeg) ((g 97) (l3 + l2).toNatClampNeg))) gl hh v tx)) rfl ?_
    exact h5

set_option maxRecDepth 20000 in
theorem b_m_undo_0 (X : mm_X) (d : Nat) (f : Nat → Int32) (fl : Nat → Int64) (g : Nat → Nat → Int32) (gl : Nat → Nat → Int64) (hh : Nat → Nat → Option Nat) (v : Nat → Value) (tx : mm_W)   (P : Option Value → mm_W → Prop)
    (h : ((¬ (f 4777) = 0) → WP X (d + 1) 233 (34, [some (.ref 74), some (.int ((24 : Int32) * ((f 4777) - (1 : Int32)))), some (.int 0)], [], Wd (va_up f 4777 ((f 4777) - (1 : Int32))) fl g gl hh v tx) P) ∧
    (((f 4777) = 0) → P (some (.int (-3))) (Wd (va_up f 4736 (-3 : Int32)) fl (va_up g 75 (upd (g 75) (3) (((g 75) 3) + (1 : Int32)))) gl hh v tx))) :
    WP X (d + 1) 233 (0, [some (.ref 74), none, none], [], Wd f fl g gl hh v tx) P := by
  refine WP.run hP_233 2 (c' := (4, [some (.ref 74), none, none], [.int (f 4777)], Wd f fl g gl hh v tx)) rfl ?_
  refine WP.br hP_233 (q := ¬ (f 4777) = 0) (t := 14) (f := 7) (L := [some (.ref 74), none, none]) (st := []) (w := Wd f fl g gl hh v tx) rfl (fun c1 => ?_) (fun c1 => ?_)
  · have h2 := h.1 c1
    refine WP.run hP_233 10 (c' := (31, [some (.ref 74), none, none], [.int ((24 : Int32) * ((f 4777) - (1 : Int32)))], Wd (va_up f 4777 ((f 4777) - (1 : Int32))) fl g gl hh v tx)) rfl ?_
    refine WP.run hP_233 2 (c' := (33, [some (.ref 74), some (.int ((24 : Int32) * ((f 4777) - (1 : Int32)))), none], [.int 0], Wd (va_up f 4777 ((f 4777) - (1 : Int32))) fl g gl hh v tx)) rfl ?_
    refine WP.run hP_233 1 (c' := (34, [some (.ref 74), some (.int ((24 : Int32) * ((f 4777) - (1 : Int32)))), some (.int 0)], [], Wd (va_up f 4777 ((f 4777) - (1 : Int32))) fl g gl hh v tx)) rfl ?_
    exact h2
  · have h3 := h.2 (Classical.not_not.mp c1)
    refine WP.run hP_233 2 (c' := (10, [some (.ref 74), none, none], [.int (-3), .ref 74], Wd f fl g gl hh v tx)) rfl ?_
    refine WP.call hP_233 hP_119 (as := [.ref 74, .int (-3)]) (pc' := 13) (L' := [some (.ref 74), none, none]) (st' := []) (w1 := Wd f fl g gl hh v tx) rfl ⟨Nat.le_of_ble_eq_true rfl, Nat.le_of_ble_eq_true rfl⟩ rfl (b_m_refuses_0 X (d) f fl g gl hh v tx (-3) _ ?_)
    refine ⟨by decide, ?_⟩
    refine ⟨by decide, ?_⟩
    exact WP.retI hP_233 rfl rfl h3

set_option maxRecDepth 20000 in
theorem b_m_undo_34 (X : mm_X) (d : Nat) (f : Nat → Int32) (fl : Nat → Int64) (g : Nat → Nat → Int32) (gl : Nat → Nat → Int64) (hh : Nat → Nat → Option Nat) (v : Nat → Value) (tx : mm_W) (l1 : Int32) (l2 : Int32)  (P : Option Value → mm_W → Prop)
    (h : ((23 ≤ l2) → ((¬ ((l1 + (23 : Int32)) < 0 ∨ 384 ≤ (l1 + (23 : Int32)).toNatClampNeg)) ∧ P (some (.int ((g 97) (l1 + (23 : Int32)).toNatClampNeg))) (Wd (va_up f 4736 0) fl g gl hh v tx))) ∧
    ((¬ (23 ≤ l2)) → ((¬ ((l1 + l2) < 0 ∨ 384 ≤ (l1 + l2).toNatClampNeg)) ∧ ((¬ (l2 < 0 ∨ 5667 ≤ l2.toNatClampNeg)) ∧ WP X (d + 1) 233 (34, [some (.ref 74), some (.int l1), some (.int (l2 + (1 : Int32)))], [], Wd f fl (va_up g 76 (upd (g 76) (l2.toNatClampNeg) ((g 97) (l1 + l2).toNatClampNeg))) gl hh v tx) P)))) :
    WP X (d + 1) 233 (34, [some (.ref 74), some (.int l1), some (.int l2)], [], Wd f fl g gl hh v tx) P := by
  refine WP.run hP_233 2 (c' := (37, [some (.ref 74), some (.int l1), some (.int l2)], [.int 23, .int l2], Wd f fl g gl hh v tx)) rfl ?_
  refine WP.br hP_233 (q := 23 ≤ l2) (t := 60) (f := 40) (L := [some (.ref 74), some (.int l1), some (.int l2)]) (st := []) (w := Wd f fl g gl hh v tx) rfl (fun c1 => ?_) (fun c1 => ?_)
  · have h2 := h.1 c1
    refine WP.run hP_233 6 (c' := (69, [some (.ref 74), some (.int l1), none], [.int (l1 + (23 : Int32)), .ref 97, .ref 74], Wd f fl g gl hh v tx)) rfl ?_
    refine WP.of (fun _ _ => Ex.iald hP_233 rfl (Wa_97 _ _ _ _ _ _ _) h2.1) ?_
    have h3 := h2.2
    refine WP.call hP_233 hP_120 (as := [.ref 74, .int ((g 97) (l1 + (23 : Int32)).toNatClampNeg)]) (pc' := 73) (L' := [some (.ref 74), some (.int l1), none]) (st' := []) (w1 := Wd f fl g gl hh v tx) rfl ⟨Nat.le_of_ble_eq_true rfl, Nat.le_of_ble_eq_true rfl⟩ rfl (b_m_good_0 X (d) f fl g gl hh v tx ((g 97) (l1 + (23 : Int32)).toNatClampNeg) _ ?_)
    exact WP.retI hP_233 rfl rfl h3
  · have h4 := h.2 c1
    refine WP.run hP_233 8 (c' := (52, [some (.ref 74), some (.int l1), some (.int l2)], [.int (l1 + l2), .ref 97, .int l2, .ref 76], Wd f fl g gl hh v tx)) rfl ?_
    refine WP.of (fun _ _ => Ex.iald hP_233 rfl (Wa_97 _ _ _ _ _ _ _) h4.1) ?_
    have h5 := h4.2
    refine WP.of (fun _ _ => Ex.iast hP_233 (w2 := Wd f fl (va_up g 76 (upd (g 76) (l2.toNatClampNeg) ((g 97) (l1 + l2).toNatClampNeg))) gl hh v tx) rfl (Wa_76 _ _ _ _ _ _ _) h5.1 (Ws_76 _ _ _ _ _ _ _ _)) ?_
    have h6 := h5.2
    refine WP.run hP_233 2 (c' := (34, [some (.ref 74), some (.int l1), some (.int (l2 + (1 : Int32)))], [], Wd f fl (va_up g 76 (upd (g 76) (l2.toNatClampNeg) ((g 97) (l1 + l2).toNatClampNeg))) gl hh v tx)) rfl ?_
    exact h6

set_option maxRecDepth 20000 in
theorem b_m_goodOr_0 (X : mm_X) (d : Nat) (f : Nat → Int32) (fl : Nat → Int64) (g : Nat → Nat → Int32) (gl : Nat → Nat → Int64) (hh : Nat → Nat → Option Nat) (v : Nat → Value) (tx : mm_W) (p0 : Int32)  (P : Option Value → mm_W → Prop)
    (h : ((0 ≤ p0) → P (some (.int p0)) (Wd (va_up f 4736 0) fl g gl hh v tx)) ∧
    ((¬ (0 ≤ p0)) → ((¬ ((-p0) < 0 ∨ 7 ≤ (-p0).toNatClampNeg)) ∧ ((¬ ((-p0) < 0 ∨ 7 ≤ (-p0).toNatClampNeg)) ∧ P (some (.int p0)) (Wd (va_up f 4736 p0) fl (va_up g 75 (upd (g 75) ((-p0).toNatClampNeg) (((g 75) (-p0).toNatClampNeg) + (1 : Int32)))) gl hh v tx))))) :
    WP X (d + 1) 234 (0, [some (.ref 74), some (.int p0)], [], Wd f fl g gl hh v tx) P := by
  refine WP.run hP_234 1 (c' := (1, [some (.ref 74), some (.int p0)], [.int p0], Wd f fl g gl hh v tx)) rfl ?_
  refine WP.br hP_234 (q := 0 ≤ p0) (t := 12) (f := 4) (L := [some (.ref 74), some (.int p0)]) (st := []) (w := Wd f fl g gl hh v tx) rfl (fun c1 => ?_) (fun c1 => ?_)
  · have h2 := h.1 c1
    refine WP.run hP_234 2 (c' := (14, [some (.ref 74), some (.int p0)], [.int p0, .ref 74], Wd f fl g gl hh v tx)) rfl ?_
    refine WP.call hP_234 hP_120 (as := [.ref 74, .int p0]) (pc' := 17) (L' := [some (.ref 74), some (.int p0)]) (st' := []) (w1 := Wd f fl g gl hh v tx) rfl ⟨Nat.le_of_ble_eq_true rfl, Nat.le_of_ble_eq_true rfl⟩ rfl (b_m_good_0 X (d) f fl g gl hh v tx p0 _ ?_)
    exact WP.retI hP_234 rfl rfl h2
  · have h3 := h.2 c1
    refine WP.run hP_234 2 (c' := (6, [some (.ref 74), some (.int p0)], [.int p0, .ref 74], Wd f fl g gl hh v tx)) rfl ?_
    refine WP.call hP_234 hP_119 (as := [.ref 74, .int p0]) (pc' := 9) (L' := [some (.ref 74), some (.int p0)]) (st' := []) (w1 := Wd f fl g gl hh v tx) rfl ⟨Nat.le_of_ble_eq_true rfl, Nat.le_of_ble_eq_true rfl⟩ rfl (b_m_refuses_0 X (d) f fl g gl hh v tx p0 _ ?_)
    refine ⟨h3.1, ?_⟩
    have h4 := h3.2
    refine ⟨h4.1, ?_⟩
    have h5 := h4.2
    refine WP.run hP_234 1 (c' := (17, [some (.ref 74), some (.int p0)], [.int p0], Wd (va_up f 4736 p0) fl (va_up g 75 (upd (g 75) ((-p0).toNatClampNeg) (((g 75) (-p0).toNatClampNeg) + (1 : Int32)))) gl hh v tx)) rfl ?_
    exact WP.retI hP_234 rfl rfl h5

set_option maxRecDepth 20000 in
theorem b_m_hangs_0 (X : mm_X) (d : Nat) (f : Nat → Int32) (fl : Nat → Int64) (g : Nat → Nat → Int32) (gl : Nat → Nat → Int64) (hh : Nat → Nat → Option Nat) (v : Nat → Value) (tx : mm_W) (p0 : Int32)  (P : Option Value → mm_W → Prop)
    (h : (¬ (((0 : Int32) + ((g 76) 12)) < 0 ∨ 5667 ≤ ((0 : Int32) + ((g 76) 12)).toNatClampNeg)) ∧ P none (Wd f fl (va_up (va_up g 76 (upd (g 76) (((0 : Int32) + ((g 76) 12)).toNatClampNeg) p0)) 76 (upd (upd (g 76) (((0 : Int32) + ((g 76) 12)).toNatClampNeg) p0) 12 (((upd (g 76) (((0 : Int32) + ((g 76) 12)).toNatClampNeg) p0) 12) + (1 : Int32)))) gl hh v tx)) :
    WP X (d + 1) 235 (0, [some (.ref 74), some (.int p0)], [], Wd f fl g gl hh v tx) P := by
  refine WP.run hP_235 4 (c' := (6, [some (.ref 74), some (.int p0)], [.ref 74, .int 0, .ref 76], Wd f fl g gl hh v tx)) rfl ?_
  refine WP.call hP_235 hP_130 (as := [.ref 74]) (pc' := 9) (L' := [some (.ref 74), some (.int p0)]) (st' := [.int 0, .ref 76]) (w1 := Wd f fl g gl hh v tx) rfl ⟨Nat.le_of_ble_eq_true rfl, Nat.le_of_ble_eq_true rfl⟩ rfl (b_m_size_0 X (d) f fl g gl hh v tx  _ ?_)
  refine WP.run hP_235 2 (c' := (11, [some (.ref 74), some (.int p0)], [.int p0, .int ((0 : Int32) + ((g 76) 12)), .ref 76], Wd f fl g gl hh v tx)) rfl ?_
  refine WP.of (fun _ _ => Ex.iast hP_235 (w2 := Wd f fl (va_up g 76 (upd (g 76) (((0 : Int32) + ((g 76) 12)).toNatClampNeg) p0)) gl hh v tx) rfl (Wa_76 _ _ _ _ _ _ _) h.1 (Ws_76 _ _ _ _ _ _ _ _)) ?_
  have h1 := h.2
  refine WP.run hP_235 4 (c' := (19, [some (.ref 74), some (.int p0)], [.int 12, .ref 76, .int 12, .ref 76], Wd f fl (va_up g 76 (upd (g 76) (((0 : Int32) + ((g 76) 12)).toNatClampNeg) p0)) gl hh v tx)) rfl ?_
  refine WP.of (fun _ _ => Ex.iald hP_235 rfl (Wa_76 _ _ _ _ _ _ _) (by decide)) ?_
  show WP X _ 235 (20, [some (.ref 74), some (.int p0)], [.int ((upd (g 76) (((0 : Int32) + ((g 76) 12)).toNatClampNeg) p0) 12), .int 12, .ref 76], Wd f fl (va_up g 76 (upd (g 76) (((0 : Int32) + ((g 76) 12)).toNatClampNeg) p0)) gl hh v tx) P
  refine WP.run hP_235 2 (c' := (22, [some (.ref 74), some (.int p0)], [.int (((upd (g 76) (((0 : Int32) + ((g 76) 12)).toNatClampNeg) p0) 12) + (1 : Int32)), .int 12, .ref 76], Wd f fl (va_up g 76 (upd (g 76) (((0 : Int32) + ((g 76) 12)).toNatClampNeg) p0)) gl hh v tx)) rfl ?_
  refine WP.of (fun _ _ => Ex.iast hP_235 (w2 := Wd f fl (va_up (va_up g 76 (upd (g 76) (((0 : Int32) + ((g 76) 12)).toNatClampNeg) p0)) 76 (upd (upd (g 76) (((0 : Int32) + ((g 76) 12)).toNatClampNeg) p0) 12 (((upd (g 76) (((0 : Int32) + ((g 76) 12)).toNatClampNeg) p0) 12) + (1 : Int32)))) gl hh v tx) rfl (Wa_76 _ _ _ _ _ _ _) (by decide) (Ws_76 _ _ _ _ _ _ _ _)) ?_
  exact WP.ret hP_235 (r := none) (w' := Wd f fl (va_up (va_up g 76 (upd (g 76) (((0 : Int32) + ((g 76) 12)).toNatClampNeg) p0)) 76 (upd (upd (g 76) (((0 : Int32) + ((g 76) 12)).toNatClampNeg) p0) 12 (((upd (g 76) (((0 : Int32) + ((g 76) 12)).toNatClampNeg) p0) 12) + (1 : Int32)))) gl hh v tx) rfl h1

set_option maxRecDepth 20000 in
theorem b_m_hangsKept_0 (X : mm_X) (d : Nat) (f : Nat → Int32) (fl : Nat → Int64) (g : Nat → Nat → Int32) (gl : Nat → Nat → Int64) (hh : Nat → Nat → Option Nat) (v : Nat → Value) (tx : mm_W) (p0 : Int32)  (P : Option Value → mm_W → Prop)
    (h : (((0 : Int32) ≤ p0 ∧ p0 ≤ (3 : Int32)) → (((¬ ((g 76) 12) = 12) → WP X (d) 232 (0, [some (.ref 74), some (.int 0), none, none], [], Wd f fl g gl hh v tx) (fun rv w2 => WP X (d + 1) 236 (28, [some (.ref 74), some (.int p0)], rv.toList ++ [], w2) P)) ∧
      ((((g 76) 12) = 12) → P (some (.int (-3))) (Wd f fl g gl hh v tx)))) ∧
    ((¬ ((0 : Int32) ≤ p0 ∧ p0 ≤ (3 : Int32))) → P (some (.int (-1))) (Wd f fl g gl hh v tx))) :
    WP X (d + 1) 236 (0, [some (.ref 74), some (.int p0)], [], Wd f fl g gl hh v tx) P := by
  refine WP.run hP_236 3 (c' := (3, [some (.ref 74), some (.int p0)], [.int 3, .int 0, .int p0], Wd f fl g gl hh v tx)) rfl ?_
  refine WP.call hP_236 hP_116 (as := [.int p0, .int 0, .int 3]) (pc' := 6) (L' := [some (.ref 74), some (.int p0)]) (st' := []) (w1 := Wd f fl g gl hh v tx) rfl ⟨Nat.le_of_ble_eq_true rfl, Nat.le_of_ble_eq_true rfl⟩ rfl (b_lies_m X (d) f fl g gl hh v tx p0 0 3 _ ?_)
  refine ⟨fun c1 => ?_, fun c1 => ?_⟩
  · have h2 := h.1 c1
    refine WP.run hP_236 2 (c' := (12, [some (.ref 74), some (.int p0)], [.ref 74], Wd f fl g gl hh v tx)) rfl ?_
    refine WP.call hP_236 hP_130 (as := [.ref 74]) (pc' := 15) (L' := [some (.ref 74), some (.int p0)]) (st' := []) (w1 := Wd f fl g gl hh v tx) rfl ⟨Nat.le_of_ble_eq_true rfl, Nat.le_of_ble_eq_true rfl⟩ rfl (b_m_size_0 X (d) f fl g gl hh v tx  _ ?_)
    refine WP.run hP_236 1 (c' := (17, [some (.ref 74), some (.int p0)], [.int 12, .int ((g 76) 12)], Wd f fl g gl hh v tx)) rfl ?_
    refine WP.br hP_236 (q := ¬ ((g 76) 12) = 12) (t := 23) (f := 20) (L := [some (.ref 74), some (.int p0)]) (st := []) (w := Wd f fl g gl hh v tx) rfl (fun c3 => ?_) (fun c3 => ?_)
    · have h4 := h2.1 c3
      refine WP.run hP_236 2 (c' := (25, [some (.ref 74), some (.int p0)], [.int 0, .ref 74], Wd f fl g gl hh v tx)) rfl ?_
      refine WP.call hP_236 hP_232 (as := [.ref 74, .int 0]) (pc' := 28) (L' := [some (.ref 74), some (.int p0)]) (st' := []) (w1 := Wd f fl g gl hh v tx) rfl ⟨Nat.le_of_ble_eq_true rfl, Nat.le_of_ble_eq_true rfl⟩ rfl ?_
      exact h4
    · have h5 := h2.2 (Classical.not_not.mp c3)
      refine WP.run hP_236 1 (c' := (22, [some (.ref 74), some (.int p0)], [.int (-3)], Wd f fl g gl hh v tx)) rfl ?_
      exact WP.retI hP_236 rfl rfl h5
  · have h6 := h.2 c1
    refine WP.run hP_236 2 (c' := (10, [some (.ref 74), some (.int p0)], [.int (-1)], Wd f fl g gl hh v tx)) rfl ?_
    exact WP.retI hP_236 rfl rfl h6

set_option maxRecDepth 20000 in
theorem b_m_hangsKept_28 (X : mm_X) (d : Nat) (f : Nat → Int32) (fl : Nat → Int64) (g : Nat → Nat → Int32) (gl : Nat → Nat → Int64) (hh : Nat → Nat → Option Nat) (v : Nat → Value) (tx : mm_W) (l1 : Int32)  (P : Option Value → mm_W → Prop)
    (h : (¬ (((0 : Int32) + ((g 76) 12)) < 0 ∨ 5667 ≤ ((0 : Int32) + ((g 76) 12)).toNatClampNeg)) ∧ P (some (.int ((upd (upd (g 76) (((0 : Int32) + ((g 76) 12)).toNatClampNeg) l1) 12 (((upd (g 76) (((0 : Int32) + ((g 76) 12)).toNatClampNeg) l1) 12) + (1 : Int32))) 12))) (Wd f fl (va_up (va_up g 76 (upd (g 76) (((0 : Int32) + ((g 76) 12)).toNatClampNeg) l1)) 76 (upd (upd (g 76) (((0 : Int32) + ((g 76) 12)).toNatClampNeg) l1) 12 (((upd (g 76) (((0 : Int32) + ((g 76) 12)).toNatClampNeg) l1) 12) + (1 : Int32)))) gl hh v tx)) :
    WP X (d + 2) 236 (28, [some (.ref 74), some (.int l1)], [], Wd f fl g gl hh v tx) P := by
  refine WP.run hP_236 2 (c' := (30, [some (.ref 74), some (.int l1)], [.int l1, .ref 74], Wd f fl g gl hh v tx)) rfl ?_
  refine WP.call hP_236 hP_235 (as := [.ref 74, .int l1]) (pc' := 33) (L' := [some (.ref 74), some (.int l1)]) (st' := []) (w1 := Wd f fl g gl hh v tx) rfl ⟨Nat.le_of_ble_eq_true rfl, Nat.le_of_ble_eq_true rfl⟩ rfl (b_m_hangs_0 X (d) f fl g gl hh v tx l1 _ ?_)
  refine ⟨h.1, ?_⟩
  have h1 := h.2
  refine WP.run hP_236 1 (c' := (34, [some (.ref 74), some (.int l1)], [.ref 74], Wd f fl (va_up (va_up g 76 (upd (g 76) (((0 : Int32) + ((g 76) 12)).toNatClampNeg) l1)) 76 (upd (upd (g 76) (((0 : Int32) + ((g 76) 12)).toNatClampNeg) l1) 12 (((upd (g 76) (((0 : Int32) + ((g 76) 12)).toNatClampNeg) l1) 12) + (1 : Int32)))) gl hh v tx)) rfl ?_
  refine WP.call hP_236 hP_130 (as := [.ref 74]) (pc' := 37) (L' := [some (.ref 74), some (.int l1)]) (st' := []) (w1 := Wd f fl (va_up (va_up g 76 (upd (g 76) (((0 : Int32) + ((g 76) 12)).toNatClampNeg) l1)) 76 (upd (upd (g 76) (((0 : Int32) + ((g 76) 12)).toNatClampNeg) l1) 12 (((upd (g 76) (((0 : Int32) + ((g 76) 12)).toNatClampNeg) l1) 12) + (1 : Int32)))) gl hh v tx) rfl ⟨Nat.le_of_ble_eq_true rfl, Nat.le_of_ble_eq_true rfl⟩ rfl (b_m_size_0 X (d + 1) f fl (va_up (va_up g 76 (upd (g 76) (((0 : Int32) + ((g 76) 12)).toNatClampNeg) l1)) 76 (upd (upd (g 76) (((0 : Int32) + ((g 76) 12)).toNatClampNeg) l1) 12 (((upd (g 76) (((0 : Int32) + ((g 76) 12)).toNatClampNeg) l1) 12) + (1 : Int32)))) gl hh v tx  _ ?_)
  exact WP.retI hP_236 rfl rfl h1

set_option maxRecDepth 20000 in
theorem b_m_takesKept_0 (X : mm_X) (d : Nat) (f : Nat → Int32) (fl : Nat → Int64) (g : Nat → Nat → Int32) (gl : Nat → Nat → Int64) (hh : Nat → Nat → Option Nat) (v : Nat → Value) (tx : mm_W)   (P : Option Value → mm_W → Prop)
    (h : ((¬ ((g 76) 12) = 0) → WP X (d) 232 (0, [some (.ref 74), some (.int 1), none, none], [], Wd f fl g gl hh v tx) (fun rv w2 => WP X (d + 1) 237 (15, [some (.ref 74)], rv.toList ++ [], w2) P)) ∧
    ((((g 76) 12) = 0) → P (some (.int (-3))) (Wd f fl g gl hh v tx))) :
    WP X (d + 1) 237 (0, [some (.ref 74)], [], Wd f fl g gl hh v tx) P := by
  refine WP.run hP_237 1 (c' := (1, [some (.ref 74)], [.ref 74], Wd f fl g gl hh v tx)) rfl ?_
  refine WP.call hP_237 hP_130 (as := [.ref 74]) (pc' := 4) (L' := [some (.ref 74)]) (st' := []) (w1 := Wd f fl g gl hh v tx) rfl ⟨Nat.le_of_ble_eq_true rfl, Nat.le_of_ble_eq_true rfl⟩ rfl (b_m_size_0 X (d) f fl g gl hh v tx  _ ?_)
  refine WP.br hP_237 (q := ¬ ((g 76) 12) = 0) (t := 10) (f := 7) (L := [some (.ref 74)]) (st := []) (w := Wd f fl g gl hh v tx) rfl (fun c1 => ?_) (fun c1 => ?_)
  · have h2 := h.1 c1
    refine WP.run hP_237 2 (c' := (12, [some (.ref 74)], [.int 1, .ref 74], Wd f fl g gl hh v tx)) rfl ?_
    refine WP.call hP_237 hP_232 (as := [.ref 74, .int 1]) (pc' := 15) (L' := [some (.ref 74)]) (st' := []) (w1 := Wd f fl g gl hh v tx) rfl ⟨Nat.le_of_ble_eq_true rfl, Nat.le_of_ble_eq_true rfl⟩ rfl ?_
    exact h2
  · have h3 := h.2 (Classical.not_not.mp c1)
    refine WP.run hP_237 1 (c' := (9, [some (.ref 74)], [.int (-3)], Wd f fl g gl hh v tx)) rfl ?_
    exact WP.retI hP_237 rfl rfl h3

set_option maxRecDepth 20000 in
theorem b_m_takesKept_15 (X : mm_X) (d : Nat) (f : Nat → Int32) (fl : Nat → Int64) (g : Nat → Nat → Int32) (gl : Nat → Nat → Int64) (hh : Nat → Nat → Option Nat) (v : Nat → Value) (tx : mm_W)   (P : Option Value → mm_W → Prop)
    (h : (¬ (((0 : Int32) + ((upd (g 76) 12 (((g 76) 12) - (1 : Int32))) 12)) < 0 ∨ 5667 ≤ ((0 : Int32) + ((upd (g 76) 12 (((g 76) 12) - (1 : Int32))) 12)).toNatClampNeg)) ∧ P (some (.int ((upd (g 76) 12 (((g 76) 12) - (1 : Int32))) ((0 : Int32) + ((upd (g 76) 12 (((g 76) 12) - (1 : Int32))) 12)).toNatClampNeg))) (Wd f fl (va_up g 76 (upd (g 76) 12 (((g 76) 12) - (1 : Int32)))) gl hh v tx)) :
    WP X (d + 1) 237 (15, [some (.ref 74)], [], Wd f fl g gl hh v tx) P := by
  refine WP.run hP_237 4 (c' := (22, [some (.ref 74)], [.int 12, .ref 76, .int 12, .ref 76], Wd f fl g gl hh v tx)) rfl ?_
  refine WP.of (fun _ _ => Ex.iald hP_237 rfl (Wa_76 _ _ _ _ _ _ _) (by decide)) ?_
  show WP X _ 237 (23, [some (.ref 74)], [.int ((g 76) 12), .int 12, .ref 76], Wd f fl g gl hh v tx) P
  refine WP.run hP_237 2 (c' := (25, [some (.ref 74)], [.int (((g 76) 12) - (1 : Int32)), .int 12, .ref 76], Wd f fl g gl hh v tx)) rfl ?_
  refine WP.of (fun _ _ => Ex.iast hP_237 (w2 := Wd f fl (va_up g 76 (upd (g 76) 12 (((g 76) 12) - (1 : Int32)))) gl hh v tx) rfl (Wa_76 _ _ _ _ _ _ _) (by decide) (Ws_76 _ _ _ _ _ _ _ _)) ?_
  refine WP.run hP_237 4 (c' := (32, [some (.ref 74)], [.ref 74, .int 0, .ref 76], Wd f fl (va_up g 76 (upd (g 76) 12 (((g 76) 12) - (1 : Int32)))) gl hh v tx)) rfl ?_
  refine WP.call hP_237 hP_130 (as := [.ref 74]) (pc' := 35) (L' := [some (.ref 74)]) (st' := [.int 0, .ref 76]) (w1 := Wd f fl (va_up g 76 (upd (g 76) 12 (((g 76) 12) - (1 : Int32)))) gl hh v tx) rfl ⟨Nat.le_of_ble_eq_true rfl, Nat.le_of_ble_eq_true rfl⟩ rfl (b_m_size_0 X (d) f fl (va_up g 76 (upd (g 76) 12 (((g 76) 12) - (1 : Int32)))) gl hh v tx  _ ?_)
  refine WP.run hP_237 1 (c' := (36, [some (.ref 74)], [.int ((0 : Int32) + ((upd (g 76) 12 (((g 76) 12) - (1 : Int32))) 12)), .ref 76], Wd f fl (va_up g 76 (upd (g 76) 12 (((g 76) 12) - (1 : Int32)))) gl hh v tx)) rfl ?_
  refine WP.of (fun _ _ => Ex.iald hP_237 rfl (Wa_76 _ _ _ _ _ _ _) h.1) ?_
  have h1 := h.2
  exact WP.retI hP_237 rfl rfl h1

set_option maxRecDepth 20000 in
theorem b_m_sailsKept_0 (X : mm_X) (d : Nat) (f : Nat → Int32) (fl : Nat → Int64) (g : Nat → Nat → Int32) (gl : Nat → Nat → Int64) (hh : Nat → Nat → Option Nat) (v : Nat → Value) (tx : mm_W) (p0 : Int32)  (P : Option Value → mm_W → Prop)
    (h : (((0 : Int32) ≤ p0 ∧ p0 ≤ (((g 76) 56) - (1 : Int32))) → WP X (d + 1) 202 (0, [some (.ref 74), some (.int p0), some (.int (-1))], [], Wd f fl g gl hh v tx) (fun rv w2 => WP X (d + 2) 238 (17, [some (.ref 74), some (.int p0), none], rv.toList ++ [], w2) P)) ∧
    ((¬ ((0 : Int32) ≤ p0 ∧ p0 ≤ (((g 76) 56) - (1 : Int32)))) → P (some (.int (-2))) (Wd f fl g gl hh v tx))) :
    WP X (d + 2) 238 (0, [some (.ref 74), some (.int p0), none], [], Wd f fl g gl hh v tx) P := by
  refine WP.run hP_238 2 (c' := (2, [some (.ref 74), some (.int p0), none], [.int p0, .ref 74], Wd f fl g gl hh v tx)) rfl ?_
  refine WP.call hP_238 hP_132 (as := [.ref 74, .int p0]) (pc' := 5) (L' := [some (.ref 74), some (.int p0), none]) (st' := []) (w1 := Wd f fl g gl hh v tx) rfl ⟨Nat.le_of_ble_eq_true rfl, Nat.le_of_ble_eq_true rfl⟩ rfl (b_m_isShip_0 X (d) f fl g gl hh v tx p0 _ ?_)
  refine ⟨fun c1 => ?_, fun c1 => ?_⟩
  · have h2 := h.1 c1
    refine WP.run hP_238 4 (c' := (14, [some (.ref 74), some (.int p0), none], [.int (-1), .int p0, .ref 74], Wd f fl g gl hh v tx)) rfl ?_
    refine WP.call hP_238 hP_202 (as := [.ref 74, .int p0, .int (-1)]) (pc' := 17) (L' := [some (.ref 74), some (.int p0), none]) (st' := []) (w1 := Wd f fl g gl hh v tx) rfl ⟨Nat.le_of_ble_eq_true rfl, Nat.le_of_ble_eq_true rfl⟩ rfl ?_
    exact h2
  · have h3 := h.2 c1
    refine WP.run hP_238 2 (c' := (10, [some (.ref 74), some (.int p0), none], [.int (-2)], Wd f fl g gl hh v tx)) rfl ?_
    exact WP.retI hP_238 rfl rfl h3

set_option maxRecDepth 20000 in
theorem b_m_sailsKept_17 (X : mm_X) (d : Nat) (f : Nat → Int32) (fl : Nat → Int64) (g : Nat → Nat → Int32) (gl : Nat → Nat → Int64) (hh : Nat → Nat → Option Nat) (v : Nat → Value) (tx : mm_W) (l1 : Int32) (s0 : Int32)  (P : Option Value → mm_W → Prop)
    (h : ((¬ s0 = (-1)) → WP X (d) 232 (0, [some (.ref 74), some (.int 2), none, none], [], Wd f fl g gl hh v tx) (fun rv w2 => WP X (d + 1) 238 (31, [some (.ref 74), some (.int l1), some (.int s0)], rv.toList ++ [], w2) P)) ∧
    ((s0 = (-1)) → P (some (.int (-3))) (Wd f fl g gl hh v tx))) :
    WP X (d + 1) 238 (17, [some (.ref 74), some (.int l1), none], [.int s0], Wd f fl g gl hh v tx) P := by
  refine WP.run hP_238 3 (c' := (20, [some (.ref 74), some (.int l1), some (.int s0)], [.int (-1), .int s0], Wd f fl g gl hh v tx)) rfl ?_
  refine WP.br hP_238 (q := ¬ s0 = (-1)) (t := 26) (f := 23) (L := [some (.ref 74), some (.int l1), some (.int s0)]) (st := []) (w := Wd f fl g gl hh v tx) rfl (fun c1 => ?_) (fun c1 => ?_)
  · have h2 := h.1 c1
    refine WP.run hP_238 2 (c' := (28, [some (.ref 74), some (.int l1), some (.int s0)], [.int 2, .ref 74], Wd f fl g gl hh v tx)) rfl ?_
    refine WP.call hP_238 hP_232 (as := [.ref 74, .int 2]) (pc' := 31) (L' := [some (.ref 74), some (.int l1), some (.int s0)]) (st' := []) (w1 := Wd f fl g gl hh v tx) rfl ⟨Nat.le_of_ble_eq_true rfl, Nat.le_of_ble_eq_true rfl⟩ rfl ?_
    exact h2
  · have h3 := h.2 (Classical.not_not.mp c1)
    refine WP.run hP_238 1 (c' := (25, [some (.ref 74), some (.int l1), some (.int s0)], [.int (-3)], Wd f fl g gl hh v tx)) rfl ?_
    exact WP.retI hP_238 rfl rfl h3

set_option maxRecDepth 20000 in
theorem b_m_sailsKept_31 (X : mm_X) (d : Nat) (f : Nat → Int32) (fl : Nat → Int64) (g : Nat → Nat → Int32) (gl : Nat → Nat → Int64) (hh : Nat → Nat → Option Nat) (v : Nat → Value) (tx : mm_W) (l1 : Int32) (l2 : Int32)  (P : Option Value → mm_W → Prop)
    (h : WP X (d) 209 (0, [some (.ref 74), some (.int l1), none, none, none], [], Wd f fl g gl hh v tx) (fun rv w2 => WP X (d + 1) 238 (38, [some (.ref 74), some (.int l1), some (.int l2)], rv.toList ++ [.int l1, .ref 74], w2) P)) :
    WP X (d + 1) 238 (31, [some (.ref 74), some (.int l1), some (.int l2)], [], Wd f fl g gl hh v tx) P := by
  refine WP.run hP_238 4 (c' := (35, [some (.ref 74), some (.int l1), some (.int l2)], [.int l1, .ref 74, .int l1, .ref 74], Wd f fl g gl hh v tx)) rfl ?_
  refine WP.call hP_238 hP_209 (as := [.ref 74, .int l1]) (pc' := 38) (L' := [some (.ref 74), some (.int l1), some (.int l2)]) (st' := [.int l1, .ref 74]) (w1 := Wd f fl g gl hh v tx) rfl ⟨Nat.le_of_ble_eq_true rfl, Nat.le_of_ble_eq_true rfl⟩ rfl ?_
  exact h

set_option maxRecDepth 20000 in
theorem b_m_sailsKept_38 (X : mm_X) (d : Nat) (f : Nat → Int32) (fl : Nat → Int64) (g : Nat → Nat → Int32) (gl : Nat → Nat → Int64) (hh : Nat → Nat → Option Nat) (v : Nat → Value) (tx : mm_W) (l1 : Int32) (l2 : Int32) (s0 : Int32) (s1 : Int32)  (P : Option Value → mm_W → Prop)
    (h : (¬ (((13 : Int32) + s1) < 0 ∨ 5667 ≤ ((13 : Int32) + s1).toNatClampNeg)) ∧ ((¬ (((16 : Int32) + s1) < 0 ∨ 5667 ≤ ((16 : Int32) + s1).toNatClampNeg)) ∧ ((¬ (((19 : Int32) + s1) < 0 ∨ 5667 ≤ ((19 : Int32) + s1).toNatClampNeg)) ∧ P (some (.int l2)) (Wd f fl (va_up (va_up (va_up g 76 (upd (g 76) (((13 : Int32) + s1).toNatClampNeg) ((s0 / (10 : Int32)) / (4 : Int32)))) 76 (upd (upd (g 76) (((13 : Int32) + s1).toNatClampNeg) ((s0 / (10 : Int32)) / (4 : Int32))) (((16 : Int32) + s1).toNatClampNeg) ((s0 / (10 : Int32)) - ((s0 / (10 : Int32)) / (4 : Int32)) * (4 : Int32)))) 76 (upd (upd (upd (g 76) (((13 : Int32) + s1).toNatClampNeg) ((s0 / (10 : Int32)) / (4 : Int32))) (((16 : Int32) + s1).toNatClampNeg) ((s0 / (10 : Int32)) - ((s0 / (10 : Int32)) / (4 : Int32)) * (4 : Int32))) (((19 : Int32) + s1).toNatClampNeg) (s0 - (s0 / (10 : Int32)) * (10 : Int32)))) gl hh v tx)))) :
    WP X (d + 1) 238 (38, [some (.ref 74), some (.int l1), some (.int l2)], [.int s0, .int s1, .ref 74], Wd f fl g gl hh v tx) P := by
  refine WP.call hP_238 hP_210 (as := [.ref 74, .int s1, .int s0]) (pc' := 41) (L' := [some (.ref 74), some (.int l1), some (.int l2)]) (st' := []) (w1 := Wd f fl g gl hh v tx) rfl ⟨Nat.le_of_ble_eq_true rfl, Nat.le_of_ble_eq_true rfl⟩ rfl (b_m_movesTo_0 X (d) f fl g gl hh v tx s1 s0 _ ?_)
  refine ⟨h.1, ?_⟩
  have h1 := h.2
  refine ⟨h1.1, ?_⟩
  have h2 := h1.2
  refine ⟨h2.1, ?_⟩
  have h3 := h2.2
  refine WP.run hP_238 1 (c' := (42, [some (.ref 74), some (.int l1), some (.int l2)], [.int l2], Wd f fl (va_up (va_up (va_up g 76 (upd (g 76) (((13 : Int32) + s1).toNatClampNeg) ((s0 / (10 : Int32)) / (4 : Int32)))) 76 (upd (upd (g 76) (((13 : Int32) + s1).toNatClampNeg) ((s0 / (10 : Int32)) / (4 : Int32))) (((16 : Int32) + s1).toNatClampNeg) ((s0 / (10 : Int32)) - ((s0 / (10 : Int32)) / (4 : Int32)) * (4 : Int32)))) 76 (upd (upd (upd (g 76) (((13 : Int32) + s1).toNatClampNeg) ((s0 / (10 : Int32)) / (4 : Int32))) (((16 : Int32) + s1).toNatClampNeg) ((s0 / (10 : Int32)) - ((s0 / (10 : Int32)) / (4 : Int32)) * (4 : Int32))) (((19 : Int32) + s1).toNatClampNeg) (s0 - (s0 / (10 : Int32)) * (10 : Int32)))) gl hh v tx)) rfl ?_
  exact WP.retI hP_238 rfl rfl h3

set_option maxRecDepth 20000 in
theorem b_m_passesKept_0 (X : mm_X) (d : Nat) (f : Nat → Int32) (fl : Nat → Int64) (g : Nat → Nat → Int32) (gl : Nat → Nat → Int64) (hh : Nat → Nat → Option Nat) (v : Nat → Value) (tx : mm_W)   (P : Option Value → mm_W → Prop)
    (h : ((¬ ((g 76) 22) = 999) → WP X (d) 232 (0, [some (.ref 74), some (.int 3), none, none], [], Wd f fl g gl hh v tx) (fun rv w2 => WP X (d + 1) 239 (21, [some (.ref 74)], rv.toList ++ [], w2) P)) ∧
    ((((g 76) 22) = 999) → P (some (.int (-3))) (Wd f fl g gl hh v tx))) :
    WP X (d + 1) 239 (0, [some (.ref 74)], [], Wd f fl g gl hh v tx) P := by
  refine WP.run hP_239 3 (c' := (6, [some (.ref 74)], [.int 22, .ref 76], Wd f fl g gl hh v tx)) rfl ?_
  refine WP.of (fun _ _ => Ex.iald hP_239 rfl (Wa_76 _ _ _ _ _ _ _) (by decide)) ?_
  show WP X _ 239 (7, [some (.ref 74)], [.int ((g 76) 22)], Wd f fl g gl hh v tx) P
  refine WP.run hP_239 1 (c' := (10, [some (.ref 74)], [.int 999, .int ((g 76) 22)], Wd f fl g gl hh v tx)) rfl ?_
  refine WP.br hP_239 (q := ¬ ((g 76) 22) = 999) (t := 16) (f := 13) (L := [some (.ref 74)]) (st := []) (w := Wd f fl g gl hh v tx) rfl (fun c1 => ?_) (fun c1 => ?_)
  · have h2 := h.1 c1
    refine WP.run hP_239 2 (c' := (18, [some (.ref 74)], [.int 3, .ref 74], Wd f fl g gl hh v tx)) rfl ?_
    refine WP.call hP_239 hP_232 (as := [.ref 74, .int 3]) (pc' := 21) (L' := [some (.ref 74)]) (st' := []) (w1 := Wd f fl g gl hh v tx) rfl ⟨Nat.le_of_ble_eq_true rfl, Nat.le_of_ble_eq_true rfl⟩ rfl ?_
    exact h2
  · have h3 := h.2 (Classical.not_not.mp c1)
    refine WP.run hP_239 1 (c' := (15, [some (.ref 74)], [.int (-3)], Wd f fl g gl hh v tx)) rfl ?_
    exact WP.retI hP_239 rfl rfl h3

set_option maxRecDepth 20000 in
theorem b_m_passesKept_21 (X : mm_X) (d : Nat) (f : Nat → Int32) (fl : Nat → Int64) (g : Nat → Nat → Int32) (gl : Nat → Nat → Int64) (hh : Nat → Nat → Option Nat) (v : Nat → Value) (tx : mm_W)   (P : Option Value → mm_W → Prop)
    (h : P (some (.int ((upd (g 76) 22 (((g 76) 22) + (1 : Int32))) 22))) (Wd f fl (va_up g 76 (upd (g 76) 22 (((g 76) 22) + (1 : Int32)))) gl hh v tx)) :
    WP X (d) 239 (21, [some (.ref 74)], [], Wd f fl g gl hh v tx) P := by
  refine WP.run hP_239 4 (c' := (28, [some (.ref 74)], [.int 22, .ref 76, .int 22, .ref 76], Wd f fl g gl hh v tx)) rfl ?_
  refine WP.of (fun _ _ => Ex.iald hP_239 rfl (Wa_76 _ _ _ _ _ _ _) (by decide)) ?_
  show WP X _ 239 (29, [some (.ref 74)], [.int ((g 76) 22), .int 22, .ref 76], Wd f fl g gl hh v tx) P
  refine WP.run hP_239 2 (c' := (31, [some (.ref 74)], [.int (((g 76) 22) + (1 : Int32)), .int 22, .ref 76], Wd f fl g gl hh v tx)) rfl ?_
  refine WP.of (fun _ _ => Ex.iast hP_239 (w2 := Wd f fl (va_up g 76 (upd (g 76) 22 (((g 76) 22) + (1 : Int32)))) gl hh v tx) rfl (Wa_76 _ _ _ _ _ _ _) (by decide) (Ws_76 _ _ _ _ _ _ _ _)) ?_
  refine WP.run hP_239 3 (c' := (38, [some (.ref 74)], [.int 22, .ref 76], Wd f fl (va_up g 76 (upd (g 76) 22 (((g 76) 22) + (1 : Int32)))) gl hh v tx)) rfl ?_
  refine WP.of (fun _ _ => Ex.iald hP_239 rfl (Wa_76 _ _ _ _ _ _ _) (by decide)) ?_
  show WP X _ 239 (39, [some (.ref 74)], [.int ((upd (g 76) 22 (((g 76) 22) + (1 : Int32))) 22)], Wd f fl (va_up g 76 (upd (g 76) 22 (((g 76) 22) + (1 : Int32)))) gl hh v tx) P
  exact WP.retI hP_239 rfl rfl h

set_option maxRecDepth 20000 in
theorem b_m_hang_0 (X : mm_X) (d : Nat) (f : Nat → Int32) (fl : Nat → Int64) (g : Nat → Nat → Int32) (gl : Nat → Nat → Int64) (hh : Nat → Nat → Option Nat) (v : Nat → Value) (tx : mm_W) (p0 : Int32)  (P : Option Value → mm_W → Prop)
    (h : WP X (d) 236 (0, [some (.ref 74), some (.int p0)], [], Wd f fl g gl hh v tx) (fun rv w2 => WP X (d + 1) 240 (6, [some (.ref 74), some (.int p0)], rv.toList ++ [.ref 74], w2) P)) :
    WP X (d + 1) 240 (0, [some (.ref 74), some (.int p0)], [], Wd f fl g gl hh v tx) P := by
  refine WP.run hP_240 3 (c' := (3, [some (.ref 74), some (.int p0)], [.int p0, .ref 74, .ref 74], Wd f fl g gl hh v tx)) rfl ?_
  refine WP.call hP_240 hP_236 (as := [.ref 74, .int p0]) (pc' := 6) (L' := [some (.ref 74), some (.int p0)]) (st' := [.ref 74]) (w1 := Wd f fl g gl hh v tx) rfl ⟨Nat.le_of_ble_eq_true rfl, Nat.le_of_ble_eq_true rfl⟩ rfl ?_
  exact h

set_option maxRecDepth 20000 in
theorem b_m_hang_6 (X : mm_X) (d : Nat) (f : Nat → Int32) (fl : Nat → Int64) (g : Nat → Nat → Int32) (gl : Nat → Nat → Int64) (hh : Nat → Nat → Option Nat) (v : Nat → Value) (tx : mm_W) (l1 : Int32) (s0 : Int32)  (P : Option Value → mm_W → Prop)
    (h : ((0 ≤ s0) → P (some (.int s0)) (Wd (va_up f 4736 0) fl g gl hh v tx)) ∧
    ((¬ (0 ≤ s0)) → ((¬ ((-s0) < 0 ∨ 7 ≤ (-s0).toNatClampNeg)) ∧ ((¬ ((-s0) < 0 ∨ 7 ≤ (-s0).toNatClampNeg)) ∧ P (some (.int s0)) (Wd (va_up f 4736 s0) fl (va_up g 75 (upd (g 75) ((-s0).toNatClampNeg) (((g 75) (-s0).toNatClampNeg) + (1 : Int32)))) gl hh v tx))))) :
    WP X (d + 2) 240 (6, [some (.ref 74), some (.int l1)], [.int s0, .ref 74], Wd f fl g gl hh v tx) P := by
  refine WP.call hP_240 hP_234 (as := [.ref 74, .int s0]) (pc' := 9) (L' := [some (.ref 74), some (.int l1)]) (st' := []) (w1 := Wd f fl g gl hh v tx) rfl ⟨Nat.le_of_ble_eq_true rfl, Nat.le_of_ble_eq_true rfl⟩ rfl (b_m_goodOr_0 X (d) f fl g gl hh v tx s0 _ ?_)
  refine ⟨fun c1 => ?_, fun c1 => ?_⟩
  · have h2 := h.1 c1
    exact WP.retI hP_240 rfl rfl h2
  · have h3 := h.2 c1
    refine ⟨h3.1, ?_⟩
    have h4 := h3.2
    refine ⟨h4.1, ?_⟩
    have h5 := h4.2
    exact WP.retI hP_240 rfl rfl h5

set_option maxRecDepth 20000 in
theorem b_m_take_0 (X : mm_X) (d : Nat) (f : Nat → Int32) (fl : Nat → Int64) (g : Nat → Nat → Int32) (gl : Nat → Nat → Int64) (hh : Nat → Nat → Option Nat) (v : Nat → Value) (tx : mm_W)   (P : Option Value → mm_W → Prop)
    (h : WP X (d) 237 (0, [some (.ref 74)], [], Wd f fl g gl hh v tx) (fun rv w2 => WP X (d + 1) 241 (5, [some (.ref 74)], rv.toList ++ [.ref 74], w2) P)) :
    WP X (d + 1) 241 (0, [some (.ref 74)], [], Wd f fl g gl hh v tx) P := by
  refine WP.run hP_241 2 (c' := (2, [some (.ref 74)], [.ref 74, .ref 74], Wd f fl g gl hh v tx)) rfl ?_
  refine WP.call hP_241 hP_237 (as := [.ref 74]) (pc' := 5) (L' := [some (.ref 74)]) (st' := [.ref 74]) (w1 := Wd f fl g gl hh v tx) rfl ⟨Nat.le_of_ble_eq_true rfl, Nat.le_of_ble_eq_true rfl⟩ rfl ?_
  exact h

set_option maxRecDepth 20000 in
theorem b_m_take_5 (X : mm_X) (d : Nat) (f : Nat → Int32) (fl : Nat → Int64) (g : Nat → Nat → Int32) (gl : Nat → Nat → Int64) (hh : Nat → Nat → Option Nat) (v : Nat → Value) (tx : mm_W) (s0 : Int32)  (P : Option Value → mm_W → Prop)
    (h : ((0 ≤ s0) → P (some (.int s0)) (Wd (va_up f 4736 0) fl g gl hh v tx)) ∧
    ((¬ (0 ≤ s0)) → ((¬ ((-s0) < 0 ∨ 7 ≤ (-s0).toNatClampNeg)) ∧ ((¬ ((-s0) < 0 ∨ 7 ≤ (-s0).toNatClampNeg)) ∧ P (some (.int s0)) (Wd (va_up f 4736 s0) fl (va_up g 75 (upd (g 75) ((-s0).toNatClampNeg) (((g 75) (-s0).toNatClampNeg) + (1 : Int32)))) gl hh v tx))))) :
    WP X (d + 2) 241 (5, [some (.ref 74)], [.int s0, .ref 74], Wd f fl g gl hh v tx) P := by
  refine WP.call hP_241 hP_234 (as := [.ref 74, .int s0]) (pc' := 8) (L' := [some (.ref 74)]) (st' := []) (w1 := Wd f fl g gl hh v tx) rfl ⟨Nat.le_of_ble_eq_true rfl, Nat.le_of_ble_eq_true rfl⟩ rfl (b_m_goodOr_0 X (d) f fl g gl hh v tx s0 _ ?_)
  refine ⟨fun c1 => ?_, fun c1 => ?_⟩
  · have h2 := h.1 c1
    exact WP.retI hP_241 rfl rfl h2
  · have h3 := h.2 c1
    refine ⟨h3.1, ?_⟩
    have h4 := h3.2
    refine ⟨h4.1, ?_⟩
    have h5 := h4.2
    exact WP.retI hP_241 rfl rfl h5

set_option maxRecDepth 20000 in
theorem b_m_sail_0 (X : mm_X) (d : Nat) (f : Nat → Int32) (fl : Nat → Int64) (g : Nat → Nat → Int32) (gl : Nat → Nat → Int64) (hh : Nat → Nat → Option Nat) (v : Nat → Value) (tx : mm_W) (p0 : Int32)  (P : Option Value → mm_W → Prop)
    (h : WP X (d) 238 (0, [some (.ref 74), some (.int p0), none], [], Wd f fl g gl hh v tx) (fun rv w2 => WP X (d + 1) 242 (6, [some (.ref 74), some (.int p0)], rv.toList ++ [.ref 74], w2) P)) :
    WP X (d + 1) 242 (0, [some (.ref 74), some (.int p0)], [], Wd f fl g gl hh v tx) P := by
  refine WP.run hP_242 3 (c' := (3, [some (.ref 74), some (.int p0)], [.int p0, .ref 74, .ref 74], Wd f fl g gl hh v tx)) rfl ?_
  refine WP.call hP_242 hP_238 (as := [.ref 74, .int p0]) (pc' := 6) (L' := [some (.ref 74), some (.int p0)]) (st' := [.ref 74]) (w1 := Wd f fl g gl hh v tx) rfl ⟨Nat.le_of_ble_eq_true rfl, Nat.le_of_ble_eq_true rfl⟩ rfl ?_
  exact h

set_option maxRecDepth 20000 in
theorem b_m_sail_6 (X : mm_X) (d : Nat) (f : Nat → Int32) (fl : Nat → Int64) (g : Nat → Nat → Int32) (gl : Nat → Nat → Int64) (hh : Nat → Nat → Option Nat) (v : Nat → Value) (tx : mm_W) (l1 : Int32) (s0 : Int32)  (P : Option Value → mm_W → Prop)
    (h : ((0 ≤ s0) → P (some (.int s0)) (Wd (va_up f 4736 0) fl g gl hh v tx)) ∧
    ((¬ (0 ≤ s0)) → ((¬ ((-s0) < 0 ∨ 7 ≤ (-s0).toNatClampNeg)) ∧ ((¬ ((-s0) < 0 ∨ 7 ≤ (-s0).toNatClampNeg)) ∧ P (some (.int s0)) (Wd (va_up f 4736 s0) fl (va_up g 75 (upd (g 75) ((-s0).toNatClampNeg) (((g 75) (-s0).toNatClampNeg) + (1 : Int32)))) gl hh v tx))))) :
    WP X (d + 2) 242 (6, [some (.ref 74), some (.int l1)], [.int s0, .ref 74], Wd f fl g gl hh v tx) P := by
  refine WP.call hP_242 hP_234 (as := [.ref 74, .int s0]) (pc' := 9) (L' := [some (.ref 74), some (.int l1)]) (st' := []) (w1 := Wd f fl g gl hh v tx) rfl ⟨Nat.le_of_ble_eq_true rfl, Nat.le_of_ble_eq_true rfl⟩ rfl (b_m_goodOr_0 X (d) f fl g gl hh v tx s0 _ ?_)
  refine ⟨fun c1 => ?_, fun c1 => ?_⟩
  · have h2 := h.1 c1
    exact WP.retI hP_242 rfl rfl h2
  · have h3 := h.2 c1
    refine ⟨h3.1, ?_⟩
    have h4 := h3.2
    refine ⟨h4.1, ?_⟩
    have h5 := h4.2
    exact WP.retI hP_242 rfl rfl h5

set_option maxRecDepth 20000 in
theorem b_m_pass_0 (X : mm_X) (d : Nat) (f : Nat → Int32) (fl : Nat → Int64) (g : Nat → Nat → Int32) (gl : Nat → Nat → Int64) (hh : Nat → Nat → Option Nat) (v : Nat → Value) (tx : mm_W)   (P : Option Value → mm_W → Prop)
    (h : WP X (d) 239 (0, [some (.ref 74)], [], Wd f fl g gl hh v tx) (fun rv w2 => WP X (d + 1) 243 (5, [some (.ref 74)], rv.toList ++ [.ref 74], w2) P)) :
    WP X (d + 1) 243 (0, [some (.ref 74)], [], Wd f fl g gl hh v tx) P := by
  refine WP.run hP_243 2 (c' := (2, [some (.ref 74)], [.ref 74, .ref 74], Wd f fl g gl hh v tx)) rfl ?_
  refine WP.call hP_243 hP_239 (as := [.ref 74]) (pc' := 5) (L' := [some (.ref 74)]) (st' := [.ref 74]) (w1 := Wd f fl g gl hh v tx) rfl ⟨Nat.le_of_ble_eq_true rfl, Nat.le_of_ble_eq_true rfl⟩ rfl ?_
  exact h

set_option maxRecDepth 20000 in
theorem b_m_pass_5 (X : mm_X) (d : Nat) (f : Nat → Int32) (fl : Nat → Int64) (g : Nat → Nat → Int32) (gl : Nat → Nat → Int64) (hh : Nat → Nat → Option Nat) (v : Nat → Value) (tx : mm_W) (s0 : Int32)  (P : Option Value → mm_W → Prop)
    (h : ((0 ≤ s0) → P (some (.int s0)) (Wd (va_up f 4736 0) fl g gl hh v tx)) ∧
    ((¬ (0 ≤ s0)) → ((¬ ((-s0) < 0 ∨ 7 ≤ (-s0).toNatClampNeg)) ∧ ((¬ ((-s0) < 0 ∨ 7 ≤ (-s0).toNatClampNeg)) ∧ P (some (.int s0)) (Wd (va_up f 4736 s0) fl (va_up g 75 (upd (g 75) ((-s0).toNatClampNeg) (((g 75) (-s0).toNatClampNeg) + (1 : Int32)))) gl hh v tx))))) :
    WP X (d + 2) 243 (5, [some (.ref 74)], [.int s0, .ref 74], Wd f fl g gl hh v tx) P := by
  refine WP.call hP_243 hP_234 (as := [.ref 74, .int s0]) (pc' := 8) (L' := [some (.ref 74)]) (st' := []) (w1 := Wd f fl g gl hh v tx) rfl ⟨Nat.le_of_ble_eq_true rfl, Nat.le_of_ble_eq_true rfl⟩ rfl (b_m_goodOr_0 X (d) f fl g gl hh v tx s0 _ ?_)
  refine ⟨fun c1 => ?_, fun c1 => ?_⟩
  · have h2 := h.1 c1
    exact WP.retI hP_243 rfl rfl h2
  · have h3 := h.2 c1
    refine ⟨h3.1, ?_⟩
    have h4 := h3.2
    refine ⟨h4.1, ?_⟩
    have h5 := h4.2
    exact WP.retI hP_243 rfl rfl h5

set_option maxRecDepth 20000 in
theorem b_m_stopped_0 (X : mm_X) (d : Nat) (f : Nat → Int32) (fl : Nat → Int64) (g : Nat → Nat → Int32) (gl : Nat → Nat → Int64) (hh : Nat → Nat → Option Nat) (v : Nat → Value) (tx : mm_W)   (P : Option Value → mm_W → Prop)
    (h : P (some (.int (f 4778))) (Wd f fl g gl hh v tx)) :
    WP X (d) 244 (0, [some (.ref 74)], [], Wd f fl g gl hh v tx) P := by
  refine WP.run hP_244 2 (c' := (4, [some (.ref 74)], [.int (f 4778)], Wd f fl g gl hh v tx)) rfl ?_
  exact WP.retI hP_244 rfl rfl h

set_option maxRecDepth 20000 in
theorem b_m_goesAlong_0 (X : mm_X) (d : Nat) (f : Nat → Int32) (fl : Nat → Int64) (g : Nat → Nat → Int32) (gl : Nat → Nat → Int64) (hh : Nat → Nat → Option Nat) (v : Nat → Value) (tx : mm_W) (p0 : Int32) (p1 : Int32)  (P : Option Value → mm_W → Prop)
    (h : WP X (d) 178 (0, [some (.ref 74), some (.int (f 4779))], [], Wd (va_up (va_up (va_up f 4761 1) 4759 p0) 4758 (f 4779)) fl g gl hh v tx) (fun rv w2 => WP X (d + 1) 246 (27, [some (.ref 74), some (.int p0), some (.int p1)], rv.toList ++ [.ref 74], w2) P)) :
    WP X (d + 1) 246 (0, [some (.ref 74), some (.int p0), some (.int p1)], [], Wd f fl g gl hh v tx) P := by
  refine WP.run hP_246 14 (c' := (24, [some (.ref 74), some (.int p0), some (.int p1)], [.int (f 4779), .ref 74, .ref 74], Wd (va_up (va_up (va_up f 4761 1) 4759 p0) 4758 (f 4779)) fl g gl hh v tx)) rfl ?_
  refine WP.call hP_246 hP_178 (as := [.ref 74, .int (f 4779)]) (pc' := 27) (L' := [some (.ref 74), some (.int p0), some (.int p1)]) (st' := [.ref 74]) (w1 := Wd (va_up (va_up (va_up f 4761 1) 4759 p0) 4758 (f 4779)) fl g gl hh v tx) rfl ⟨Nat.le_of_ble_eq_true rfl, Nat.le_of_ble_eq_true rfl⟩ rfl ?_
  exact h

set_option maxRecDepth 20000 in
theorem b_m_goesAlong_27 (X : mm_X) (d : Nat) (f : Nat → Int32) (fl : Nat → Int64) (g : Nat → Nat → Int32) (gl : Nat → Nat → Int64) (hh : Nat → Nat → Option Nat) (v : Nat → Value) (tx : mm_W) (l1 : Int32) (l2 : Int32) (s0 : Int32)  (P : Option Value → mm_W → Prop)
    (h : ((s0 = 20) → WP X (d) 181 (0, [some (.ref 74), some (.int l2), none, none, none, none, none], [], Wd (va_up (va_up (va_up f 4781 s0) 4758 ((f 4758) + (1 : Int32))) 4760 0) fl g gl hh v tx) (fun rv w2 => WP X (d + 1) 246 (69, [some (.ref 74), none, some (.int l2)], rv.toList ++ [.ref 74], w2) P)) ∧
    ((¬ s0 = 20) → (((¬ s0 = 22) → WP X (d) 179 (0, [some (.ref 74), some (.int 24), none], [], Wd (va_up (va_up (va_up (va_up (va_up f 4781 s0) 4758 ((f 4758) + (1 : Int32))) 4760 0) 4782 1) 4780 1) (va_up fl 4784 0) g gl hh v tx) (fun rv w2 => WP X (d + 1) 246 (103, [some (.ref 74), none, some (.int l2)], rv.toList ++ [], w2) P)) ∧
      ((s0 = 22) → WP X (d) 181 (0, [some (.ref 74), some (.int l2), none, none, none, none, none], [], Wd (va_up (va_up (va_up f 4781 s0) 4758 ((f 4758) + (1 : Int32))) 4760 0) fl g gl hh v tx) (fun rv w2 => WP X (d + 1) 246 (69, [some (.ref 74), none, some (.int l2)], rv.toList ++ [.ref 74], w2) P))))) :
    WP X (d + 1) 246 (27, [some (.ref 74), some (.int l1), some (.int l2)], [.int s0, .ref 74], Wd f fl g gl hh v tx) P := by
  refine WP.run hP_246 14 (c' := (52, [some (.ref 74), some (.int l1), some (.int l2)], [.int 20, .int s0, .ref 74], Wd (va_up (va_up (va_up f 4781 s0) 4758 ((f 4758) + (1 : Int32))) 4760 0) fl g gl hh v tx)) rfl ?_
  refine WP.br hP_246 (q := s0 = 20) (t := 64) (f := 55) (L := [some (.ref 74), some (.int l1), some (.int l2)]) (st := [.ref 74]) (w := Wd (va_up (va_up (va_up f 4781 s0) 4758 ((f 4758) + (1 : Int32))) 4760 0) fl g gl hh v tx) rfl (fun c1 => ?_) (fun c1 => ?_)
  · have h2 := h.1 c1
    refine WP.run hP_246 2 (c' := (66, [some (.ref 74), none, some (.int l2)], [.int l2, .ref 74, .ref 74], Wd (va_up (va_up (va_up f 4781 s0) 4758 ((f 4758) + (1 : Int32))) 4760 0) fl g gl hh v tx)) rfl ?_
    refine WP.call hP_246 hP_181 (as := [.ref 74, .int l2]) (pc' := 69) (L' := [some (.ref 74), none, some (.int l2)]) (st' := [.ref 74]) (w1 := Wd (va_up (va_up (va_up f 4781 s0) 4758 ((f 4758) + (1 : Int32))) 4760 0) fl g gl hh v tx) rfl ⟨Nat.le_of_ble_eq_true rfl, Nat.le_of_ble_eq_true rfl⟩ rfl ?_
    exact h2
  · have h3 := h.2 c1
    refine WP.run hP_246 3 (c' := (61, [some (.ref 74), some (.int l1), some (.int l2)], [.int 22, .int s0, .ref 74], Wd (va_up (va_up (va_up f 4781 s0) 4758 ((f 4758) + (1 : Int32))) 4760 0) fl g gl hh v tx)) rfl ?_
    refine WP.br hP_246 (q := ¬ s0 = 22) (t := 72) (f := 64) (L := [some (.ref 74), some (.int l1), some (.int l2)]) (st := [.ref 74]) (w := Wd (va_up (va_up (va_up f 4781 s0) 4758 ((f 4758) + (1 : Int32))) 4760 0) fl g gl hh v tx) rfl (fun c4 => ?_) (fun c4 => ?_)
    · have h5 := h3.1 c4
      refine WP.run hP_246 1 (c' := (73, [some (.ref 74), none, some (.int l2)], [.long 0, .ref 74], Wd (va_up (va_up (va_up f 4781 s0) 4758 ((f 4758) + (1 : Int32))) 4760 0) fl g gl hh v tx)) rfl ?_
      refine WP.run hP_246 7 (c' := (89, [some (.ref 74), none, some (.int l2)], [.int 1, .ref 74], Wd (va_up (va_up (va_up f 4781 s0) 4758 ((f 4758) + (1 : Int32))) 4760 0) (va_up fl 4784 0) g gl hh v tx)) rfl ?_
      refine WP.run hP_246 6 (c' := (100, [some (.ref 74), none, some (.int l2)], [.int 24, .ref 74], Wd (va_up (va_up (va_up (va_up (va_up f 4781 s0) 4758 ((f 4758) + (1 : Int32))) 4760 0) 4782 1) 4780 1) (va_up fl 4784 0) g gl hh v tx)) rfl ?_
      refine WP.call hP_246 hP_179 (as := [.ref 74, .int 24]) (pc' := 103) (L' := [some (.ref 74), none, some (.int l2)]) (st' := []) (w1 := Wd (va_up (va_up (va_up (va_up (va_up f 4781 s0) 4758 ((f 4758) + (1 : Int32))) 4760 0) 4782 1) 4780 1) (va_up fl 4784 0) g gl hh v tx) rfl ⟨Nat.le_of_ble_eq_true rfl, Nat.le_of_ble_eq_true rfl⟩ rfl ?_
      exact h5
    · have h6 := h3.2 (Classical.not_not.mp c4)
      refine WP.run hP_246 2 (c' := (66, [some (.ref 74), none, some (.int l2)], [.int l2, .ref 74, .ref 74], Wd (va_up (va_up (va_up f 4781 s0) 4758 ((f 4758) + (1 : Int32))) 4760 0) fl g gl hh v tx)) rfl ?_
      refine WP.call hP_246 hP_181 (as := [.ref 74, .int l2]) (pc' := 69) (L' := [some (.ref 74), none, some (.int l2)]) (st' := [.ref 74]) (w1 := Wd (va_up (va_up (va_up f 4781 s0) 4758 ((f 4758) + (1 : Int32))) 4760 0) fl g gl hh v tx) rfl ⟨Nat.le_of_ble_eq_true rfl, Nat.le_of_ble_eq_true rfl⟩ rfl ?_
      exact h6

set_option maxRecDepth 20000 in
theorem b_m_goesAlong_69 (X : mm_X) (d : Nat) (f : Nat → Int32) (fl : Nat → Int64) (g : Nat → Nat → Int32) (gl : Nat → Nat → Int64) (hh : Nat → Nat → Option Nat) (v : Nat → Value) (tx : mm_W) (l2 : Int32) (s0 : Int64)  (P : Option Value → mm_W → Prop)
    (h : ((¬ (f 4760) = 0) → WP X (d) 179 (0, [some (.ref 74), some (.int 24), none], [], Wd (va_up (va_up f 4782 0) 4780 1) (va_up fl 4784 s0) g gl hh v tx) (fun rv w2 => WP X (d + 1) 246 (103, [some (.ref 74), none, some (.int l2)], rv.toList ++ [], w2) P)) ∧
    (((f 4760) = 0) → WP X (d) 179 (0, [some (.ref 74), some (.int 24), none], [], Wd (va_up (va_up f 4782 1) 4780 1) (va_up fl 4784 s0) g gl hh v tx) (fun rv w2 => WP X (d + 1) 246 (103, [some (.ref 74), none, some (.int l2)], rv.toList ++ [], w2) P))) :
    WP X (d + 1) 246 (69, [some (.ref 74), none, some (.int l2)], [.long s0, .ref 74], Wd f fl g gl hh v tx) P := by
  refine WP.run hP_246 5 (c' := (81, [some (.ref 74), none, some (.int l2)], [.int (f 4760), .ref 74], Wd f (va_up fl 4784 s0) g gl hh v tx)) rfl ?_
  refine WP.br hP_246 (q := ¬ (f 4760) = 0) (t := 88) (f := 84) (L := [some (.ref 74), none, some (.int l2)]) (st := [.ref 74]) (w := Wd f (va_up fl 4784 s0) g gl hh v tx) rfl (fun c1 => ?_) (fun c1 => ?_)
  · have h2 := h.1 c1
    refine WP.run hP_246 1 (c' := (89, [some (.ref 74), none, some (.int l2)], [.int 0, .ref 74], Wd f (va_up fl 4784 s0) g gl hh v tx)) rfl ?_
    refine WP.run hP_246 6 (c' := (100, [some (.ref 74), none, some (.int l2)], [.int 24, .ref 74], Wd (va_up (va_up f 4782 0) 4780 1) (va_up fl 4784 s0) g gl hh v tx)) rfl ?_
    refine WP.call hP_246 hP_179 (as := [.ref 74, .int 24]) (pc' := 103) (L' := [some (.ref 74), none, some (.int l2)]) (st' := []) (w1 := Wd (va_up (va_up f 4782 0) 4780 1) (va_up fl 4784 s0) g gl hh v tx) rfl ⟨Nat.le_of_ble_eq_true rfl, Nat.le_of_ble_eq_true rfl⟩ rfl ?_
    exact h2
  · have h3 := h.2 (Classical.not_not.mp c1)
    refine WP.run hP_246 8 (c' := (100, [some (.ref 74), none, some (.int l2)], [.int 24, .ref 74], Wd (va_up (va_up f 4782 1) 4780 1) (va_up fl 4784 s0) g gl hh v tx)) rfl ?_
    refine WP.call hP_246 hP_179 (as := [.ref 74, .int 24]) (pc' := 103) (L' := [some (.ref 74), none, some (.int l2)]) (st' := []) (w1 := Wd (va_up (va_up f 4782 1) 4780 1) (va_up fl 4784 s0) g gl hh v tx) rfl ⟨Nat.le_of_ble_eq_true rfl, Nat.le_of_ble_eq_true rfl⟩ rfl ?_
    exact h3

set_option maxRecDepth 20000 in
theorem b_m_goesAlong_103 (X : mm_X) (d : Nat) (f : Nat → Int32) (fl : Nat → Int64) (g : Nat → Nat → Int32) (gl : Nat → Nat → Int64) (hh : Nat → Nat → Option Nat) (v : Nat → Value) (tx : mm_W) (l2 : Int32) (s0 : Int32)  (P : Option Value → mm_W → Prop)
    (h : ((s0 = 0) → WP X (d) 179 (0, [some (.ref 74), some (.int 4), none], [], Wd (va_up f 4760 0) fl g gl hh v tx) (fun rv w2 => WP X (d + 1) 246 (144, [some (.ref 74), none, some (.int l2)], rv.toList ++ [.ref 74], w2) P)) ∧
    ((¬ s0 = 0) → ((¬ (((2867 : Int32) + (f 4758)) < 0 ∨ 5667 ≤ ((2867 : Int32) + (f 4758)).toNatClampNeg)) ∧ WP X (d) 179 (0, [some (.ref 74), some (.int 4), none], [], Wd (va_up (va_up (va_up f 4780 ((g 76) ((2867 : Int32) + (f 4758)).toNatClampNeg)) 4758 ((f 4758) + (1 : Int32))) 4760 0) fl g gl hh v tx) (fun rv w2 => WP X (d + 1) 246 (144, [some (.ref 74), none, some (.int l2)], rv.toList ++ [.ref 74], w2) P)))) :
    WP X (d + 1) 246 (103, [some (.ref 74), none, some (.int l2)], [.int s0], Wd f fl g gl hh v tx) P := by
  refine WP.br hP_246 (q := s0 = 0) (t := 133) (f := 106) (L := [some (.ref 74), none, some (.int l2)]) (st := []) (w := Wd f fl g gl hh v tx) rfl (fun c1 => ?_) (fun c1 => ?_)
  · have h2 := h.1 c1
    refine WP.run hP_246 6 (c' := (141, [some (.ref 74), none, some (.int l2)], [.int 4, .ref 74, .ref 74], Wd (va_up f 4760 0) fl g gl hh v tx)) rfl ?_
    refine WP.call hP_246 hP_179 (as := [.ref 74, .int 4]) (pc' := 144) (L' := [some (.ref 74), none, some (.int l2)]) (st' := [.ref 74]) (w1 := Wd (va_up f 4760 0) fl g gl hh v tx) rfl ⟨Nat.le_of_ble_eq_true rfl, Nat.le_of_ble_eq_true rfl⟩ rfl ?_
    exact h2
  · have h3 := h.2 c1
    refine WP.run hP_246 7 (c' := (119, [some (.ref 74), none, some (.int l2)], [.int ((2867 : Int32) + (f 4758)), .ref 76, .ref 74], Wd f fl g gl hh v tx)) rfl ?_
    refine WP.of (fun _ _ => Ex.iald hP_246 rfl (Wa_76 _ _ _ _ _ _ _) h3.1) ?_
    have h4 := h3.2
    refine WP.run hP_246 13 (c' := (141, [some (.ref 74), none, some (.int l2)], [.int 4, .ref 74, .ref 74], Wd (va_up (va_up (va_up f 4780 ((g 76) ((2867 : Int32) + (f 4758)).toNatClampNeg)) 4758 ((f 4758) + (1 : Int32))) 4760 0) fl g gl hh v tx)) rfl ?_
    refine WP.call hP_246 hP_179 (as := [.ref 74, .int 4]) (pc' := 144) (L' := [some (.ref 74), none, some (.int l2)]) (st' := [.ref 74]) (w1 := Wd (va_up (va_up (va_up f 4780 ((g 76) ((2867 : Int32) + (f 4758)).toNatClampNeg)) 4758 ((f 4758) + (1 : Int32))) 4760 0) fl g gl hh v tx) rfl ⟨Nat.le_of_ble_eq_true rfl, Nat.le_of_ble_eq_true rfl⟩ rfl ?_
    exact h4

set_option maxRecDepth 20000 in
theorem b_m_goesAlong_144 (X : mm_X) (d : Nat) (f : Nat → Int32) (fl : Nat → Int64) (g : Nat → Nat → Int32) (gl : Nat → Nat → Int64) (hh : Nat → Nat → Option Nat) (v : Nat → Value) (tx : mm_W) (l2 : Int32) (s0 : Int32)  (P : Option Value → mm_W → Prop)
    (h : ((s0 = 0) → (((¬ (f 4760) = 0) → P none (Wd (va_up (va_up f 4783 0) 4758 ((f 4758) + (1 : Int32))) fl g gl hh v tx)) ∧
      (((f 4760) = 0) → P none (Wd (va_up (va_up f 4783 1) 4758 ((f 4758) + (1 : Int32))) fl g gl hh v tx)))) ∧
    ((¬ s0 = 0) → WP X (d) 185 (0, [some (.ref 74), some (.int l2), none, none], [], Wd f fl g gl hh v tx) (fun rv w2 => WP X (d + 1) 246 (152, [some (.ref 74), none, some (.int l2)], rv.toList ++ [.ref 74], w2) P))) :
    WP X (d + 1) 246 (144, [some (.ref 74), none, some (.int l2)], [.int s0, .ref 74], Wd f fl g gl hh v tx) P := by
  refine WP.br hP_246 (q := s0 = 0) (t := 155) (f := 147) (L := [some (.ref 74), none, some (.int l2)]) (st := [.ref 74]) (w := Wd f fl g gl hh v tx) rfl (fun c1 => ?_) (fun c1 => ?_)
  · have h2 := h.1 c1
    refine WP.run hP_246 2 (c' := (160, [some (.ref 74), none, none], [.int 1, .ref 74], Wd f fl g gl hh v tx)) rfl ?_
    refine WP.run hP_246 7 (c' := (175, [some (.ref 74), none, none], [.int (f 4760), .ref 74], Wd (va_up f 4783 1) fl g gl hh v tx)) rfl ?_
    refine WP.br hP_246 (q := ¬ (f 4760) = 0) (t := 182) (f := 178) (L := [some (.ref 74), none, none]) (st := [.ref 74]) (w := Wd (va_up f 4783 1) fl g gl hh v tx) rfl (fun c3 => ?_) (fun c3 => ?_)
    · have h4 := h2.1 c3
      refine WP.run hP_246 1 (c' := (183, [some (.ref 74), none, none], [.int 0, .ref 74], Wd (va_up f 4783 1) fl g gl hh v tx)) rfl ?_
      refine WP.run hP_246 7 (c' := (196, [some (.ref 74), none, none], [], Wd (va_up (va_up f 4783 0) 4758 ((f 4758) + (1 : Int32))) fl g gl hh v tx)) rfl ?_
      exact WP.ret hP_246 (r := none) (w' := Wd (va_up (va_up f 4783 0) 4758 ((f 4758) + (1 : Int32))) fl g gl hh v tx) rfl h4
    · have h5 := h2.2 (Classical.not_not.mp c3)
      refine WP.run hP_246 9 (c' := (196, [some (.ref 74), none, none], [], Wd (va_up (va_up f 4783 1) 4758 ((f 4758) + (1 : Int32))) fl g gl hh v tx)) rfl ?_
      exact WP.ret hP_246 (r := none) (w' := Wd (va_up (va_up f 4783 1) 4758 ((f 4758) + (1 : Int32))) fl g gl hh v tx) rfl h5
  · have h6 := h.2 c1
    refine WP.run hP_246 2 (c' := (149, [some (.ref 74), none, some (.int l2)], [.int l2, .ref 74, .ref 74], Wd f fl g gl hh v tx)) rfl ?_
    refine WP.call hP_246 hP_185 (as := [.ref 74, .int l2]) (pc' := 152) (L' := [some (.ref 74), none, some (.int l2)]) (st' := [.ref 74]) (w1 := Wd f fl g gl hh v tx) rfl ⟨Nat.le_of_ble_eq_true rfl, Nat.le_of_ble_eq_true rfl⟩ rfl ?_
    exact h6

set_option maxRecDepth 20000 in
theorem b_m_goesAlong_152 (X : mm_X) (d : Nat) (f : Nat → Int32) (fl : Nat → Int64) (g : Nat → Nat → Int32) (gl : Nat → Nat → Int64) (hh : Nat → Nat → Option Nat) (v : Nat → Value) (tx : mm_W) (l2 : Int32) (s0 : Int32)  (P : Option Value → mm_W → Prop)
    (h : ((s0 = 0) → P none (Wd (va_up (va_up f 4783 0) 4758 ((f 4758) + (1 : Int32))) fl g gl hh v tx)) ∧
    ((¬ s0 = 0) → (((¬ (f 4760) = 0) → P none (Wd (va_up (va_up f 4783 0) 4758 ((f 4758) + (1 : Int32))) fl g gl hh v tx)) ∧
      (((f 4760) = 0) → P none (Wd (va_up (va_up f 4783 1) 4758 ((f 4758) + (1 : Int32))) fl g gl hh v tx))))) :
    WP X (d) 246 (152, [some (.ref 74), none, some (.int l2)], [.int s0, .ref 74], Wd f fl g gl hh v tx) P := by
  refine WP.br hP_246 (q := s0 = 0) (t := 159) (f := 155) (L := [some (.ref 74), none, some (.int l2)]) (st := [.ref 74]) (w := Wd f fl g gl hh v tx) rfl (fun c1 => ?_) (fun c1 => ?_)
  · have h2 := h.1 c1
    refine WP.run hP_246 1 (c' := (160, [some (.ref 74), none, none], [.int 0, .ref 74], Wd f fl g gl hh v tx)) rfl ?_
    refine WP.run hP_246 5 (c' := (182, [some (.ref 74), none, none], [.ref 74], Wd (va_up f 4783 0) fl g gl hh v tx)) rfl ?_
    refine WP.run hP_246 1 (c' := (183, [some (.ref 74), none, none], [.int 0, .ref 74], Wd (va_up f 4783 0) fl g gl hh v tx)) rfl ?_
    refine WP.run hP_246 7 (c' := (196, [some (.ref 74), none, none], [], Wd (va_up (va_up f 4783 0) 4758 ((f 4758) + (1 : Int32))) fl g gl hh v tx)) rfl ?_
    exact WP.ret hP_246 (r := none) (w' := Wd (va_up (va_up f 4783 0) 4758 ((f 4758) + (1 : Int32))) fl g gl hh v tx) rfl h2
  · have h3 := h.2 c1
    refine WP.run hP_246 2 (c' := (160, [some (.ref 74), none, none], [.int 1, .ref 74], Wd f fl g gl hh v tx)) rfl ?_
    refine WP.run hP_246 7 (c' := (175, [some (.ref 74), none, none], [.int (f 4760), .ref 74], Wd (va_up f 4783 1) fl g gl hh v tx)) rfl ?_
    refine WP.br hP_246 (q := ¬ (f 4760) = 0) (t := 182) (f := 178) (L := [some (.ref 74), none, none]) (st := [.ref 74]) (w := Wd (va_up f 4783 1) fl g gl hh v tx) rfl (fun c4 => ?_) (fun c4 => ?_)
    · have h5 := h3.1 c4
      refine WP.run hP_246 1 (c' := (183, [some (.ref 74), none, none], [.int 0, .ref 74], Wd (va_up f 4783 1) fl g gl hh v tx)) rfl ?_
      refine WP.run hP_246 7 (c' := (196, [some (.ref 74), none, none], [], Wd (va_up (va_up f 4783 0) 4758 ((f 4758) + (1 : Int32))) fl g gl hh v tx)) rfl ?_
      exact WP.ret hP_246 (r := none) (w' := Wd (va_up (va_up f 4783 0) 4758 ((f 4758) + (1 : Int32))) fl g gl hh v tx) rfl h5
    · have h6 := h3.2 (Classical.not_not.mp c4)
      refine WP.run hP_246 9 (c' := (196, [some (.ref 74), none, none], [], Wd (va_up (va_up f 4783 1) 4758 ((f 4758) + (1 : Int32))) fl g gl hh v tx)) rfl ?_
      exact WP.ret hP_246 (r := none) (w' := Wd (va_up (va_up f 4783 1) 4758 ((f 4758) + (1 : Int32))) fl g gl hh v tx) rfl h6

set_option maxRecDepth 20000 in
theorem b_m_small_0 (X : mm_X) (d : Nat) (f : Nat → Int32) (fl : Nat → Int64) (g : Nat → Nat → Int32) (gl : Nat → Nat → Int64) (hh : Nat → Nat → Option Nat) (v : Nat → Value) (tx : mm_W) (p0 : Int64)  (P : Option Value → mm_W → Prop)
    (h : (((lg_cmp p0 0) < 0) → P (some (.int (-1))) (Wd f fl g gl hh v tx)) ∧
    ((¬ ((lg_cmp p0 0) < 0)) → ((((lg_cmp p0 1000000) ≤ 0) → P (some (.int ((p0 : Int64).toInt32))) (Wd f fl g gl hh v tx)) ∧
      ((¬ ((lg_cmp p0 1000000) ≤ 0)) → P (some (.int (-1))) (Wd f fl g gl hh v tx))))) :
    WP X (d) 247 (0, [some (.long p0), none], [], Wd f fl g gl hh v tx) P := by
  refine WP.run hP_247 3 (c' := (3, [some (.long p0), none], [.int (lg_cmp p0 0)], Wd f fl g gl hh v tx)) rfl ?_
  refine WP.br hP_247 (q := (lg_cmp p0 0) < 0) (t := 14) (f := 6) (L := [some (.long p0), none]) (st := []) (w := Wd f fl g gl hh v tx) rfl (fun c1 => ?_) (fun c1 => ?_)
  · have h2 := h.1 c1
    refine WP.run hP_247 2 (c' := (20, [none, none], [.int (-1)], Wd f fl g gl hh v tx)) rfl ?_
    exact WP.retI hP_247 rfl rfl h2
  · have h3 := h.2 c1
    refine WP.run hP_247 3 (c' := (11, [some (.long p0), none], [.int (lg_cmp p0 1000000)], Wd f fl g gl hh v tx)) rfl ?_
    refine WP.br hP_247 (q := (lg_cmp p0 1000000) ≤ 0) (t := 18) (f := 14) (L := [some (.long p0), none]) (st := []) (w := Wd f fl g gl hh v tx) rfl (fun c4 => ?_) (fun c4 => ?_)
    · have h5 := h3.1 c4
      refine WP.run hP_247 2 (c' := (20, [some (.long p0), none], [.int ((p0 : Int64).toInt32)], Wd f fl g gl hh v tx)) rfl ?_
      exact WP.retI hP_247 rfl rfl h5
    · have h6 := h3.2 c4
      refine WP.run hP_247 2 (c' := (20, [none, none], [.int (-1)], Wd f fl g gl hh v tx)) rfl ?_
      exact WP.retI hP_247 rfl rfl h6

set_option maxRecDepth 20000 in
theorem b_m_obeys_0 (X : mm_X) (d : Nat) (f : Nat → Int32) (fl : Nat → Int64) (g : Nat → Nat → Int32) (gl : Nat → Nat → Int64) (hh : Nat → Nat → Option Nat) (v : Nat → Value) (tx : mm_W)   (P : Option Value → mm_W → Prop)
    (h : (((f 4781) = 21) → WP X (d) 237 (0, [some (.ref 74)], [], Wd f fl g gl hh v tx) (fun rv w2 => WP X (d + 1) 248 (36, [some (.ref 74), none], rv.toList ++ [], w2) P)) ∧
    ((¬ (f 4781) = 21) → ((((f 4781) = 22) → ((((lg_cmp (fl 4784) 0) < 0) → WP X (d) 238 (0, [some (.ref 74), some (.int (-1)), none], [], Wd f fl g gl hh v tx) (fun rv w2 => WP X (d + 1) 248 (48, [some (.ref 74), none], rv.toList ++ [], w2) P)) ∧
        ((¬ ((lg_cmp (fl 4784) 0) < 0)) → ((((lg_cmp (fl 4784) 1000000) ≤ 0) → WP X (d) 238 (0, [some (.ref 74), some (.int (((fl 4784) : Int64).toInt32)), none], [], Wd f fl g gl hh v tx) (fun rv w2 => WP X (d + 1) 248 (48, [some (.ref 74), none], rv.toList ++ [], w2) P)) ∧
          ((¬ ((lg_cmp (fl 4784) 1000000) ≤ 0)) → WP X (d) 238 (0, [some (.ref 74), some (.int (-1)), none], [], Wd f fl g gl hh v tx) (fun rv w2 => WP X (d + 1) 248 (48, [some (.ref 74), none], rv.toList ++ [], w2) P)))))) ∧
      ((¬ (f 4781) = 22) → ((((f 4781) = 23) → WP X (d) 239 (0, [some (.ref 74)], [], Wd f fl g gl hh v tx) (fun rv w2 => WP X (d + 1) 248 (71, [some (.ref 74), none], rv.toList ++ [], w2) P)) ∧
        ((¬ (f 4781) = 23) → ((((lg_cmp (fl 4784) 0) < 0) → WP X (d) 236 (0, [some (.ref 74), some (.int (-1))], [], Wd f fl g gl hh v tx) (fun rv w2 => WP X (d + 1) 248 (83, [some (.ref 74), none], rv.toList ++ [], w2) P)) ∧
          ((¬ ((lg_cmp (fl 4784) 0) < 0)) → ((((lg_cmp (fl 4784) 1000000) ≤ 0) → WP X (d) 236 (0, [some (.ref 74), some (.int (((fl 4784) : Int64).toInt32))], [], Wd f fl g gl hh v tx) (fun rv w2 => WP X (d + 1) 248 (83, [some (.ref 74), none], rv.toList ++ [], w2) P)) ∧
            ((¬ ((lg_cmp (fl 4784) 1000000) ≤ 0)) → WP X (d) 236 (0, [some (.ref 74), some (.int (-1))], [], Wd f fl g gl hh v tx) (fun rv w2 => WP X (d + 1) 248 (83, [some (.ref 74), none], rv.toList ++ [], w2) P))))))))))) :
    WP X (d + 1) 248 (0, [some (.ref 74), none], [], Wd f fl g gl hh v tx) P := by
  refine WP.run hP_248 2 (c' := (4, [some (.ref 74), none], [.int (f 4781)], Wd f fl g gl hh v tx)) rfl ?_
  refine WP.run hP_248 1 (c' := (mm_sw (f 4781) 21 [32, 37, 67] 72, [some (.ref 74), none], [], Wd f fl g gl hh v tx)) rfl ?_
  refine WP.sw (lo' := 22) rfl (fun c1 => ?_) (fun c1 => ?_)
  · have h2 := h.1 c1
    refine WP.run hP_248 1 (c' := (33, [some (.ref 74), none], [.ref 74], Wd f fl g gl hh v tx)) rfl ?_
    refine WP.call hP_248 hP_237 (as := [.ref 74]) (pc' := 36) (L' := [some (.ref 74), none]) (st' := []) (w1 := Wd f fl g gl hh v tx) rfl ⟨Nat.le_of_ble_eq_true rfl, Nat.le_of_ble_eq_true rfl⟩ rfl ?_
    exact h2
  · have h3 := h.2 c1
    refine WP.sw (lo' := 23) rfl (fun c4 => ?_) (fun c4 => ?_)
    · have h5 := h3.1 c4
      refine WP.run hP_248 3 (c' := (42, [some (.ref 74), none], [.long (fl 4784), .ref 74], Wd f fl g gl hh v tx)) rfl ?_
      refine WP.call hP_248 hP_247 (as := [.long (fl 4784)]) (pc' := 45) (L' := [some (.ref 74), none]) (st' := [.ref 74]) (w1 := Wd f fl g gl hh v tx) rfl ⟨Nat.le_of_ble_eq_true rfl, Nat.le_of_ble_eq_true rfl⟩ rfl (b_m_small_0 X (d) f fl g gl hh v tx (fl 4784) _ ?_)
      refine ⟨fun c6 => ?_, fun c6 => ?_⟩
      · have h7 := h5.1 c6
        refine WP.call hP_248 hP_238 (as := [.ref 74, .int (-1)]) (pc' := 48) (L' := [some (.ref 74), none]) (st' := []) (w1 := Wd f fl g gl hh v tx) rfl ⟨Nat.le_of_ble_eq_true rfl, Nat.le_of_ble_eq_true rfl⟩ rfl ?_
        exact h7
      · have h8 := h5.2 c6
        refine ⟨fun c9 => ?_, fun c9 => ?_⟩
        · have h10 := h8.1 c9
          refine WP.call hP_248 hP_238 (as := [.ref 74, .int (((fl 4784) : Int64).toInt32)]) (pc' := 48) (L' := [some (.ref 74), none]) (st' := []) (w1 := Wd f fl g gl hh v tx) rfl ⟨Nat.le_of_ble_eq_true rfl, Nat.le_of_ble_eq_true rfl⟩ rfl ?_
          exact h10
        · have h11 := h8.2 c9
          refine WP.call hP_248 hP_238 (as := [.ref 74, .int (-1)]) (pc' := 48) (L' := [some (.ref 74), none]) (st' := []) (w1 := Wd f fl g gl hh v tx) rfl ⟨Nat.le_of_ble_eq_true rfl, Nat.le_of_ble_eq_true rfl⟩ rfl ?_
          exact h11
    · have h12 := h3.2 c4
      refine WP.sw (lo' := 24) rfl (fun c13 => ?_) (fun c13 => ?_)
      · have h14 := h12.1 c13
        refine WP.run hP_248 1 (c' := (68, [some (.ref 74), none], [.ref 74], Wd f fl g gl hh v tx)) rfl ?_
        refine WP.call hP_248 hP_239 (as := [.ref 74]) (pc' := 71) (L' := [some (.ref 74), none]) (st' := []) (w1 := Wd f fl g gl hh v tx) rfl ⟨Nat.le_of_ble_eq_true rfl, Nat.le_of_ble_eq_true rfl⟩ rfl ?_
        exact h14
      · have h15 := h12.2 c13
        show WP X _ 248 (72, [some (.ref 74), none], [], Wd f fl g gl hh v tx) P
        refine WP.run hP_248 3 (c' := (77, [some (.ref 74), none], [.long (fl 4784), .ref 74], Wd f fl g gl hh v tx)) rfl ?_
        refine WP.call hP_248 hP_247 (as := [.long (fl 4784)]) (pc' := 80) (L' := [some (.ref 74), none]) (st' := [.ref 74]) (w1 := Wd f fl g gl hh v tx) rfl ⟨Nat.le_of_ble_eq_true rfl, Nat.le_of_ble_eq_true rfl⟩ rfl (b_m_small_0 X (d) f fl g gl hh v tx (fl 4784) _ ?_)
        refine ⟨fun c16 => ?_, fun c16 => ?_⟩
        · have h17 := h15.1 c16
          refine WP.call hP_248 hP_236 (as := [.ref 74, .int (-1)]) (pc' := 83) (L' := [some (.ref 74), none]) (st' := []) (w1 := Wd f fl g gl hh v tx) rfl ⟨Nat.le_of_ble_eq_true rfl, Nat.le_of_ble_eq_true rfl⟩ rfl ?_
          exact h17
        · have h18 := h15.2 c16
          refine ⟨fun c19 => ?_, fun c19 => ?_⟩
          · have h20 := h18.1 c19
            refine WP.call hP_248 hP_236 (as := [.ref 74, .int (((fl 4784) : Int64).toInt32)]) (pc' := 83) (L' := [some (.ref 74), none]) (st' := []) (w1 := Wd f fl g gl hh v tx) rfl ⟨Nat.le_of_ble_eq_true rfl, Nat.le_of_ble_eq_true rfl⟩ rfl ?_
            exact h20
          · have h21 := h18.2 c19
            refine WP.call hP_248 hP_236 (as := [.ref 74, .int (-1)]) (pc' := 83) (L' := [some (.ref 74), none]) (st' := []) (w1 := Wd f fl g gl hh v tx) rfl ⟨Nat.le_of_ble_eq_true rfl, Nat.le_of_ble_eq_true rfl⟩ rfl ?_
            exact h21

set_option maxRecDepth 20000 in
theorem b_m_obeys_36 (X : mm_X) (d : Nat) (f : Nat → Int32) (fl : Nat → Int64) (g : Nat → Nat → Int32) (gl : Nat → Nat → Int64) (hh : Nat → Nat → Option Nat) (v : Nat → Value) (tx : mm_W) (s0 : Int32)  (P : Option Value → mm_W → Prop)
    (h : P (some (.int s0)) (Wd f fl g gl hh v tx)) :
    WP X (d) 248 (36, [some (.ref 74), none], [.int s0], Wd f fl g gl hh v tx) P := by
  exact WP.retI hP_248 rfl rfl h

set_option maxRecDepth 20000 in
theorem b_m_obeys_48 (X : mm_X) (d : Nat) (f : Nat → Int32) (fl : Nat → Int64) (g : Nat → Nat → Int32) (gl : Nat → Nat → Int64) (hh : Nat → Nat → Option Nat) (v : Nat → Value) (tx : mm_W) (s0 : Int32)  (P : Option Value → mm_W → Prop)
    (h : ((0 ≤ s0) → P (some (.int s0)) (Wd (va_up f 4764 s0) fl g gl hh v tx)) ∧
    ((¬ (0 ≤ s0)) → P (some (.int s0)) (Wd (va_up f 4764 (f 4764)) fl g gl hh v tx))) :
    WP X (d) 248 (48, [some (.ref 74), none], [.int s0], Wd f fl g gl hh v tx) P := by
  refine WP.run hP_248 3 (c' := (51, [some (.ref 74), some (.int s0)], [.int s0, .ref 74], Wd f fl g gl hh v tx)) rfl ?_
  refine WP.br hP_248 (q := 0 ≤ s0) (t := 61) (f := 54) (L := [some (.ref 74), some (.int s0)]) (st := [.ref 74]) (w := Wd f fl g gl hh v tx) rfl (fun c1 => ?_) (fun c1 => ?_)
  · have h2 := h.1 c1
    refine WP.run hP_248 1 (c' := (62, [none, some (.int s0)], [.int s0, .ref 74], Wd f fl g gl hh v tx)) rfl ?_
    refine WP.run hP_248 2 (c' := (66, [none, some (.int s0)], [.int s0], Wd (va_up f 4764 s0) fl g gl hh v tx)) rfl ?_
    exact WP.retI hP_248 rfl rfl h2
  · have h3 := h.2 c1
    refine WP.run hP_248 5 (c' := (66, [none, some (.int s0)], [.int s0], Wd (va_up f 4764 (f 4764)) fl g gl hh v tx)) rfl ?_
    exact WP.retI hP_248 rfl rfl h3

set_option maxRecDepth 20000 in
theorem b_m_obeys_71 (X : mm_X) (d : Nat) (f : Nat → Int32) (fl : Nat → Int64) (g : Nat → Nat → Int32) (gl : Nat → Nat → Int64) (hh : Nat → Nat → Option Nat) (v : Nat → Value) (tx : mm_W) (s0 : Int32)  (P : Option Value → mm_W → Prop)
    (h : P (some (.int s0)) (Wd f fl g gl hh v tx)) :
    WP X (d) 248 (71, [some (.ref 74), none], [.int s0], Wd f fl g gl hh v tx) P := by
  exact WP.retI hP_248 rfl rfl h

set_option maxRecDepth 20000 in
theorem b_m_obeys_83 (X : mm_X) (d : Nat) (f : Nat → Int32) (fl : Nat → Int64) (g : Nat → Nat → Int32) (gl : Nat → Nat → Int64) (hh : Nat → Nat → Option Nat) (v : Nat → Value) (tx : mm_W) (s0 : Int32)  (P : Option Value → mm_W → Prop)
    (h : P (some (.int s0)) (Wd f fl g gl hh v tx)) :
    WP X (d) 248 (83, [some (.ref 74), none], [.int s0], Wd f fl g gl hh v tx) P := by
  exact WP.retI hP_248 rfl rfl h

set_option maxRecDepth 20000 in
theorem b_m_runs_0 (X : mm_X) (d : Nat) (f : Nat → Int32) (fl : Nat → Int64) (g : Nat → Nat → Int32) (gl : Nat → Nat → Int64) (hh : Nat → Nat → Option Nat) (v : Nat → Value) (tx : mm_W) (p0 : Int32)  (P : Option Value → mm_W → Prop)
    (h : WP X (d) 246 (0, [some (.ref 74), some (.int p0), some (.int 0)], [], Wd f fl g gl hh v tx) (fun rv w2 => WP X (d + 1) 249 (6, [some (.ref 74), some (.int p0), none, none, none], rv.toList ++ [], w2) P)) :
    WP X (d + 1) 249 (0, [some (.ref 74), some (.int p0), none, none, none], [], Wd f fl g gl hh v tx) P := by
  refine WP.run hP_249 3 (c' := (3, [some (.ref 74), some (.int p0), none, none, none], [.int 0, .int p0, .ref 74], Wd f fl g gl hh v tx)) rfl ?_
  refine WP.call hP_249 hP_246 (as := [.ref 74, .int p0, .int 0]) (pc' := 6) (L' := [some (.ref 74), some (.int p0), none, none, none]) (st' := []) (w1 := Wd f fl g gl hh v tx) rfl ⟨Nat.le_of_ble_eq_true rfl, Nat.le_of_ble_eq_true rfl⟩ rfl ?_
  exact h

set_option maxRecDepth 20000 in
theorem b_m_runs_6 (X : mm_X) (d : Nat) (f : Nat → Int32) (fl : Nat → Int64) (g : Nat → Nat → Int32) (gl : Nat → Nat → Int64) (hh : Nat → Nat → Option Nat) (v : Nat → Value) (tx : mm_W) (l1 : Int32)  (P : Option Value → mm_W → Prop)
    (h : WP X (d) 249 (19, [some (.ref 74), some (.int l1), some (.int (f 4780)), some (.int (f 4758)), some (.int 0)], [], Wd f fl g gl hh v tx) P) :
    WP X (d) 249 (6, [some (.ref 74), some (.int l1), none, none, none], [], Wd f fl g gl hh v tx) P := by
  refine WP.run hP_249 5 (c' := (15, [some (.ref 74), some (.int l1), some (.int (f 4780)), none, none], [.int (f 4758)], Wd f fl g gl hh v tx)) rfl ?_
  refine WP.run hP_249 2 (c' := (17, [some (.ref 74), some (.int l1), some (.int (f 4780)), some (.int (f 4758)), none], [.int 0], Wd f fl g gl hh v tx)) rfl ?_
  refine WP.run hP_249 1 (c' := (19, [some (.ref 74), some (.int l1), some (.int (f 4780)), some (.int (f 4758)), some (.int 0)], [], Wd f fl g gl hh v tx)) rfl ?_
  exact h

set_option maxRecDepth 20000 in
theorem b_m_runs_19 (X : mm_X) (d : Nat) (f : Nat → Int32) (fl : Nat → Int64) (g : Nat → Nat → Int32) (gl : Nat → Nat → Int64) (hh : Nat → Nat → Option Nat) (v : Nat → Value) (tx : mm_W) (l1 : Int32) (l2 : Int32) (l3 : Int32) (l4 : Int32)  (P : Option Value → mm_W → Prop)
    (h : ((l2 ≤ l4) → P (some (.int 1)) (Wd (va_up f 4779 l3) fl g gl hh v tx)) ∧
    ((¬ (l2 ≤ l4)) → WP X (d) 246 (0, [some (.ref 74), some (.int l1), some (.int 1)], [], Wd f fl g gl hh v tx) (fun rv w2 => WP X (d + 1) 249 (31, [some (.ref 74), some (.int l1), some (.int l2), some (.int l3), some (.int l4)], rv.toList ++ [], w2) P))) :
    WP X (d + 1) 249 (19, [some (.ref 74), some (.int l1), some (.int l2), some (.int l3), some (.int l4)], [], Wd f fl g gl hh v tx) P := by
  refine WP.run hP_249 2 (c' := (22, [some (.ref 74), some (.int l1), some (.int l2), some (.int l3), some (.int l4)], [.int l2, .int l4], Wd f fl g gl hh v tx)) rfl ?_
  refine WP.br hP_249 (q := l2 ≤ l4) (t := 73) (f := 25) (L := [some (.ref 74), some (.int l1), some (.int l2), some (.int l3), some (.int l4)]) (st := []) (w := Wd f fl g gl hh v tx) rfl (fun c1 => ?_) (fun c1 => ?_)
  · have h2 := h.1 c1
    refine WP.run hP_249 4 (c' := (79, [some (.ref 74), none, none, some (.int l3), none], [.int 1], Wd (va_up f 4779 l3) fl g gl hh v tx)) rfl ?_
    exact WP.ret hP_249 (r := some (.int 1)) (w' := Wd (va_up f 4779 l3) fl g gl hh v tx) rfl h2
  · have h3 := h.2 c1
    refine WP.run hP_249 3 (c' := (28, [some (.ref 74), some (.int l1), some (.int l2), some (.int l3), some (.int l4)], [.int 1, .int l1, .ref 74], Wd f fl g gl hh v tx)) rfl ?_
    refine WP.call hP_249 hP_246 (as := [.ref 74, .int l1, .int 1]) (pc' := 31) (L' := [some (.ref 74), some (.int l1), some (.int l2), some (.int l3), some (.int l4)]) (st' := []) (w1 := Wd f fl g gl hh v tx) rfl ⟨Nat.le_of_ble_eq_true rfl, Nat.le_of_ble_eq_true rfl⟩ rfl ?_
    exact h3

set_option maxRecDepth 20000 in
theorem b_m_runs_31 (X : mm_X) (d : Nat) (f : Nat → Int32) (fl : Nat → Int64) (g : Nat → Nat → Int32) (gl : Nat → Nat → Int64) (hh : Nat → Nat → Option Nat) (v : Nat → Value) (tx : mm_W) (l1 : Int32) (l2 : Int32) (l3 : Int32) (l4 : Int32)  (P : Option Value → mm_W → Prop)
    (h : ((¬ (f 4783) = 0) → ((((f 4782) = 0) → P (some (.int 0)) (Wd f fl g gl hh v tx)) ∧
      ((¬ (f 4782) = 0) → WP X (d) 248 (0, [some (.ref 74), none], [], Wd f fl g gl hh v tx) (fun rv w2 => WP X (d + 1) 249 (52, [some (.ref 74), some (.int l1), some (.int l2), some (.int l3), some (.int l4)], rv.toList ++ [], w2) P)))) ∧
    (((f 4783) = 0) → WP X (d + 1) 249 (19, [some (.ref 74), some (.int l1), some (.int l2), some (.int l3), some (.int (l4 + (1 : Int32)))], [], Wd f fl g gl hh v tx) P)) :
    WP X (d + 1) 249 (31, [some (.ref 74), some (.int l1), some (.int l2), some (.int l3), some (.int l4)], [], Wd f fl g gl hh v tx) P := by
  refine WP.run hP_249 2 (c' := (35, [some (.ref 74), some (.int l1), some (.int l2), some (.int l3), some (.int l4)], [.int (f 4783)], Wd f fl g gl hh v tx)) rfl ?_
  refine WP.br hP_249 (q := ¬ (f 4783) = 0) (t := 41) (f := 38) (L := [some (.ref 74), some (.int l1), some (.int l2), some (.int l3), some (.int l4)]) (st := []) (w := Wd f fl g gl hh v tx) rfl (fun c1 => ?_) (fun c1 => ?_)
  · have h2 := h.1 c1
    refine WP.run hP_249 2 (c' := (45, [some (.ref 74), some (.int l1), some (.int l2), some (.int l3), some (.int l4)], [.int (f 4782)], Wd f fl g gl hh v tx)) rfl ?_
    refine WP.br hP_249 (q := (f 4782) = 0) (t := 55) (f := 48) (L := [some (.ref 74), some (.int l1), some (.int l2), some (.int l3), some (.int l4)]) (st := []) (w := Wd f fl g gl hh v tx) rfl (fun c3 => ?_) (fun c3 => ?_)
    · have h4 := h2.1 c3
      refine WP.run hP_249 1 (c' := (56, [none, none, none, none, none], [.int 0], Wd f fl g gl hh v tx)) rfl ?_
      exact WP.ret hP_249 (r := some (.int 0)) (w' := Wd f fl g gl hh v tx) rfl h4
    · have h5 := h2.2 c3
      refine WP.run hP_249 1 (c' := (49, [some (.ref 74), some (.int l1), some (.int l2), some (.int l3), some (.int l4)], [.ref 74], Wd f fl g gl hh v tx)) rfl ?_
      refine WP.call hP_249 hP_248 (as := [.ref 74]) (pc' := 52) (L' := [some (.ref 74), some (.int l1), some (.int l2), some (.int l3), some (.int l4)]) (st' := []) (w1 := Wd f fl g gl hh v tx) rfl ⟨Nat.le_of_ble_eq_true rfl, Nat.le_of_ble_eq_true rfl⟩ rfl ?_
      exact h5
  · have h6 := h.2 (Classical.not_not.mp c1)
    refine WP.run hP_249 3 (c' := (19, [some (.ref 74), some (.int l1), some (.int l2), some (.int l3), some (.int (l4 + (1 : Int32)))], [], Wd f fl g gl hh v tx)) rfl ?_
    exact h6

set_option maxRecDepth 20000 in
theorem b_m_runs_52 (X : mm_X) (d : Nat) (f : Nat → Int32) (fl : Nat → Int64) (g : Nat → Nat → Int32) (gl : Nat → Nat → Int64) (hh : Nat → Nat → Option Nat) (v : Nat → Value) (tx : mm_W) (l1 : Int32) (l2 : Int32) (l3 : Int32) (l4 : Int32) (s0 : Int32)  (P : Option Value → mm_W → Prop)
    (h : ((0 ≤ s0) → WP X (d) 249 (19, [some (.ref 74), some (.int l1), some (.int l2), some (.int l3), some (.int (l4 + (1 : Int32)))], [], Wd (va_up f 4763 ((f 4763) + (1 : Int32))) fl g gl hh v tx) P) ∧
    ((¬ (0 ≤ s0)) → P (some (.int 0)) (Wd f fl g gl hh v tx))) :
    WP X (d) 249 (52, [some (.ref 74), some (.int l1), some (.int l2), some (.int l3), some (.int l4)], [.int s0], Wd f fl g gl hh v tx) P := by
  refine WP.br hP_249 (q := 0 ≤ s0) (t := 57) (f := 55) (L := [some (.ref 74), some (.int l1), some (.int l2), some (.int l3), some (.int l4)]) (st := []) (w := Wd f fl g gl hh v tx) rfl (fun c1 => ?_) (fun c1 => ?_)
  · have h2 := h.1 c1
    refine WP.run hP_249 8 (c' := (19, [some (.ref 74), some (.int l1), some (.int l2), some (.int l3), some (.int (l4 + (1 : Int32)))], [], Wd (va_up f 4763 ((f 4763) + (1 : Int32))) fl g gl hh v tx)) rfl ?_
    exact h2
  · have h3 := h.2 c1
    refine WP.run hP_249 1 (c' := (56, [none, none, none, none, none], [.int 0], Wd f fl g gl hh v tx)) rfl ?_
    exact WP.ret hP_249 (r := some (.int 0)) (w' := Wd f fl g gl hh v tx) rfl h3

set_option maxRecDepth 20000 in
theorem b_m_orders_0 (X : mm_X) (d : Nat) (f : Nat → Int32) (fl : Nat → Int64) (g : Nat → Nat → Int32) (gl : Nat → Nat → Int64) (hh : Nat → Nat → Option Nat) (v : Nat → Value) (tx : mm_W)   (P : Option Value → mm_W → Prop)
    (h : WP X (d) 172 (0, [some (.ref 74), some (.int 1)], [], Wd (va_up f 4778 (-1)) fl g gl hh v tx) (fun rv w2 => WP X (d + 1) 245 (10, [some (.ref 74), none, none, none, none], rv.toList ++ [], w2) P)) :
    WP X (d + 1) 245 (0, [some (.ref 74), none, none, none, none], [], Wd f fl g gl hh v tx) P := by
  refine WP.run hP_245 5 (c' := (7, [some (.ref 74), none, none, none, none], [.int 1, .ref 74], Wd (va_up f 4778 (-1)) fl g gl hh v tx)) rfl ?_
  refine WP.call hP_245 hP_172 (as := [.ref 74, .int 1]) (pc' := 10) (L' := [some (.ref 74), none, none, none, none]) (st' := []) (w1 := Wd (va_up f 4778 (-1)) fl g gl hh v tx) rfl ⟨Nat.le_of_ble_eq_true rfl, Nat.le_of_ble_eq_true rfl⟩ rfl ?_
  exact h

set_option maxRecDepth 20000 in
theorem b_m_orders_10 (X : mm_X) (d : Nat) (f : Nat → Int32) (fl : Nat → Int64) (g : Nat → Nat → Int32) (gl : Nat → Nat → Int64) (hh : Nat → Nat → Option Nat) (v : Nat → Value) (tx : mm_W) (s0 : Int32)  (P : Option Value → mm_W → Prop)
    (h : ((¬ s0 = 0) → WP X (d) 125 (0, [some (.ref 74), some (.int 1), none], [], Wd f fl g gl hh v tx) (fun rv w2 => WP X (d + 1) 245 (25, [some (.ref 74), none, none, none, none], rv.toList ++ [], w2) P)) ∧
    ((s0 = 0) → P (some (.int (-6))) (Wd (va_up f 4736 (-6 : Int32)) fl (va_up g 75 (upd (g 75) (6) (((g 75) 6) + (1 : Int32)))) gl hh v tx))) :
    WP X (d + 1) 245 (10, [some (.ref 74), none, none, none, none], [.int s0], Wd f fl g gl hh v tx) P := by
  refine WP.br hP_245 (q := ¬ s0 = 0) (t := 20) (f := 13) (L := [some (.ref 74), none, none, none, none]) (st := []) (w := Wd f fl g gl hh v tx) rfl (fun c1 => ?_) (fun c1 => ?_)
  · have h2 := h.1 c1
    refine WP.run hP_245 2 (c' := (22, [some (.ref 74), none, none, none, none], [.int 1, .ref 74], Wd f fl g gl hh v tx)) rfl ?_
    refine WP.call hP_245 hP_125 (as := [.ref 74, .int 1]) (pc' := 25) (L' := [some (.ref 74), none, none, none, none]) (st' := []) (w1 := Wd f fl g gl hh v tx) rfl ⟨Nat.le_of_ble_eq_true rfl, Nat.le_of_ble_eq_true rfl⟩ rfl ?_
    exact h2
  · have h3 := h.2 (Classical.not_not.mp c1)
    refine WP.run hP_245 2 (c' := (16, [some (.ref 74), none, none, none, none], [.int (-6), .ref 74], Wd f fl g gl hh v tx)) rfl ?_
    refine WP.call hP_245 hP_119 (as := [.ref 74, .int (-6)]) (pc' := 19) (L' := [some (.ref 74), none, none, none, none]) (st' := []) (w1 := Wd f fl g gl hh v tx) rfl ⟨Nat.le_of_ble_eq_true rfl, Nat.le_of_ble_eq_true rfl⟩ rfl (b_m_refuses_0 X (d) f fl g gl hh v tx (-6) _ ?_)
    refine ⟨by decide, ?_⟩
    refine ⟨by decide, ?_⟩
    exact WP.retI hP_245 rfl rfl h3

set_option maxRecDepth 20000 in
theorem b_m_orders_25 (X : mm_X) (d : Nat) (f : Nat → Int32) (fl : Nat → Int64) (g : Nat → Nat → Int32) (gl : Nat → Nat → Int64) (hh : Nat → Nat → Option Nat) (v : Nat → Value) (tx : mm_W)   (P : Option Value → mm_W → Prop)
    (h : WP X (d) 245 (27, [some (.ref 74), some (.int 0), none, none, none], [], Wd f fl g gl hh v tx) P) :
    WP X (d) 245 (25, [some (.ref 74), none, none, none, none], [], Wd f fl g gl hh v tx) P := by
  refine WP.run hP_245 2 (c' := (27, [some (.ref 74), some (.int 0), none, none, none], [], Wd f fl g gl hh v tx)) rfl ?_
  exact h

set_option maxRecDepth 20000 in
theorem b_m_orders_27 (X : mm_X) (d : Nat) (f : Nat → Int32) (fl : Nat → Int64) (g : Nat → Nat → Int32) (gl : Nat → Nat → Int64) (hh : Nat → Nat → Option Nat) (v : Nat → Value) (tx : mm_W) (l1 : Int32)  (P : Option Value → mm_W → Prop)
    (h : ((384 ≤ l1) → WP X (d) 173 (0, [some (.ref 74), some (.int 6), none], [], Wd f fl g gl hh v tx) (fun rv w2 => WP X (d + 1) 245 (63, [some (.ref 74), some (.int (f 4777)), none, none, none], rv.toList ++ [], w2) P)) ∧
    ((¬ (384 ≤ l1)) → ((¬ (l1 < 0 ∨ 384 ≤ l1.toNatClampNeg)) ∧ ((¬ (l1 < 0 ∨ 384 ≤ l1.toNatClampNeg)) ∧ WP X (d + 1) 245 (27, [some (.ref 74), some (.int (l1 + (1 : Int32))), none, none, none], [], Wd f fl (va_up g 98 (upd (g 98) (l1.toNatClampNeg) ((g 97) l1.toNatClampNeg))) gl hh v tx) P)))) :
    WP X (d + 1) 245 (27, [some (.ref 74), some (.int l1), none, none, none], [], Wd f fl g gl hh v tx) P := by
  refine WP.run hP_245 2 (c' := (31, [some (.ref 74), some (.int l1), none, none, none], [.int 384, .int l1], Wd f fl g gl hh v tx)) rfl ?_
  refine WP.br hP_245 (q := 384 ≤ l1) (t := 52) (f := 34) (L := [some (.ref 74), some (.int l1), none, none, none]) (st := []) (w := Wd f fl g gl hh v tx) rfl (fun c1 => ?_) (fun c1 => ?_)
  · have h2 := h.1 c1
    refine WP.run hP_245 2 (c' := (56, [some (.ref 74), none, none, none, none], [.int (f 4777)], Wd f fl g gl hh v tx)) rfl ?_
    refine WP.run hP_245 3 (c' := (60, [some (.ref 74), some (.int (f 4777)), none, none, none], [.int 6, .ref 74], Wd f fl g gl hh v tx)) rfl ?_
    refine WP.call hP_245 hP_173 (as := [.ref 74, .int 6]) (pc' := 63) (L' := [some (.ref 74), some (.int (f 4777)), none, none, none]) (st' := []) (w1 := Wd f fl g gl hh v tx) rfl ⟨Nat.le_of_ble_eq_true rfl, Nat.le_of_ble_eq_true rfl⟩ rfl ?_
    exact h2
  · have h3 := h.2 c1
    refine WP.run hP_245 6 (c' := (44, [some (.ref 74), some (.int l1), none, none, none], [.int l1, .ref 97, .int l1, .ref 98], Wd f fl g gl hh v tx)) rfl ?_
    refine WP.of (fun _ _ => Ex.iald hP_245 rfl (Wa_97 _ _ _ _ _ _ _) h3.1) ?_
    have h4 := h3.2
    refine WP.of (fun _ _ => Ex.iast hP_245 (w2 := Wd f fl (va_up g 98 (upd (g 98) (l1.toNatClampNeg) ((g 97) l1.toNatClampNeg))) gl hh v tx) rfl (Wa_98 _ _ _ _ _ _ _) h4.1 (Ws_98 _ _ _ _ _ _ _ _)) ?_
    have h5 := h4.2
    refine WP.run hP_245 2 (c' := (27, [some (.ref 74), some (.int (l1 + (1 : Int32))), none, none, none], [], Wd f fl (va_up g 98 (upd (g 98) (l1.toNatClampNeg) ((g 97) l1.toNatClampNeg))) gl hh v tx)) rfl ?_
    exact h5

set_option maxRecDepth 20000 in
theorem b_m_orders_63 (X : mm_X) (d : Nat) (f : Nat → Int32) (fl : Nat → Int64) (g : Nat → Nat → Int32) (gl : Nat → Nat → Int64) (hh : Nat → Nat → Option Nat) (v : Nat → Value) (tx : mm_W) (l1 : Int32)  (P : Option Value → mm_W → Prop)
    (h : WP X (d) 245 (95, [some (.ref 74), some (.int l1), some (.int ((2400 : Int32) + ((g 76) 66))), some (.int 0), none], [], Wd (va_up (va_up (va_up f 4763 0) 4764 (-1)) 4779 2400) fl g gl hh v tx) P) :
    WP X (d) 245 (63, [some (.ref 74), some (.int l1), none, none, none], [], Wd f fl g gl hh v tx) P := by
  refine WP.run hP_245 14 (c' := (90, [some (.ref 74), some (.int l1), none, none, none], [.int 66, .ref 76, .int 2400], Wd (va_up (va_up (va_up f 4763 0) 4764 (-1)) 4779 2400) fl g gl hh v tx)) rfl ?_
  refine WP.of (fun _ _ => Ex.iald hP_245 rfl (Wa_76 _ _ _ _ _ _ _) (by decide)) ?_
  show WP X _ 245 (91, [some (.ref 74), some (.int l1), none, none, none], [.int ((g 76) 66), .int 2400], Wd (va_up (va_up (va_up f 4763 0) 4764 (-1)) 4779 2400) fl g gl hh v tx) P
  refine WP.run hP_245 3 (c' := (94, [some (.ref 74), some (.int l1), some (.int ((2400 : Int32) + ((g 76) 66))), none, none], [.int 0], Wd (va_up (va_up (va_up f 4763 0) 4764 (-1)) 4779 2400) fl g gl hh v tx)) rfl ?_
  refine WP.run hP_245 1 (c' := (95, [some (.ref 74), some (.int l1), some (.int ((2400 : Int32) + ((g 76) 66))), some (.int 0), none], [], Wd (va_up (va_up (va_up f 4763 0) 4764 (-1)) 4779 2400) fl g gl hh v tx)) rfl ?_
  exact h

set_option maxRecDepth 20000 in
theorem b_m_orders_95 (X : mm_X) (d : Nat) (f : Nat → Int32) (fl : Nat → Int64) (g : Nat → Nat → Int32) (gl : Nat → Nat → Int64) (hh : Nat → Nat → Option Nat) (v : Nat → Value) (tx : mm_W) (l1 : Int32) (l2 : Int32) (l3 : Int32)  (P : Option Value → mm_W → Prop)
    (h : ((l2 ≤ (f 4779)) → P (some (.int (f 4763))) (Wd (va_up f 4736 0) fl g gl hh v tx)) ∧
    ((¬ (l2 ≤ (f 4779))) → WP X (d) 249 (0, [some (.ref 74), some (.int l2), none, none, none], [], Wd f fl g gl hh v tx) (fun rv w2 => WP X (d + 1) 245 (108, [some (.ref 74), some (.int l1), some (.int l2), some (.int l3), none], rv.toList ++ [], w2) P))) :
    WP X (d + 1) 245 (95, [some (.ref 74), some (.int l1), some (.int l2), some (.int l3), none], [], Wd f fl g gl hh v tx) P := by
  refine WP.run hP_245 3 (c' := (100, [some (.ref 74), some (.int l1), some (.int l2), some (.int l3), none], [.int l2, .int (f 4779)], Wd f fl g gl hh v tx)) rfl ?_
  refine WP.br hP_245 (q := l2 ≤ (f 4779)) (t := 173) (f := 103) (L := [some (.ref 74), some (.int l1), some (.int l2), some (.int l3), none]) (st := []) (w := Wd f fl g gl hh v tx) rfl (fun c1 => ?_) (fun c1 => ?_)
  · have h2 := h.1 c1
    refine WP.run hP_245 3 (c' := (178, [some (.ref 74), none, none, none, none], [.int (f 4763), .ref 74], Wd f fl g gl hh v tx)) rfl ?_
    refine WP.call hP_245 hP_120 (as := [.ref 74, .int (f 4763)]) (pc' := 181) (L' := [some (.ref 74), none, none, none, none]) (st' := []) (w1 := Wd f fl g gl hh v tx) rfl ⟨Nat.le_of_ble_eq_true rfl, Nat.le_of_ble_eq_true rfl⟩ rfl (b_m_good_0 X (d) f fl g gl hh v tx (f 4763) _ ?_)
    exact WP.retI hP_245 rfl rfl h2
  · have h3 := h.2 c1
    refine WP.run hP_245 2 (c' := (105, [some (.ref 74), some (.int l1), some (.int l2), some (.int l3), none], [.int l2, .ref 74], Wd f fl g gl hh v tx)) rfl ?_
    refine WP.call hP_245 hP_249 (as := [.ref 74, .int l2]) (pc' := 108) (L' := [some (.ref 74), some (.int l1), some (.int l2), some (.int l3), none]) (st' := []) (w1 := Wd f fl g gl hh v tx) rfl ⟨Nat.le_of_ble_eq_true rfl, Nat.le_of_ble_eq_true rfl⟩ rfl ?_
    exact h3

set_option maxRecDepth 20000 in
theorem b_m_orders_108 (X : mm_X) (d : Nat) (f : Nat → Int32) (fl : Nat → Int64) (g : Nat → Nat → Int32) (gl : Nat → Nat → Int64) (hh : Nat → Nat → Option Nat) (v : Nat → Value) (tx : mm_W) (l1 : Int32) (l2 : Int32) (l3 : Int32) (s0 : Int32)  (P : Option Value → mm_W → Prop)
    (h : ((s0 = 0) → WP X (d) 126 (0, [some (.ref 74), some (.int 1), none], [], Wd f fl g gl hh v tx) (fun rv w2 => WP X (d + 1) 245 (119, [some (.ref 74), some (.int l1), none, some (.int l3), none], rv.toList ++ [], w2) P)) ∧
    ((¬ s0 = 0) → WP X (d + 1) 245 (95, [some (.ref 74), some (.int l1), some (.int l2), some (.int (l3 + (1 : Int32))), none], [], Wd f fl g gl hh v tx) P)) :
    WP X (d + 1) 245 (108, [some (.ref 74), some (.int l1), some (.int l2), some (.int l3), none], [.int s0], Wd f fl g gl hh v tx) P := by
  refine WP.br hP_245 (q := s0 = 0) (t := 114) (f := 111) (L := [some (.ref 74), some (.int l1), some (.int l2), some (.int l3), none]) (st := []) (w := Wd f fl g gl hh v tx) rfl (fun c1 => ?_) (fun c1 => ?_)
  · have h2 := h.1 c1
    refine WP.run hP_245 2 (c' := (116, [some (.ref 74), some (.int l1), none, some (.int l3), none], [.int 1, .ref 74], Wd f fl g gl hh v tx)) rfl ?_
    refine WP.call hP_245 hP_126 (as := [.ref 74, .int 1]) (pc' := 119) (L' := [some (.ref 74), some (.int l1), none, some (.int l3), none]) (st' := []) (w1 := Wd f fl g gl hh v tx) rfl ⟨Nat.le_of_ble_eq_true rfl, Nat.le_of_ble_eq_true rfl⟩ rfl ?_
    exact h2
  · have h3 := h.2 c1
    refine WP.run hP_245 3 (c' := (95, [some (.ref 74), some (.int l1), some (.int l2), some (.int (l3 + (1 : Int32))), none], [], Wd f fl g gl hh v tx)) rfl ?_
    exact h3

set_option maxRecDepth 20000 in
theorem b_m_orders_119 (X : mm_X) (d : Nat) (f : Nat → Int32) (fl : Nat → Int64) (g : Nat → Nat → Int32) (gl : Nat → Nat → Int64) (hh : Nat → Nat → Option Nat) (v : Nat → Value) (tx : mm_W) (l1 : Int32) (l3 : Int32)  (P : Option Value → mm_W → Prop)
    (h : WP X (d) 245 (122, [some (.ref 74), some (.int l1), none, some (.int l3), some (.int 0)], [], Wd f fl g gl hh v tx) P) :
    WP X (d) 245 (119, [some (.ref 74), some (.int l1), none, some (.int l3), none], [], Wd f fl g gl hh v tx) P := by
  refine WP.run hP_245 2 (c' := (122, [some (.ref 74), some (.int l1), none, some (.int l3), some (.int 0)], [], Wd f fl g gl hh v tx)) rfl ?_
  exact h

set_option maxRecDepth 20000 in
theorem b_m_orders_122 (X : mm_X) (d : Nat) (f : Nat → Int32) (fl : Nat → Int64) (g : Nat → Nat → Int32) (gl : Nat → Nat → Int64) (hh : Nat → Nat → Option Nat) (v : Nat → Value) (tx : mm_W) (l1 : Int32) (l3 : Int32) (l4 : Int32)  (P : Option Value → mm_W → Prop)
    (h : ((384 ≤ l4) → P (some (.int (-3))) (Wd (va_up (va_up (va_up f 4777 l1) 4778 l3) 4736 (-3 : Int32)) fl (va_up g 75 (upd (g 75) (3) (((g 75) 3) + (1 : Int32)))) gl hh v tx)) ∧
    ((¬ (384 ≤ l4)) → ((¬ (l4 < 0 ∨ 384 ≤ l4.toNatClampNeg)) ∧ ((¬ (l4 < 0 ∨ 384 ≤ l4.toNatClampNeg)) ∧ WP X (d + 1) 245 (122, [some (.ref 74), some (.int l1), none, some (.int l3), some (.int (l4 + (1 : Int32)))], [], Wd f fl (va_up g 97 (upd (g 97) (l4.toNatClampNeg) ((g 98) l4.toNatClampNeg))) gl hh v tx) P)))) :
    WP X (d + 1) 245 (122, [some (.ref 74), some (.int l1), none, some (.int l3), some (.int l4)], [], Wd f fl g gl hh v tx) P := by
  refine WP.run hP_245 2 (c' := (127, [some (.ref 74), some (.int l1), none, some (.int l3), some (.int l4)], [.int 384, .int l4], Wd f fl g gl hh v tx)) rfl ?_
  refine WP.br hP_245 (q := 384 ≤ l4) (t := 150) (f := 130) (L := [some (.ref 74), some (.int l1), none, some (.int l3), some (.int l4)]) (st := []) (w := Wd f fl g gl hh v tx) rfl (fun c1 => ?_) (fun c1 => ?_)
  · have h2 := h.1 c1
    refine WP.run hP_245 8 (c' := (163, [some (.ref 74), some (.int l1), none, some (.int l3), none], [.int (-3), .ref 74], Wd (va_up (va_up f 4777 l1) 4778 l3) fl g gl hh v tx)) rfl ?_
    refine WP.call hP_245 hP_119 (as := [.ref 74, .int (-3)]) (pc' := 166) (L' := [some (.ref 74), some (.int l1), none, some (.int l3), none]) (st' := []) (w1 := Wd (va_up (va_up f 4777 l1) 4778 l3) fl g gl hh v tx) rfl ⟨Nat.le_of_ble_eq_true rfl, Nat.le_of_ble_eq_true rfl⟩ rfl (b_m_refuses_0 X (d) (va_up (va_up f 4777 l1) 4778 l3) fl g gl hh v tx (-3) _ ?_)
    refine ⟨by decide, ?_⟩
    refine ⟨by decide, ?_⟩
    exact WP.retI hP_245 rfl rfl h2
  · have h3 := h.2 c1
    refine WP.run hP_245 6 (c' := (142, [some (.ref 74), some (.int l1), none, some (.int l3), some (.int l4)], [.int l4, .ref 98, .int l4, .ref 97], Wd f fl g gl hh v tx)) rfl ?_
    refine WP.of (fun _ _ => Ex.iald hP_245 rfl (Wa_98 _ _ _ _ _ _ _) h3.1) ?_
    have h4 := h3.2
    refine WP.of (fun _ _ => Ex.iast hP_245 (w2 := Wd f fl (va_up g 97 (upd (g 97) (l4.toNatClampNeg) ((g 98) l4.toNatClampNeg))) gl hh v tx) rfl (Wa_97 _ _ _ _ _ _ _) h4.1 (Ws_97 _ _ _ _ _ _ _ _)) ?_
    have h5 := h4.2
    refine WP.run hP_245 2 (c' := (122, [some (.ref 74), some (.int l1), none, some (.int l3), some (.int (l4 + (1 : Int32)))], [], Wd f fl (va_up g 97 (upd (g 97) (l4.toNatClampNeg) ((g 98) l4.toNatClampNeg))) gl hh v tx)) rfl ?_
    exact h5

set_option maxRecDepth 20000 in
theorem b_m_draws_0 (X : mm_X) (d : Nat) (f : Nat → Int32) (fl : Nat → Int64) (g : Nat → Nat → Int32) (gl : Nat → Nat → Int64) (hh : Nat → Nat → Option Nat) (v : Nat → Value) (tx : mm_W) (p0 : Int32)  (P : Option Value → mm_W → Prop)
    (h : (¬ p0 = 0) ∧ P (some (.int (((((((1103 : Int64) * (((f 4787) : Int32).toInt64)) + (12345 : Int64)) - ((((1103 : Int64) * (((f 4787) : Int32).toInt64)) + (12345 : Int64)) / (1000003 : Int64)) * (1000003 : Int64)) : Int64).toInt32) - (((((((1103 : Int64) * (((f 4787) : Int32).toInt64)) + (12345 : Int64)) - ((((1103 : Int64) * (((f 4787) : Int32).toInt64)) + (12345 : Int64)) / (1000003 : Int64)) * (1000003 : Int64)) : Int64).toInt32) / p0) * p0))) (Wd (va_up f 4787 ((((((1103 : Int64) * (((f 4787) : Int32).toInt64)) + (12345 : Int64)) - ((((1103 : Int64) * (((f 4787) : Int32).toInt64)) + (12345 : Int64)) / (1000003 : Int64)) * (1000003 : Int64)) : Int64).toInt32)) fl g gl hh v tx)) :
    WP X (d) 250 (0, [some (.ref 74), some (.int p0)], [], Wd f fl g gl hh v tx) P := by
  refine WP.run hP_250 15 (c' := (27, [some (.ref 74), some (.int p0)], [.int p0, .int ((((((1103 : Int64) * (((f 4787) : Int32).toInt64)) + (12345 : Int64)) - ((((1103 : Int64) * (((f 4787) : Int32).toInt64)) + (12345 : Int64)) / (1000003 : Int64)) * (1000003 : Int64)) : Int64).toInt32)], Wd (va_up f 4787 ((((((1103 : Int64) * (((f 4787) : Int32).toInt64)) + (12345 : Int64)) - ((((1103 : Int64) * (((f 4787) : Int32).toInt64)) + (12345 : Int64)) / (1000003 : Int64)) * (1000003 : Int64)) : Int64).toInt32)) fl g gl hh v tx)) rfl ?_
  refine WP.of (fun _ _ => Ex.irem hP_250 rfl h.1) ?_
  have h1 := h.2
  exact WP.retI hP_250 rfl rfl h1

set_option maxRecDepth 20000 in
theorem b_m_dayIsDrawn_0 (X : mm_X) (d : Nat) (f : Nat → Int32) (fl : Nat → Int64) (g : Nat → Nat → Int32) (gl : Nat → Nat → Int64) (hh : Nat → Nat → Option Nat) (v : Nat → Value) (tx : mm_W)   (P : Option Value → mm_W → Prop)
    (h : (¬ ((g 76) 56) = 0) ∧ (((12 ≤ ((g 76) 12)) → WP X (d + 2) 251 (32, [some (.ref 74), none, some (.int (((((((1103 : Int64) * ((((((((1103 : Int64) * (((f 4787) : Int32).toInt64)) + (12345 : Int64)) - ((((1103 : Int64) * (((f 4787) : Int32).toInt64)) + (12345 : Int64)) / (1000003 : Int64)) * (1000003 : Int64)) : Int64).toInt32) : Int32).toInt64)) + (12345 : Int64)) - ((((1103 : Int64) * ((((((((1103 : Int64) * (((f 4787) : Int32).toInt64)) + (12345 : Int64)) - ((((1103 : Int64) * (((f 4787) : Int32).toInt64)) + (12345 : Int64)) / (1000003 : Int64)) * (1000003 : Int64)) : Int64).toInt32) : Int32).toInt64)) + (12345 : Int64)) / (1000003 : Int64)) * (1000003 : Int64)) : Int64).toInt32) - (((((((1103 : Int64) * ((((((((1103 : Int64) * (((f 4787) : Int32).toInt64)) + (12345 : Int64)) - ((((1103 : Int64) * (((f 4787) : Int32).toInt64)) + (12345 : Int64)) / (1000003 : Int64)) * (1000003 : Int64)) : Int64).toInt32) : Int32).toInt64)) + (12345 : Int64)) - ((((1103 : Int64) * ((((((((1103 : Int64) * (((f 4787) : Int32).toInt64)) + (12345 : Int64)) - ((((1103 : Int64) * (((f 4787) : Int32).toInt64)) + (12345 : Int64)) / (1000003 : Int64)) * (1000003 : Int64)) : Int64).toInt32) : Int32).toInt64)) + (12345 : Int64)) / (1000003 : Int64)) * (1000003 : Int64)) : Int64).toInt32) / ((g 76) 56)) * ((g 76) 56))), none], [], Wd (va_up f 4787 ((((((1103 : Int64) * ((((((((1103 : Int64) * (((f 4787) : Int32).toInt64)) + (12345 : Int64)) - ((((1103 : Int64) * (((f 4787) : Int32).toInt64)) + (12345 : Int64)) / (1000003 : Int64)) * (1000003 : Int64)) : Int64).toInt32) : Int32).toInt64)) + (12345 : Int64)) - ((((1103 : Int64) * ((((((((1103 : Int64) * (((f 4787) : Int32).toInt64)) + (12345 : Int64)) - ((((1103 : Int64) * (((f 4787) : Int32).toInt64)) + (12345 : Int64)) / (1000003 : Int64)) * (1000003 : Int64)) : Int64).toInt32) : Int32).toInt64)) + (12345 : Int64)) / (1000003 : Int64)) * (1000003 : Int64)) : Int64).toInt32)) fl g gl hh v tx) P) ∧
    ((¬ (12 ≤ ((g 76) 12))) → ((¬ (((0 : Int32) + ((g 76) 12)) < 0 ∨ 5667 ≤ ((0 : Int32) + ((g 76) 12)).toNatClampNeg)) ∧ WP X (d + 2) 251 (32, [some (.ref 74), none, some (.int (((((((1103 : Int64) * ((((((((1103 : Int64) * (((f 4787) : Int32).toInt64)) + (12345 : Int64)) - ((((1103 : Int64) * (((f 4787) : Int32).toInt64)) + (12345 : Int64)) / (1000003 : Int64)) * (1000003 : Int64)) : Int64).toInt32) : Int32).toInt64)) + (12345 : Int64)) - ((((1103 : Int64) * ((((((((1103 : Int64) * (((f 4787) : Int32).toInt64)) + (12345 : Int64)) - ((((1103 : Int64) * (((f 4787) : Int32).toInt64)) + (12345 : Int64)) / (1000003 : Int64)) * (1000003 : Int64)) : Int64).toInt32) : Int32).toInt64)) + (12345 : Int64)) / (1000003 : Int64)) * (1000003 : Int64)) : Int64).toInt32) - (((((((1103 : Int64) * ((((((((1103 : Int64) * (((f 4787) : Int32).toInt64)) + (12345 : Int64)) - ((((1103 : Int64) * (((f 4787) : Int32).toInt64)) + (12345 : Int64)) / (1000003 : Int64)) * (1000003 : Int64)) : Int64).toInt32) : Int32).toInt64)) + (12345 : Int64)) - ((((1103 : Int64) * ((((((((1103 : Int64) * (((f 4787) : Int32).toInt64)) + (12345 : Int64)) - ((((1103 : Int64) * (((f 4787) : Int32).toInt64)) + (12345 : Int64)) / (1000003 : Int64)) * (1000003 : Int64)) : Int64).toInt32) : Int32).toInt64)) + (12345 : Int64)) / (1000003 : Int64)) * (1000003 : Int64)) : Int64).toInt32) / ((g 76) 56)) * ((g 76) 56))), none], [], Wd (va_up f 4787 ((((((1103 : Int64) * ((((((((1103 : Int64) * (((f 4787) : Int32).toInt64)) + (12345 : Int64)) - ((((1103 : Int64) * (((f 4787) : Int32).toInt64)) + (12345 : Int64)) / (1000003 : Int64)) * (1000003 : Int64)) : Int64).toInt32) : Int32).toInt64)) + (12345 : Int64)) - ((((1103 : Int64) * ((((((((1103 : Int64) * (((f 4787) : Int32).toInt64)) + (12345 : Int64)) - ((((1103 : Int64) * (((f 4787) : Int32).toInt64)) + (12345 : Int64)) / (1000003 : Int64)) * (1000003 : Int64)) : Int64).toInt32) : Int32).toInt64)) + (12345 : Int64)) / (1000003 : Int64)) * (1000003 : Int64)) : Int64).toInt32)) fl (va_up (va_up g 76 (upd (g 76) (((0 : Int32) + ((g 76) 12)).toNatClampNeg) (((((((1103 : Int64) * (((f 4787) : Int32).toInt64)) + (12345 : Int64)) - ((((1103 : Int64) * (((f 4787) : Int32).toInt64)) + (12345 : Int64)) / (1000003 : Int64)) * (1000003 : Int64)) : Int64).toInt32) - (((((((1103 : Int64) * (((f 4787) : Int32).toInt64)) + (12345 : Int64)) - ((((1103 : Int64) * (((f 4787) : Int32).toInt64)) + (12345 : Int64)) / (1000003 : Int64)) * (1000003 : Int64)) : Int64).toInt32) / (4 : Int32)) * (4 : Int32)))) 76 (upd (upd (g 76) (((0 : Int32) + ((g 76) 12)).toNatClampNeg) (((((((1103 : Int64) * (((f 4787) : Int32).toInt64)) + (12345 : Int64)) - ((((1103 : Int64) * (((f 4787) : Int32).toInt64)) + (12345 : Int64)) / (1000003 : Int64)) * (1000003 : Int64)) : Int64).toInt32) - (((((((1103 : Int64) * (((f 4787) : Int32).toInt64)) + (12345 : Int64)) - ((((1103 : Int64) * (((f 4787) : Int32).toInt64)) + (12345 : Int64)) / (1000003 : Int64)) * (1000003 : Int64)) : Int64).toInt32) / (4 : Int32)) * (4 : Int32))) 12 (((upd (g 76) (((0 : Int32) + ((g 76) 12)).toNatClampNeg) (((((((1103 : Int64) * (((f 4787) : Int32).toInt64)) + (12345 : Int64)) - ((((1103 : Int64) * (((f 4787) : Int32).toInt64)) + (12345 : Int64)) / (1000003 : Int64)) * (1000003 : Int64)) : Int64).toInt32) - (((((((1103 : Int64) * (((f 4787) : Int32).toInt64)) + (12345 : Int64)) - ((((1103 : Int64) * (((f 4787) : Int32).toInt64)) + (12345 : Int64)) / (1000003 : Int64)) * (1000003 : Int64)) : Int64).toInt32) / (4 : Int32)) * (4 : Int32))) 12) + (1 : Int32)))) gl hh v tx) P)))) :
    WP X (d + 2) 251 (0, [some (.ref 74), none, none, none], [], Wd f fl g gl hh v tx) P := by
  refine WP.run hP_251 2 (c' := (2, [some (.ref 74), none, none, none], [.int 4, .ref 74], Wd f fl g gl hh v tx)) rfl ?_
  refine WP.call hP_251 hP_250 (as := [.ref 74, .int 4]) (pc' := 5) (L' := [some (.ref 74), none, none, none]) (st' := []) (w1 := Wd f fl g gl hh v tx) rfl ⟨Nat.le_of_ble_eq_true rfl, Nat.le_of_ble_eq_true rfl⟩ rfl (b_m_draws_0 X (d + 1) f fl g gl hh v tx 4 _ ?_)
  refine ⟨by decide, ?_⟩
  refine WP.run hP_251 5 (c' := (13, [some (.ref 74), some (.int (((((((1103 : Int64) * (((f 4787) : Int32).toInt64)) + (12345 : Int64)) - ((((1103 : Int64) * (((f 4787) : Int32).toInt64)) + (12345 : Int64)) / (1000003 : Int64)) * (1000003 : Int64)) : Int64).toInt32) - (((((((1103 : Int64) * (((f 4787) : Int32).toInt64)) + (12345 : Int64)) - ((((1103 : Int64) * (((f 4787) : Int32).toInt64)) + (12345 : Int64)) / (1000003 : Int64)) * (1000003 : Int64)) : Int64).toInt32) / (4 : Int32)) * (4 : Int32))), none, none], [.int 56, .ref 76, .ref 74], Wd (va_up f 4787 ((((((1103 : Int64) * (((f 4787) : Int32).toInt64)) + (12345 : Int64)) - ((((1103 : Int64) * (((f 4787) : Int32).toInt64)) + (12345 : Int64)) / (1000003 : Int64)) * (1000003 : Int64)) : Int64).toInt32)) fl g gl hh v tx)) rfl ?_
  refine WP.of (fun _ _ => Ex.iald hP_251 rfl (Wa_76 _ _ _ _ _ _ _) (by decide)) ?_
  show WP X _ 251 (14, [some (.ref 74), some (.int (((((((1103 : Int64) * (((f 4787) : Int32).toInt64)) + (12345 : Int64)) - ((((1103 : Int64) * (((f 4787) : Int32).toInt64)) + (12345 : Int64)) / (1000003 : Int64)) * (1000003 : Int64)) : Int64).toInt32) - (((((((1103 : Int64) * (((f 4787) : Int32).toInt64)) + (12345 : Int64)) - ((((1103 : Int64) * (((f 4787) : Int32).toInt64)) + (12345 : Int64)) / (1000003 : Int64)) * (1000003 : Int64)) : Int64).toInt32) / (4 : Int32)) * (4 : Int32))), none, none], [.int ((g 76) 56), .ref 74], Wd (va_up f 4787 ((((((1103 : Int64) * (((f 4787) : Int32).toInt64)) + (12345 : Int64)) - ((((1103 : Int64) * (((f 4787) : Int32).toInt64)) + (12345 : Int64)) / (1000003 : Int64)) * (1000003 : Int64)) : Int64).toInt32)) fl g gl hh v tx) P
  refine WP.call hP_251 hP_250 (as := [.ref 74, .int ((g 76) 56)]) (pc' := 17) (L' := [some (.ref 74), some (.int (((((((1103 : Int64) * (((f 4787) : Int32).toInt64)) + (12345 : Int64)) - ((((1103 : Int64) * (((f 4787) : Int32).toInt64)) + (12345 : Int64)) / (1000003 : Int64)) * (1000003 : Int64)) : Int64).toInt32) - (((((((1103 : Int64) * (((f 4787) : Int32).toInt64)) + (12345 : Int64)) - ((((1103 : Int64) * (((f 4787) : Int32).toInt64)) + (12345 : Int64)) / (1000003 : Int64)) * (1000003 : Int64)) : Int64).toInt32) / (4 : Int32)) * (4 : Int32))), none, none]) (st' := []) (w1 := Wd (va_up f 4787 ((((((1103 : Int64) * (((f 4787) : Int32).toInt64)) + (12345 : Int64)) - ((((1103 : Int64) * (((f 4787) : Int32).toInt64)) + (12345 : Int64)) / (1000003 : Int64)) * (1000003 : Int64)) : Int64).toInt32)) fl g gl hh v tx) rfl ⟨Nat.le_of_ble_eq_true rfl, Nat.le_of_ble_eq_true rfl⟩ rfl (b_m_draws_0 X (d + 1) (va_up f 4787 ((((((1103 : Int64) * (((f 4787) : Int32).toInt64)) + (12345 : Int64)) - ((((1103 : Int64) * (((f 4787) : Int32).toInt64)) + (12345 : Int64)) / (1000003 : Int64)) * (1000003 : Int64)) : Int64).toInt32)) fl g gl hh v tx ((g 76) 56) _ ?_)
  refine ⟨h.1, ?_⟩
  have h1 := h.2
  refine WP.run hP_251 2 (c' := (19, [some (.ref 74), some (.int (((((((1103 : Int64) * (((f 4787) : Int32).toInt64)) + (12345 : Int64)) - ((((1103 : Int64) * (((f 4787) : Int32).toInt64)) + (12345 : Int64)) / (1000003 : Int64)) * (1000003 : Int64)) : Int64).toInt32) - (((((((1103 : Int64) * (((f 4787) : Int32).toInt64)) + (12345 : Int64)) - ((((1103 : Int64) * (((f 4787) : Int32).toInt64)) + (12345 : Int64)) / (1000003 : Int64)) * (1000003 : Int64)) : Int64).toInt32) / (4 : Int32)) * (4 : Int32))), some (.int (((((((1103 : Int64) * ((((((((1103 : Int64) * (((f 4787) : Int32).toInt64)) + (12345 : Int64)) - ((((1103 : Int64) * (((f 4787) : Int32).toInt64)) + (12345 : Int64)) / (1000003 : Int64)) * (1000003 : Int64)) : Int64).toInt32) : Int32).toInt64)) + (12345 : Int64)) - ((((1103 : Int64) * ((((((((1103 : Int64) * (((f 4787) : Int32).toInt64)) + (12345 : Int64)) - ((((1103 : Int64) * (((f 4787) : Int32).toInt64)) + (12345 : Int64)) / (1000003 : Int64)) * (1000003 : Int64)) : Int64).toInt32) : Int32).toInt64)) + (12345 : Int64)) / (1000003 : Int64)) * (1000003 : Int64)) : Int64).toInt32) - (((((((1103 : Int64) * ((((((((1103 : Int64) * (((f 4787) : Int32).toInt64)) + (12345 : Int64)) - ((((1103 : Int64) * (((f 4787) : Int32).toInt64)) + (12345 : Int64)) / (1000003 : Int64)) * (1000003 : Int64)) : Int64).toInt32) : Int32).toInt64)) + (12345 : Int64)) - ((((1103 : Int64) * ((((((((1103 : Int64) * (((f 4787) : Int32).toInt64)) + (12345 : Int64)) - ((((1103 : Int64) * (((f 4787) : Int32).toInt64)) + (12345 : Int64)) / (1000003 : Int64)) * (1000003 : Int64)) : Int64).toInt32) : Int32).toInt64)) + (12345 : Int64)) / (1000003 : Int64)) * (1000003 : Int64)) : Int64).toInt32) / ((g 76) 56)) * ((g 76) 56))), none], [.ref 74], Wd (va_up f 4787 ((((((1103 : Int64) * ((((((((1103 : Int64) * (((f 4787) : Int32).toInt64)) + (12345 : Int64)) - ((((1103 : Int64) * (((f 4787) : Int32).toInt64)) + (12345 : Int64)) / (1000003 : Int64)) * (1000003 : Int64)) : Int64).toInt32) : Int32).toInt64)) + (12345 : Int64)) - ((((1103 : Int64) * ((((((((1103 : Int64) * (((f 4787) : Int32).toInt64)) + (12345 : Int64)) - ((((1103 : Int64) * (((f 4787) : Int32).toInt64)) + (12345 : Int64)) / (1000003 : Int64)) * (1000003 : Int64)) : Int64).toInt32) : Int32).toInt64)) + (12345 : Int64)) / (1000003 : Int64)) * (1000003 : Int64)) : Int64).toInt32)) fl g gl hh v tx)) rfl ?_
  refine WP.call hP_251 hP_130 (as := [.ref 74]) (pc' := 22) (L' := [some (.ref 74), some (.int (((((((1103 : Int64) * (((f 4787) : Int32).toInt64)) + (12345 : Int64)) - ((((1103 : Int64) * (((f 4787) : Int32).toInt64)) + (12345 : Int64)) / (1000003 : Int64)) * (1000003 : Int64)) : Int64).toInt32) - (((((((1103 : Int64) * (((f 4787) : Int32).toInt64)) + (12345 : Int64)) - ((((1103 : Int64) * (((f 4787) : Int32).toInt64)) + (12345 : Int64)) / (1000003 : Int64)) * (1000003 : Int64)) : Int64).toInt32) / (4 : Int32)) * (4 : Int32))), some (.int (((((((1103 : Int64) * ((((((((1103 : Int64) * (((f 4787) : Int32).toInt64)) + (12345 : Int64)) - ((((1103 : Int64) * (((f 4787) : Int32).toInt64)) + (12345 : Int64)) / (1000003 : Int64)) * (1000003 : Int64)) : Int64).toInt32) : Int32).toInt64)) + (12345 : Int64)) - ((((1103 : Int64) * ((((((((1103 : Int64) * (((f 4787) : Int32).toInt64)) + (12345 : Int64)) - ((((1103 : Int64) * (((f 4787) : Int32).toInt64)) + (12345 : Int64)) / (1000003 : Int64)) * (1000003 : Int64)) : Int64).toInt32) : Int32).toInt64)) + (12345 : Int64)) / (1000003 : Int64)) * (1000003 : Int64)) : Int64).toInt32) - (((((((1103 : Int64) * ((((((((1103 : Int64) * (((f 4787) : Int32).toInt64)) + (12345 : Int64)) - ((((1103 : Int64) * (((f 4787) : Int32).toInt64)) + (12345 : Int64)) / (1000003 : Int64)) * (1000003 : Int64)) : Int64).toInt32) : Int32).toInt64)) + (12345 : Int64)) - ((((1103 : Int64) * ((((((((1103 : Int64) * (((f 4787) : Int32).toInt64)) + (12345 : Int64)) - ((((1103 : Int64) * (((f 4787) : Int32).toInt64)) + (12345 : Int64)) / (1000003 : Int64)) * (1000003 : Int64)) : Int64).toInt32) : Int32).toInt64)) + (12345 : Int64)) / (1000003 : Int64)) * (1000003 : Int64)) : Int64).toInt32) / ((g 76) 56)) * ((g 76) 56))), none]) (st' := []) (w1 := Wd (va_up f 4787 ((((((1103 : Int64) * ((((((((1103 : Int64) * (((f 4787) : Int32).toInt64)) + (12345 : Int64)) - ((((1103 : Int64) * (((f 4787) : Int32).toInt64)) + (12345 : Int64)) / (1000003 : Int64)) * (1000003 : Int64)) : Int64).toInt32) : Int32).toInt64)) + (12345 : Int64)) - ((((1103 : Int64) * ((((((((1103 : Int64) * (((f 4787) : Int32).toInt64)) + (12345 : Int64)) - ((((1103 : Int64) * (((f 4787) : Int32).toInt64)) + (12345 : Int64)) / (1000003 : Int64)) * (1000003 : Int64)) : Int64).toInt32) : Int32).toInt64)) + (12345 : Int64)) / (1000003 : Int64)) * (1000003 : Int64)) : Int64).toInt32)) fl g gl hh v tx) rfl ⟨Nat.le_of_ble_eq_true rfl, Nat.le_of_ble_eq_true rfl⟩ rfl (b_m_size_0 X (d + 1) (va_up f 4787 ((((((1103 : Int64) * ((((((((1103 : Int64) * (((f 4787) : Int32).toInt64)) + (12345 : Int64)) - ((((1103 : Int64) * (((f 4787) : Int32).toInt64)) + (12345 : Int64)) / (1000003 : Int64)) * (1000003 : Int64)) : Int64).toInt32) : Int32).toInt64)) + (12345 : Int64)) - ((((1103 : Int64) * ((((((((1103 : Int64) * (((f 4787) : Int32).toInt64)) + (12345 : Int64)) - ((((1103 : Int64) * (((f 4787) : Int32).toInt64)) + (12345 : Int64)) / (1000003 : Int64)) * (1000003 : Int64)) : Int64).toInt32) : Int32).toInt64)) + (12345 : Int64)) / (1000003 : Int64)) * (1000003 : Int64)) : Int64).toInt32)) fl g gl hh v tx  _ ?_)
  refine WP.run hP_251 1 (c' := (24, [some (.ref 74), some (.int (((((((1103 : Int64) * (((f 4787) : Int32).toInt64)) + (12345 : Int64)) - ((((1103 : Int64) * (((f 4787) : Int32).toInt64)) + (12345 : Int64)) / (1000003 : Int64)) * (1000003 : Int64)) : Int64).toInt32) - (((((((1103 : Int64) * (((f 4787) : Int32).toInt64)) + (12345 : Int64)) - ((((1103 : Int64) * (((f 4787) : Int32).toInt64)) + (12345 : Int64)) / (1000003 : Int64)) * (1000003 : Int64)) : Int64).toInt32) / (4 : Int32)) * (4 : Int32))), some (.int (((((((1103 : Int64) * ((((((((1103 : Int64) * (((f 4787) : Int32).toInt64)) + (12345 : Int64)) - ((((1103 : Int64) * (((f 4787) : Int32).toInt64)) + (12345 : Int64)) / (1000003 : Int64)) * (1000003 : Int64)) : Int64).toInt32) : Int32).toInt64)) + (12345 : Int64)) - ((((1103 : Int64) * ((((((((1103 : Int64) * (((f 4787) : Int32).toInt64)) + (12345 : Int64)) - ((((1103 : Int64) * (((f 4787) : Int32).toInt64)) + (12345 : Int64)) / (1000003 : Int64)) * (1000003 : Int64)) : Int64).toInt32) : Int32).toInt64)) + (12345 : Int64)) / (1000003 : Int64)) * (1000003 : Int64)) : Int64).toInt32) - (((((((1103 : Int64) * ((((((((1103 : Int64) * (((f 4787) : Int32).toInt64)) + (12345 : Int64)) - ((((1103 : Int64) * (((f 4787) : Int32).toInt64)) + (12345 : Int64)) / (1000003 : Int64)) * (1000003 : Int64)) : Int64).toInt32) : Int32).toInt64)) + (12345 : Int64)) - ((((1103 : Int64) * ((((((((1103 : Int64) * (((f 4787) : Int32).toInt64)) + (12345 : Int64)) - ((((1103 : Int64) * (((f 4787) : Int32).toInt64)) + (12345 : Int64)) / (1000003 : Int64)) * (1000003 : Int64)) : Int64).toInt32) : Int32).toInt64)) + (12345 : Int64)) / (1000003 : Int64)) * (1000003 : Int64)) : Int64).toInt32) / ((g 76) 56)) * ((g 76) 56))), none], [.int 12, .int ((g 76) 12)], Wd (va_up f 4787 ((((((1103 : Int64) * ((((((((1103 : Int64) * (((f 4787) : Int32).toInt64)) + (12345 : Int64)) - ((((1103 : Int64) * (((f 4787) : Int32).toInt64)) + (12345 : Int64)) / (1000003 : Int64)) * (1000003 : Int64)) : Int64).toInt32) : Int32).toInt64)) + (12345 : Int64)) - ((((1103 : Int64) * ((((((((1103 : Int64) * (((f 4787) : Int32).toInt64)) + (12345 : Int64)) - ((((1103 : Int64) * (((f 4787) : Int32).toInt64)) + (12345 : Int64)) / (1000003 : Int64)) * (1000003 : Int64)) : Int64).toInt32) : Int32).toInt64)) + (12345 : Int64)) / (1000003 : Int64)) * (1000003 : Int64)) : Int64).toInt32)) fl g gl hh v tx)) rfl ?_
  refine WP.br hP_251 (q := 12 ≤ ((g 76) 12)) (t := 32) (f := 27) (L := [some (.ref 74), some (.int (((((((1103 : Int64) * (((f 4787) : Int32).toInt64)) + (12345 : Int64)) - ((((1103 : Int64) * (((f 4787) : Int32).toInt64)) + (12345 : Int64)) / (1000003 : Int64)) * (1000003 : Int64)) : Int64).toInt32) - (((((((1103 : Int64) * (((f 4787) : Int32).toInt64)) + (12345 : Int64)) - ((((1103 : Int64) * (((f 4787) : Int32).toInt64)) + (12345 : Int64)) / (1000003 : Int64)) * (1000003 : Int64)) : Int64).toInt32) / (4 : Int32)) * (4 : Int32))), some (.int (((((((1103 : Int64) * ((((((((1103 : Int64) * (((f 4787) : Int32).toInt64)) + (12345 : Int64)) - ((((1103 : Int64) * (((f 4787) : Int32).toInt64)) + (12345 : Int64)) / (1000003 : Int64)) * (1000003 : Int64)) : Int64).toInt32) : Int32).toInt64)) + (12345 : Int64)) - ((((1103 : Int64) * ((((((((1103 : Int64) * (((f 4787) : Int32).toInt64)) + (12345 : Int64)) - ((((1103 : Int64) * (((f 4787) : Int32).toInt64)) + (12345 : Int64)) / (1000003 : Int64)) * (1000003 : Int64)) : Int64).toInt32) : Int32).toInt64)) + (12345 : Int64)) / (1000003 : Int64)) * (1000003 : Int64)) : Int64).toInt32) - (((((((1103 : Int64) * ((((((((1103 : Int64) * (((f 4787) : Int32).toInt64)) + (12345 : Int64)) - ((((1103 : Int64) * (((f 4787) : Int32).toInt64)) + (12345 : Int64)) / (1000003 : Int64)) * (1000003 : Int64)) : Int64).toInt32) : Int32).toInt64)) + (12345 : Int64)) - ((((1103 : Int64) * ((((((((1103 : Int64) * (((f 4787) : Int32).toInt64)) + (12345 : Int64)) - ((((1103 : Int64) * (((f 4787) : Int32).toInt64)) + (12345 : Int64)) / (1000003 : Int64)) * (1000003 : Int64)) : Int64).toInt32) : Int32).toInt64)) + (12345 : Int64)) / (1000003 : Int64)) * (1000003 : Int64)) : Int64).toInt32) / ((g 76) 56)) * ((g 76) 56))), none]) (st := []) (w := Wd (va_up f 4787 ((((((1103 : Int64) * ((((((((1103 : Int64) * (((f 4787) : Int32).toInt64)) + (12345 : Int64)) - ((((1103 : Int64) * (((f 4787) : Int32).toInt64)) + (12345 : Int64)) / (1000003 : Int64)) * (1000003 : Int64)) : Int64).toInt32) : Int32).toInt64)) + (12345 : Int64)) - ((((1103 : Int64) * ((((((((1103 : Int64) * (((f 4787) : Int32).toInt64)) + (12345 : Int64)) - ((((1103 : Int64) * (((f 4787) : Int32).toInt64)) + (12345 : Int64)) / (1000003 : Int64)) * (1000003 : Int64)) : Int64).toInt32) : Int32).toInt64)) + (12345 : Int64)) / (1000003 : Int64)) * (1000003 : Int64)) : Int64).toInt32)) fl g gl hh v tx) rfl (fun c2 => ?_) (fun c2 => ?_)
  · have h3 := h1.1 c2
    refine WP.clr hP_251 (pc := 32) rfl ?_
    exact h3
  · have h4 := h1.2 c2
    refine WP.run hP_251 2 (c' := (29, [some (.ref 74), some (.int (((((((1103 : Int64) * (((f 4787) : Int32).toInt64)) + (12345 : Int64)) - ((((1103 : Int64) * (((f 4787) : Int32).toInt64)) + (12345 : Int64)) / (1000003 : Int64)) * (1000003 : Int64)) : Int64).toInt32) - (((((((1103 : Int64) * (((f 4787) : Int32).toInt64)) + (12345 : Int64)) - ((((1103 : Int64) * (((f 4787) : Int32).toInt64)) + (12345 : Int64)) / (1000003 : Int64)) * (1000003 : Int64)) : Int64).toInt32) / (4 : Int32)) * (4 : Int32))), some (.int (((((((1103 : Int64) * ((((((((1103 : Int64) * (((f 4787) : Int32).toInt64)) + (12345 : Int64)) - ((((1103 : Int64) * (((f 4787) : Int32).toInt64)) + (12345 : Int64)) / (1000003 : Int64)) * (1000003 : Int64)) : Int64).toInt32) : Int32).toInt64)) + (12345 : Int64)) - ((((1103 : Int64) * ((((((((1103 : Int64) * (((f 4787) : Int32).toInt64)) + (12345 : Int64)) - ((((1103 : Int64) * (((f 4787) : Int32).toInt64)) + (12345 : Int64)) / (1000003 : Int64)) * (1000003 : Int64)) : Int64).toInt32) : Int32).toInt64)) + (12345 : Int64)) / (1000003 : Int64)) * (1000003 : Int64)) : Int64).toInt32) - (((((((1103 : Int64) * ((((((((1103 : Int64) * (((f 4787) : Int32).toInt64)) + (12345 : Int64)) - ((((1103 : Int64) * (((f 4787) : Int32).toInt64)) + (12345 : Int64)) / (1000003 : Int64)) * (1000003 : Int64)) : Int64).toInt32) : Int32).toInt64)) + (12345 : Int64)) - ((((1103 : Int64) * ((((((((1103 : Int64) * (((f 4787) : Int32).toInt64)) + (12345 : Int64)) - ((((1103 : Int64) * (((f 4787) : Int32).toInt64)) + (12345 : Int64)) / (1000003 : Int64)) * (1000003 : Int64)) : Int64).toInt32) : Int32).toInt64)) + (12345 : Int64)) / (1000003 : Int64)) * (1000003 : Int64)) : Int64).toInt32) / ((g 76) 56)) * ((g 76) 56))), none], [.int (((((((1103 : Int64) * (((f 4787) : Int32).toInt64)) + (12345 : Int64)) - ((((1103 : Int64) * (((f 4787) : Int32).toInt64)) + (12345 : Int64)) / (1000003 : Int64)) * (1000003 : Int64)) : Int64).toInt32) - (((((((1103 : Int64) * (((f 4787) : Int32).toInt64)) + (12345 : Int64)) - ((((1103 : Int64) * (((f 4787) : Int32).toInt64)) + (12345 : Int64)) / (1000003 : Int64)) * (1000003 : Int64)) : Int64).toInt32) / (4 : Int32)) * (4 : Int32)), .ref 74], Wd (va_up f 4787 ((((((1103 : Int64) * ((((((((1103 : Int64) * (((f 4787) : Int32).toInt64)) + (12345 : Int64)) - ((((1103 : Int64) * (((f 4787) : Int32).toInt64)) + (12345 : Int64)) / (1000003 : Int64)) * (1000003 : Int64)) : Int64).toInt32) : Int32).toInt64)) + (12345 : Int64)) - ((((1103 : Int64) * ((((((((1103 : Int64) * (((f 4787) : Int32).toInt64)) + (12345 : Int64)) - ((((1103 : Int64) * (((f 4787) : Int32).toInt64)) + (12345 : Int64)) / (1000003 : Int64)) * (1000003 : Int64)) : Int64).toInt32) : Int32).toInt64)) + (12345 : Int64)) / (1000003 : Int64)) * (1000003 : Int64)) : Int64).toInt32)) fl g gl hh v tx)) rfl ?_
    refine WP.call hP_251 hP_235 (as := [.ref 74, .int (((((((1103 : Int64) * (((f 4787) : Int32).toInt64)) + (12345 : Int64)) - ((((1103 : Int64) * (((f 4787) : Int32).toInt64)) + (12345 : Int64)) / (1000003 : Int64)) * (1000003 : Int64)) : Int64).toInt32) - (((((((1103 : Int64) * (((f 4787) : Int32).toInt64)) + (12345 : Int64)) - ((((1103 : Int64) * (((f 4787) : Int32).toInt64)) + (12345 : Int64)) / (1000003 : Int64)) * (1000003 : Int64)) : Int64).toInt32) / (4 : Int32)) * (4 : Int32))]) (pc' := 32) (L' := [some (.ref 74), some (.int (((((((1103 : Int64) * (((f 4787) : Int32).toInt64)) + (12345 : Int64)) - ((((1103 : Int64) * (((f 4787) : Int32).toInt64)) + (12345 : Int64)) / (1000003 : Int64)) * (1000003 : Int64)) : Int64).toInt32) - (((((((1103 : Int64) * (((f 4787) : Int32).toInt64)) + (12345 : Int64)) - ((((1103 : Int64) * (((f 4787) : Int32).toInt64)) + (12345 : Int64)) / (1000003 : Int64)) * (1000003 : Int64)) : Int64).toInt32) / (4 : Int32)) * (4 : Int32))), some (.int (((((((1103 : Int64) * ((((((((1103 : Int64) * (((f 4787) : Int32).toInt64)) + (12345 : Int64)) - ((((1103 : Int64) * (((f 4787) : Int32).toInt64)) + (12345 : Int64)) / (1000003 : Int64)) * (1000003 : Int64)) : Int64).toInt32) : Int32).toInt64)) + (12345 : Int64)) - ((((1103 : Int64) * ((((((((1103 : Int64) * (((f 4787) : Int32).toInt64)) + (12345 : Int64)) - ((((1103 : Int64) * (((f 4787) : Int32).toInt64)) + (12345 : Int64)) / (1000003 : Int64)) * (1000003 : Int64)) : Int64).toInt32) : Int32).toInt64)) + (12345 : Int64)) / (1000003 : Int64)) * (1000003 : Int64)) : Int64).toInt32) - (((((((1103 : Int64) * ((((((((1103 : Int64) * (((f 4787) : Int32).toInt64)) + (12345 : Int64)) - ((((1103 : Int64) * (((f 4787) : Int32).toInt64)) + (12345 : Int64)) / (1000003 : Int64)) * (1000003 : Int64)) : Int64).toInt32) : Int32).toInt64)) + (12345 : Int64)) - ((((1103 : Int64) * ((((((((1103 : Int64) * (((f 4787) : Int32).toInt64)) + (12345 : Int64)) - ((((1103 : Int64) * (((f 4787) : Int32).toInt64)) + (12345 : Int64)) / (1000003 : Int64)) * (1000003 : Int64)) : Int64).toInt32) : Int32).toInt64)) + (12345 : Int64)) / (1000003 : Int64)) * (1000003 : Int64)) : Int64).toInt32) / ((g 76) 56)) * ((g 76) 56))), none]) (st' := []) (w1 := Wd (va_up f 4787 ((((((1103 : Int64) * ((((((((1103 : Int64) * (((f 4787) : Int32).toInt64)) + (12345 : Int64)) - ((((1103 : Int64) * (((f 4787) : Int32).toInt64)) + (12345 : Int64)) / (1000003 : Int64)) * (1000003 : Int64)) : Int64).toInt32) : Int32).toInt64)) + (12345 : Int64)) - ((((1103 : Int64) * ((((((((1103 : Int64) * (((f 4787) : Int32).toInt64)) + (12345 : Int64)) - ((((1103 : Int64) * (((f 4787) : Int32).toInt64)) + (12345 : Int64)) / (1000003 : Int64)) * (1000003 : Int64)) : Int64).toInt32) : Int32).toInt64)) + (12345 : Int64)) / (1000003 : Int64)) * (1000003 : Int64)) : Int64).toInt32)) fl g gl hh v tx) rfl ⟨Nat.le_of_ble_eq_true rfl, Nat.le_of_ble_eq_true rfl⟩ rfl (b_m_hangs_0 X (d) (va_up f 4787 ((((((1103 : Int64) * ((((((((1103 : Int64) * (((f 4787) : Int32).toInt64)) + (12345 : Int64)) - ((((1103 : Int64) * (((f 4787) : Int32).toInt64)) + (12345 : Int64)) / (1000003 : Int64)) * (1000003 : Int64)) : Int64).toInt32) : Int32).toInt64)) + (12345 : Int64)) - ((((1103 : Int64) * ((((((((1103 : Int64) * (((f 4787) : Int32).toInt64)) + (12345 : Int64)) - ((((1103 : Int64) * (((f 4787) : Int32).toInt64)) + (12345 : Int64)) / (1000003 : Int64)) * (1000003 : Int64)) : Int64).toInt32) : Int32).toInt64)) + (12345 : Int64)) / (1000003 : Int64)) * (1000003 : Int64)) : Int64).toInt32)) fl g gl hh v tx (((((((1103 : Int64) * (((f 4787) : Int32).toInt64)) + (12345 : Int64)) - ((((1103 : Int64) * (((f 4787) : Int32).toInt64)) + (12345 : Int64)) / (1000003 : Int64)) * (1000003 : Int64)) : Int64).toInt32) - (((((((1103 : Int64) * (((f 4787) : Int32).toInt64)) + (12345 : Int64)) - ((((1103 : Int64) * (((f 4787) : Int32).toInt64)) + (12345 : Int64)) / (1000003 : Int64)) * (1000003 : Int64)) : Int64).toInt32) / (4 : Int32)) * (4 : Int32)) _ ?_)
    refine ⟨h4.1, ?_⟩
    have h5 := h4.2
    refine WP.clr hP_251 (pc := 32) rfl ?_
    exact h5

set_option maxRecDepth 20000 in
theorem b_m_dayIsDrawn_32 (X : mm_X) (d : Nat) (f : Nat → Int32) (fl : Nat → Int64) (g : Nat → Nat → Int32) (gl : Nat → Nat → Int64) (hh : Nat → Nat → Option Nat) (v : Nat → Value) (tx : mm_W) (l2 : Int32)  (P : Option Value → mm_W → Prop)
    (h : WP X (d) 209 (0, [some (.ref 74), some (.int l2), none, none, none], [], Wd f fl g gl hh v tx) (fun rv w2 => WP X (d + 1) 251 (37, [some (.ref 74), none, some (.int l2), none], rv.toList ++ [], w2) P)) :
    WP X (d + 1) 251 (32, [some (.ref 74), none, some (.int l2), none], [], Wd f fl g gl hh v tx) P := by
  refine WP.run hP_251 2 (c' := (34, [some (.ref 74), none, some (.int l2), none], [.int l2, .ref 74], Wd f fl g gl hh v tx)) rfl ?_
  refine WP.call hP_251 hP_209 (as := [.ref 74, .int l2]) (pc' := 37) (L' := [some (.ref 74), none, some (.int l2), none]) (st' := []) (w1 := Wd f fl g gl hh v tx) rfl ⟨Nat.le_of_ble_eq_true rfl, Nat.le_of_ble_eq_true rfl⟩ rfl ?_
  exact h

set_option maxRecDepth 20000 in
theorem b_m_dayIsDrawn_37 (X : mm_X) (d : Nat) (f : Nat → Int32) (fl : Nat → Int64) (g : Nat → Nat → Int32) (gl : Nat → Nat → Int64) (hh : Nat → Nat → Option Nat) (v : Nat → Value) (tx : mm_W) (l2 : Int32) (s0 : Int32)  (P : Option Value → mm_W → Prop)
    (h : ((s0 = (-1)) → WP X (d + 1) 251 (49, [some (.ref 74), none, none, some (.int s0)], [], Wd f fl g gl hh v tx) P) ∧
    ((¬ s0 = (-1)) → ((¬ (((13 : Int32) + l2) < 0 ∨ 5667 ≤ ((13 : Int32) + l2).toNatClampNeg)) ∧ ((¬ (((16 : Int32) + l2) < 0 ∨ 5667 ≤ ((16 : Int32) + l2).toNatClampNeg)) ∧ ((¬ (((19 : Int32) + l2) < 0 ∨ 5667 ≤ ((19 : Int32) + l2).toNatClampNeg)) ∧ WP X (d + 1) 251 (49, [some (.ref 74), none, none, some (.int s0)], [], Wd f fl (va_up (va_up (va_up g 76 (upd (g 76) (((13 : Int32) + l2).toNatClampNeg) ((s0 / (10 : Int32)) / (4 : Int32)))) 76 (upd (upd (g 76) (((13 : Int32) + l2).toNatClampNeg) ((s0 / (10 : Int32)) / (4 : Int32))) (((16 : Int32) + l2).toNatClampNeg) ((s0 / (10 : Int32)) - ((s0 / (10 : Int32)) / (4 : Int32)) * (4 : Int32)))) 76 (upd (upd (upd (g 76) (((13 : Int32) + l2).toNatClampNeg) ((s0 / (10 : Int32)) / (4 : Int32))) (((16 : Int32) + l2).toNatClampNeg) ((s0 / (10 : Int32)) - ((s0 / (10 : Int32)) / (4 : Int32)) * (4 : Int32))) (((19 : Int32) + l2).toNatClampNeg) (s0 - (s0 / (10 : Int32)) * (10 : Int32)))) gl hh v tx) P))))) :
    WP X (d + 1) 251 (37, [some (.ref 74), none, some (.int l2), none], [.int s0], Wd f fl g gl hh v tx) P := by
  refine WP.run hP_251 3 (c' := (40, [some (.ref 74), none, some (.int l2), some (.int s0)], [.int (-1), .int s0], Wd f fl g gl hh v tx)) rfl ?_
  refine WP.br hP_251 (q := s0 = (-1)) (t := 49) (f := 43) (L := [some (.ref 74), none, some (.int l2), some (.int s0)]) (st := []) (w := Wd f fl g gl hh v tx) rfl (fun c1 => ?_) (fun c1 => ?_)
  · have h2 := h.1 c1
    refine WP.clr hP_251 (pc := 49) rfl ?_
    exact h2
  · have h3 := h.2 c1
    refine WP.run hP_251 3 (c' := (46, [some (.ref 74), none, some (.int l2), some (.int s0)], [.int s0, .int l2, .ref 74], Wd f fl g gl hh v tx)) rfl ?_
    refine WP.call hP_251 hP_210 (as := [.ref 74, .int l2, .int s0]) (pc' := 49) (L' := [some (.ref 74), none, some (.int l2), some (.int s0)]) (st' := []) (w1 := Wd f fl g gl hh v tx) rfl ⟨Nat.le_of_ble_eq_true rfl, Nat.le_of_ble_eq_true rfl⟩ rfl (b_m_movesTo_0 X (d) f fl g gl hh v tx l2 s0 _ ?_)
    refine ⟨h3.1, ?_⟩
    have h4 := h3.2
    refine ⟨h4.1, ?_⟩
    have h5 := h4.2
    refine ⟨h5.1, ?_⟩
    have h6 := h5.2
    refine WP.clr hP_251 (pc := 49) rfl ?_
    exact h6

set_option maxRecDepth 20000 in
theorem b_m_dayIsDrawn_49 (X : mm_X) (d : Nat) (f : Nat → Int32) (fl : Nat → Int64) (g : Nat → Nat → Int32) (gl : Nat → Nat → Int64) (hh : Nat → Nat → Option Nat) (v : Nat → Value) (tx : mm_W) (l3 : Int32)  (P : Option Value → mm_W → Prop)
    (h : ((¬ l3 = (-1)) → WP X (d + 1) 251 (63, [some (.ref 74), none, none, some (.int l3)], [], Wd f fl g gl hh v tx) P) ∧
    ((l3 = (-1)) → (((¬ ((g 76) 12) = 12) → WP X (d + 1) 251 (71, [some (.ref 74), none, none, some (.int l3)], [], Wd f fl g gl hh v tx) P) ∧
      ((((g 76) 12) = 12) → WP X (d + 1) 251 (63, [some (.ref 74), none, none, some (.int l3)], [], Wd f fl g gl hh v tx) P)))) :
    WP X (d + 1) 251 (49, [some (.ref 74), none, none, some (.int l3)], [], Wd f fl g gl hh v tx) P := by
  refine WP.run hP_251 2 (c' := (51, [some (.ref 74), none, none, some (.int l3)], [.int (-1), .int l3], Wd f fl g gl hh v tx)) rfl ?_
  refine WP.br hP_251 (q := ¬ l3 = (-1)) (t := 63) (f := 54) (L := [some (.ref 74), none, none, some (.int l3)]) (st := []) (w := Wd f fl g gl hh v tx) rfl (fun c1 => ?_) (fun c1 => ?_)
  · have h2 := h.1 c1
    exact h2
  · have h3 := h.2 (Classical.not_not.mp c1)
    refine WP.run hP_251 1 (c' := (55, [some (.ref 74), none, none, some (.int l3)], [.ref 74], Wd f fl g gl hh v tx)) rfl ?_
    refine WP.call hP_251 hP_130 (as := [.ref 74]) (pc' := 58) (L' := [some (.ref 74), none, none, some (.int l3)]) (st' := []) (w1 := Wd f fl g gl hh v tx) rfl ⟨Nat.le_of_ble_eq_true rfl, Nat.le_of_ble_eq_true rfl⟩ rfl (b_m_size_0 X (d) f fl g gl hh v tx  _ ?_)
    refine WP.run hP_251 1 (c' := (60, [some (.ref 74), none, none, some (.int l3)], [.int 12, .int ((g 76) 12)], Wd f fl g gl hh v tx)) rfl ?_
    refine WP.br hP_251 (q := ¬ ((g 76) 12) = 12) (t := 71) (f := 63) (L := [some (.ref 74), none, none, some (.int l3)]) (st := []) (w := Wd f fl g gl hh v tx) rfl (fun c4 => ?_) (fun c4 => ?_)
    · have h5 := h3.1 c4
      exact h5
    · have h6 := h3.2 (Classical.not_not.mp c4)
      exact h6

set_option maxRecDepth 20000 in
theorem b_m_dayIsDrawn_63 (X : mm_X) (d : Nat) (f : Nat → Int32) (fl : Nat → Int64) (g : Nat → Nat → Int32) (gl : Nat → Nat → Int64) (hh : Nat → Nat → Option Nat) (v : Nat → Value) (tx : mm_W) (l3 : Int32)  (P : Option Value → mm_W → Prop)
    (h : WP X (d) 251 (71, [some (.ref 74), none, none, some (.int l3)], [], Wd f fl (va_up g 76 (upd (g 76) 12 0)) gl hh v tx) P) :
    WP X (d) 251 (63, [some (.ref 74), none, none, some (.int l3)], [], Wd f fl g gl hh v tx) P := by
  refine WP.run hP_251 4 (c' := (70, [some (.ref 74), none, none, some (.int l3)], [.int 0, .int 12, .ref 76], Wd f fl g gl hh v tx)) rfl ?_
  refine WP.of (fun _ _ => Ex.iast hP_251 (w2 := Wd f fl (va_up g 76 (upd (g 76) 12 0)) gl hh v tx) rfl (Wa_76 _ _ _ _ _ _ _) (by decide) (Ws_76 _ _ _ _ _ _ _ _)) ?_
  exact h

set_option maxRecDepth 20000 in
theorem b_m_dayIsDrawn_71 (X : mm_X) (d : Nat) (f : Nat → Int32) (fl : Nat → Int64) (g : Nat → Nat → Int32) (gl : Nat → Nat → Int64) (hh : Nat → Nat → Option Nat) (v : Nat → Value) (tx : mm_W) (l3 : Int32)  (P : Option Value → mm_W → Prop)
    (h : ((l3 = (-1)) → P (some (.int 0)) (Wd f fl (va_up g 76 (upd (g 76) 22 (((g 76) 22) + (1 : Int32)))) gl hh v tx)) ∧
    ((¬ l3 = (-1)) → P (some (.int 1)) (Wd f fl (va_up g 76 (upd (g 76) 22 (((g 76) 22) + (1 : Int32)))) gl hh v tx))) :
    WP X (d) 251 (71, [some (.ref 74), none, none, some (.int l3)], [], Wd f fl g gl hh v tx) P := by
  refine WP.run hP_251 4 (c' := (78, [some (.ref 74), none, none, some (.int l3)], [.int 22, .ref 76, .int 22, .ref 76], Wd f fl g gl hh v tx)) rfl ?_
  refine WP.of (fun _ _ => Ex.iald hP_251 rfl (Wa_76 _ _ _ _ _ _ _) (by decide)) ?_
  show WP X _ 251 (79, [some (.ref 74), none, none, some (.int l3)], [.int ((g 76) 22), .int 22, .ref 76], Wd f fl g gl hh v tx) P
  refine WP.run hP_251 2 (c' := (81, [some (.ref 74), none, none, some (.int l3)], [.int (((g 76) 22) + (1 : Int32)), .int 22, .ref 76], Wd f fl g gl hh v tx)) rfl ?_
  refine WP.of (fun _ _ => Ex.iast hP_251 (w2 := Wd f fl (va_up g 76 (upd (g 76) 22 (((g 76) 22) + (1 : Int32)))) gl hh v tx) rfl (Wa_76 _ _ _ _ _ _ _) (by decide) (Ws_76 _ _ _ _ _ _ _ _)) ?_
  refine WP.run hP_251 2 (c' := (84, [some (.ref 74), none, none, some (.int l3)], [.int (-1), .int l3], Wd f fl (va_up g 76 (upd (g 76) 22 (((g 76) 22) + (1 : Int32)))) gl hh v tx)) rfl ?_
  refine WP.br hP_251 (q := l3 = (-1)) (t := 91) (f := 87) (L := [some (.ref 74), none, none, some (.int l3)]) (st := []) (w := Wd f fl (va_up g 76 (upd (g 76) 22 (((g 76) 22) + (1 : Int32)))) gl hh v tx) rfl (fun c1 => ?_) (fun c1 => ?_)
  · have h2 := h.1 c1
    refine WP.run hP_251 1 (c' := (92, [none, none, none, none], [.int 0], Wd f fl (va_up g 76 (upd (g 76) 22 (((g 76) 22) + (1 : Int32)))) gl hh v tx)) rfl ?_
    exact WP.ret hP_251 (r := some (.int 0)) (w' := Wd f fl (va_up g 76 (upd (g 76) 22 (((g 76) 22) + (1 : Int32)))) gl hh v tx) rfl h2
  · have h3 := h.2 c1
    refine WP.run hP_251 2 (c' := (92, [some (.ref 74), none, none, some (.int l3)], [.int 1], Wd f fl (va_up g 76 (upd (g 76) 22 (((g 76) 22) + (1 : Int32)))) gl hh v tx)) rfl ?_
    exact WP.ret hP_251 (r := some (.int 1)) (w' := Wd f fl (va_up g 76 (upd (g 76) 22 (((g 76) 22) + (1 : Int32)))) gl hh v tx) rfl h3

set_option maxRecDepth 20000 in
theorem b_m_months_0 (X : mm_X) (d : Nat) (f : Nat → Int32) (fl : Nat → Int64) (g : Nat → Nat → Int32) (gl : Nat → Nat → Int64) (hh : Nat → Nat → Option Nat) (v : Nat → Value) (tx : mm_W) (p0 : Int32) (p1 : Int32)  (P : Option Value → mm_W → Prop)
    (h : (((0 : Int32) ≤ p0 ∧ p0 ≤ (1000000 : Int32)) → ((((1 : Int32) ≤ p1 ∧ p1 ≤ (60 : Int32)) → (((¬ ((g 76) 56) = 0) → WP X (d) 125 (0, [some (.ref 74), some (.int 0), none], [], Wd (va_up (va_up f 4787 p0) 4786 ((g 76) 56)) fl g gl hh v tx) (fun rv w2 => WP X (d + 1) 252 (64, [some (.ref 74), some (.int p0), some (.int p1), none, none], rv.toList ++ [], w2) P)) ∧
        ((((g 76) 56) = 0) → P (some (.int (-3))) (Wd (va_up f 4736 (-3 : Int32)) fl (va_up g 75 (upd (g 75) (3) (((g 75) 3) + (1 : Int32)))) gl hh v tx)))) ∧
      ((¬ ((1 : Int32) ≤ p1 ∧ p1 ≤ (60 : Int32))) → P (some (.int (-1))) (Wd (va_up f 4736 (-1 : Int32)) fl (va_up g 75 (upd (g 75) (1) (((g 75) 1) + (1 : Int32)))) gl hh v tx)))) ∧
    ((¬ ((0 : Int32) ≤ p0 ∧ p0 ≤ (1000000 : Int32))) → P (some (.int (-1))) (Wd (va_up f 4736 (-1 : Int32)) fl (va_up g 75 (upd (g 75) (1) (((g 75) 1) + (1 : Int32)))) gl hh v tx))) :
    WP X (d + 1) 252 (0, [some (.ref 74), some (.int p0), some (.int p1), none, none], [], Wd f fl g gl hh v tx) P := by
  refine WP.run hP_252 3 (c' := (4, [some (.ref 74), some (.int p0), some (.int p1), none, none], [.int 1000000, .int 0, .int p0], Wd f fl g gl hh v tx)) rfl ?_
  refine WP.call hP_252 hP_116 (as := [.int p0, .int 0, .int 1000000]) (pc' := 7) (L' := [some (.ref 74), some (.int p0), some (.int p1), none, none]) (st' := []) (w1 := Wd f fl g gl hh v tx) rfl ⟨Nat.le_of_ble_eq_true rfl, Nat.le_of_ble_eq_true rfl⟩ rfl (b_lies_m X (d) f fl g gl hh v tx p0 0 1000000 _ ?_)
  refine ⟨fun c1 => ?_, fun c1 => ?_⟩
  · have h2 := h.1 c1
    refine WP.run hP_252 4 (c' := (14, [some (.ref 74), some (.int p0), some (.int p1), none, none], [.int 60, .int 1, .int p1], Wd f fl g gl hh v tx)) rfl ?_
    refine WP.call hP_252 hP_116 (as := [.int p1, .int 1, .int 60]) (pc' := 17) (L' := [some (.ref 74), some (.int p0), some (.int p1), none, none]) (st' := []) (w1 := Wd f fl g gl hh v tx) rfl ⟨Nat.le_of_ble_eq_true rfl, Nat.le_of_ble_eq_true rfl⟩ rfl (b_lies_m X (d) f fl g gl hh v tx p1 1 60 _ ?_)
    refine ⟨fun c3 => ?_, fun c3 => ?_⟩
    · have h4 := h2.1 c3
      refine WP.run hP_252 4 (c' := (32, [some (.ref 74), some (.int p0), some (.int p1), none, none], [.int 56, .ref 76], Wd f fl g gl hh v tx)) rfl ?_
      refine WP.of (fun _ _ => Ex.iald hP_252 rfl (Wa_76 _ _ _ _ _ _ _) (by decide)) ?_
      show WP X _ 252 (33, [some (.ref 74), some (.int p0), some (.int p1), none, none], [.int ((g 76) 56)], Wd f fl g gl hh v tx) P
      refine WP.br hP_252 (q := ¬ ((g 76) 56) = 0) (t := 43) (f := 36) (L := [some (.ref 74), some (.int p0), some (.int p1), none, none]) (st := []) (w := Wd f fl g gl hh v tx) rfl (fun c5 => ?_) (fun c5 => ?_)
      · have h6 := h4.1 c5
        refine WP.run hP_252 7 (c' := (55, [some (.ref 74), some (.int p0), some (.int p1), none, none], [.int 56, .ref 76, .ref 74], Wd (va_up f 4787 p0) fl g gl hh v tx)) rfl ?_
        refine WP.of (fun _ _ => Ex.iald hP_252 rfl (Wa_76 _ _ _ _ _ _ _) (by decide)) ?_
        show WP X _ 252 (56, [some (.ref 74), some (.int p0), some (.int p1), none, none], [.int ((g 76) 56), .ref 74], Wd (va_up f 4787 p0) fl g gl hh v tx) P
        refine WP.run hP_252 3 (c' := (61, [some (.ref 74), some (.int p0), some (.int p1), none, none], [.int 0, .ref 74], Wd (va_up (va_up f 4787 p0) 4786 ((g 76) 56)) fl g gl hh v tx)) rfl ?_
        refine WP.call hP_252 hP_125 (as := [.ref 74, .int 0]) (pc' := 64) (L' := [some (.ref 74), some (.int p0), some (.int p1), none, none]) (st' := []) (w1 := Wd (va_up (va_up f 4787 p0) 4786 ((g 76) 56)) fl g gl hh v tx) rfl ⟨Nat.le_of_ble_eq_true rfl, Nat.le_of_ble_eq_true rfl⟩ rfl ?_
        exact h6
      · have h7 := h4.2 (Classical.not_not.mp c5)
        refine WP.run hP_252 2 (c' := (39, [some (.ref 74), some (.int p0), some (.int p1), none, none], [.int (-3), .ref 74], Wd f fl g gl hh v tx)) rfl ?_
        refine WP.call hP_252 hP_119 (as := [.ref 74, .int (-3)]) (pc' := 42) (L' := [some (.ref 74), some (.int p0), some (.int p1), none, none]) (st' := []) (w1 := Wd f fl g gl hh v tx) rfl ⟨Nat.le_of_ble_eq_true rfl, Nat.le_of_ble_eq_true rfl⟩ rfl (b_m_refuses_0 X (d) f fl g gl hh v tx (-3) _ ?_)
        refine ⟨by decide, ?_⟩
        refine ⟨by decide, ?_⟩
        exact WP.retI hP_252 rfl rfl h7
    · have h8 := h2.2 c3
      refine WP.run hP_252 3 (c' := (22, [some (.ref 74), none, none, none, none], [.int (-1), .ref 74], Wd f fl g gl hh v tx)) rfl ?_
      refine WP.call hP_252 hP_119 (as := [.ref 74, .int (-1)]) (pc' := 25) (L' := [some (.ref 74), none, none, none, none]) (st' := []) (w1 := Wd f fl g gl hh v tx) rfl ⟨Nat.le_of_ble_eq_true rfl, Nat.le_of_ble_eq_true rfl⟩ rfl (b_m_refuses_0 X (d) f fl g gl hh v tx (-1) _ ?_)
      refine ⟨by decide, ?_⟩
      refine ⟨by decide, ?_⟩
      exact WP.retI hP_252 rfl rfl h8
  · have h9 := h.2 c1
    refine WP.run hP_252 3 (c' := (22, [some (.ref 74), none, none, none, none], [.int (-1), .ref 74], Wd f fl g gl hh v tx)) rfl ?_
    refine WP.call hP_252 hP_119 (as := [.ref 74, .int (-1)]) (pc' := 25) (L' := [some (.ref 74), none, none, none, none]) (st' := []) (w1 := Wd f fl g gl hh v tx) rfl ⟨Nat.le_of_ble_eq_true rfl, Nat.le_of_ble_eq_true rfl⟩ rfl (b_m_refuses_0 X (d) f fl g gl hh v tx (-1) _ ?_)
    refine ⟨by decide, ?_⟩
    refine ⟨by decide, ?_⟩
    exact WP.retI hP_252 rfl rfl h9

set_option maxRecDepth 20000 in
theorem b_m_months_64 (X : mm_X) (d : Nat) (f : Nat → Int32) (fl : Nat → Int64) (g : Nat → Nat → Int32) (gl : Nat → Nat → Int64) (hh : Nat → Nat → Option Nat) (v : Nat → Value) (tx : mm_W) (l1 : Int32) (l2 : Int32)  (P : Option Value → mm_W → Prop)
    (h : WP X (d) 252 (69, [some (.ref 74), none, some (.int l2), some (.int 0), some (.int 0)], [], Wd f fl g gl hh v tx) P) :
    WP X (d) 252 (64, [some (.ref 74), some (.int l1), some (.int l2), none, none], [], Wd f fl g gl hh v tx) P := by
  refine WP.run hP_252 3 (c' := (67, [some (.ref 74), some (.int l1), some (.int l2), some (.int 0), none], [.int 0], Wd f fl g gl hh v tx)) rfl ?_
  refine WP.run hP_252 1 (c' := (69, [some (.ref 74), some (.int l1), some (.int l2), some (.int 0), some (.int 0)], [], Wd f fl g gl hh v tx)) rfl ?_
  refine WP.clr hP_252 (pc := 69) rfl ?_
  exact h

set_option maxRecDepth 20000 in
theorem b_m_months_69 (X : mm_X) (d : Nat) (f : Nat → Int32) (fl : Nat → Int64) (g : Nat → Nat → Int32) (gl : Nat → Nat → Int64) (hh : Nat → Nat → Option Nat) (v : Nat → Value) (tx : mm_W) (l2 : Int32) (l3 : Int32) (l4 : Int32)  (P : Option Value → mm_W → Prop)
    (h : ((l2 ≤ l4) → WP X (d + 1) 252 (112, [some (.ref 74), none, none, some (.int l3), some (.int 0)], [], Wd f fl g gl hh v tx) P) ∧
    ((¬ (l2 ≤ l4)) → (((999 ≤ ((g 76) 22)) → WP X (d + 1) 252 (112, [some (.ref 74), none, none, some (.int l3), some (.int 0)], [], Wd f fl g gl hh v tx) P) ∧
      ((¬ (999 ≤ ((g 76) 22))) → WP X (d) 251 (0, [some (.ref 74), none, none, none], [], Wd f fl g gl hh v tx) (fun rv w2 => WP X (d + 1) 252 (93, [some (.ref 74), none, some (.int l2), some (.int l3), some (.int l4)], rv.toList ++ [.int l3], w2) P))))) :
    WP X (d + 1) 252 (69, [some (.ref 74), none, some (.int l2), some (.int l3), some (.int l4)], [], Wd f fl g gl hh v tx) P := by
  refine WP.run hP_252 2 (c' := (72, [some (.ref 74), none, some (.int l2), some (.int l3), some (.int l4)], [.int l2, .int l4], Wd f fl g gl hh v tx)) rfl ?_
  refine WP.br hP_252 (q := l2 ≤ l4) (t := 109) (f := 75) (L := [some (.ref 74), none, some (.int l2), some (.int l3), some (.int l4)]) (st := []) (w := Wd f fl g gl hh v tx) rfl (fun c1 => ?_) (fun c1 => ?_)
  · have h2 := h.1 c1
    refine WP.run hP_252 1 (c' := (110, [some (.ref 74), none, none, some (.int l3), none], [.int 0], Wd f fl g gl hh v tx)) rfl ?_
    refine WP.run hP_252 1 (c' := (112, [some (.ref 74), none, none, some (.int l3), some (.int 0)], [], Wd f fl g gl hh v tx)) rfl ?_
    exact h2
  · have h3 := h.2 c1
    refine WP.run hP_252 3 (c' := (81, [some (.ref 74), none, some (.int l2), some (.int l3), some (.int l4)], [.int 22, .ref 76], Wd f fl g gl hh v tx)) rfl ?_
    refine WP.of (fun _ _ => Ex.iald hP_252 rfl (Wa_76 _ _ _ _ _ _ _) (by decide)) ?_
    show WP X _ 252 (82, [some (.ref 74), none, some (.int l2), some (.int l3), some (.int l4)], [.int ((g 76) 22)], Wd f fl g gl hh v tx) P
    refine WP.run hP_252 1 (c' := (85, [some (.ref 74), none, some (.int l2), some (.int l3), some (.int l4)], [.int 999, .int ((g 76) 22)], Wd f fl g gl hh v tx)) rfl ?_
    refine WP.br hP_252 (q := 999 ≤ ((g 76) 22)) (t := 109) (f := 88) (L := [some (.ref 74), none, some (.int l2), some (.int l3), some (.int l4)]) (st := []) (w := Wd f fl g gl hh v tx) rfl (fun c4 => ?_) (fun c4 => ?_)
    · have h5 := h3.1 c4
      refine WP.run hP_252 1 (c' := (110, [some (.ref 74), none, none, some (.int l3), none], [.int 0], Wd f fl g gl hh v tx)) rfl ?_
      refine WP.run hP_252 1 (c' := (112, [some (.ref 74), none, none, some (.int l3), some (.int 0)], [], Wd f fl g gl hh v tx)) rfl ?_
      exact h5
    · have h6 := h3.2 c4
      refine WP.run hP_252 2 (c' := (90, [some (.ref 74), none, some (.int l2), some (.int l3), some (.int l4)], [.ref 74, .int l3], Wd f fl g gl hh v tx)) rfl ?_
      refine WP.call hP_252 hP_251 (as := [.ref 74]) (pc' := 93) (L' := [some (.ref 74), none, some (.int l2), some (.int l3), some (.int l4)]) (st' := [.int l3]) (w1 := Wd f fl g gl hh v tx) rfl ⟨Nat.le_of_ble_eq_true rfl, Nat.le_of_ble_eq_true rfl⟩ rfl ?_
      exact h6

set_option maxRecDepth 20000 in
theorem b_m_months_112 (X : mm_X) (d : Nat) (f : Nat → Int32) (fl : Nat → Int64) (g : Nat → Nat → Int32) (gl : Nat → Nat → Int64) (hh : Nat → Nat → Option Nat) (v : Nat → Value) (tx : mm_W) (l3 : Int32) (l4 : Int32)  (P : Option Value → mm_W → Prop)
    (h : ((23 ≤ l4) → WP X (d) 126 (0, [some (.ref 74), some (.int 0), none], [], Wd f fl g gl hh v tx) (fun rv w2 => WP X (d + 1) 252 (144, [some (.ref 74), none, none, some (.int l3), none], rv.toList ++ [], w2) P)) ∧
    ((¬ (23 ≤ l4)) → ((¬ (l4 < 0 ∨ 5667 ≤ l4.toNatClampNeg)) ∧ ((¬ (l4 < 0 ∨ 23 ≤ l4.toNatClampNeg)) ∧ WP X (d + 1) 252 (112, [some (.ref 74), none, none, some (.int l3), some (.int (l4 + (1 : Int32)))], [], Wd f fl (va_up g 99 (upd (g 99) (l4.toNatClampNeg) ((g 76) l4.toNatClampNeg))) gl hh v tx) P)))) :
    WP X (d + 1) 252 (112, [some (.ref 74), none, none, some (.int l3), some (.int l4)], [], Wd f fl g gl hh v tx) P := by
  refine WP.run hP_252 2 (c' := (116, [some (.ref 74), none, none, some (.int l3), some (.int l4)], [.int 23, .int l4], Wd f fl g gl hh v tx)) rfl ?_
  refine WP.br hP_252 (q := 23 ≤ l4) (t := 139) (f := 119) (L := [some (.ref 74), none, none, some (.int l3), some (.int l4)]) (st := []) (w := Wd f fl g gl hh v tx) rfl (fun c1 => ?_) (fun c1 => ?_)
  · have h2 := h.1 c1
    refine WP.run hP_252 2 (c' := (141, [some (.ref 74), none, none, some (.int l3), none], [.int 0, .ref 74], Wd f fl g gl hh v tx)) rfl ?_
    refine WP.call hP_252 hP_126 (as := [.ref 74, .int 0]) (pc' := 144) (L' := [some (.ref 74), none, none, some (.int l3), none]) (st' := []) (w1 := Wd f fl g gl hh v tx) rfl ⟨Nat.le_of_ble_eq_true rfl, Nat.le_of_ble_eq_true rfl⟩ rfl ?_
    exact h2
  · have h3 := h.2 c1
    refine WP.run hP_252 6 (c' := (131, [some (.ref 74), none, none, some (.int l3), some (.int l4)], [.int l4, .ref 76, .int l4, .ref 99], Wd f fl g gl hh v tx)) rfl ?_
    refine WP.of (fun _ _ => Ex.iald hP_252 rfl (Wa_76 _ _ _ _ _ _ _) h3.1) ?_
    have h4 := h3.2
    refine WP.of (fun _ _ => Ex.iast hP_252 (w2 := Wd f fl (va_up g 99 (upd (g 99) (l4.toNatClampNeg) ((g 76) l4.toNatClampNeg))) gl hh v tx) rfl (Wa_99 _ _ _ _ _ _ _) h4.1 (Ws_99 _ _ _ _ _ _ _ _)) ?_
    have h5 := h4.2
    refine WP.run hP_252 2 (c' := (112, [some (.ref 74), none, none, some (.int l3), some (.int (l4 + (1 : Int32)))], [], Wd f fl (va_up g 99 (upd (g 99) (l4.toNatClampNeg) ((g 76) l4.toNatClampNeg))) gl hh v tx)) rfl ?_
    exact h5

set_option maxRecDepth 20000 in
theorem b_m_months_93 (X : mm_X) (d : Nat) (f : Nat → Int32) (fl : Nat → Int64) (g : Nat → Nat → Int32) (gl : Nat → Nat → Int64) (hh : Nat → Nat → Option Nat) (v : Nat → Value) (tx : mm_W) (l2 : Int32) (l3 : Int32) (l4 : Int32) (s0 : Int32) (s1 : Int32)  (P : Option Value → mm_W → Prop)
    (h : ((s0 = 0) → WP X (d) 252 (69, [some (.ref 74), none, some (.int l2), some (.int (s1 + (0 : Int32))), some (.int (l4 + (1 : Int32)))], [], Wd f fl g gl hh v tx) P) ∧
    ((¬ s0 = 0) → WP X (d) 252 (69, [some (.ref 74), none, some (.int l2), some (.int (s1 + (1 : Int32))), some (.int (l4 + (1 : Int32)))], [], Wd f fl g gl hh v tx) P)) :
    WP X (d) 252 (93, [some (.ref 74), none, some (.int l2), some (.int l3), some (.int l4)], [.int s0, .int s1], Wd f fl g gl hh v tx) P := by
  refine WP.br hP_252 (q := s0 = 0) (t := 100) (f := 96) (L := [some (.ref 74), none, some (.int l2), some (.int l3), some (.int l4)]) (st := [.int s1]) (w := Wd f fl g gl hh v tx) rfl (fun c1 => ?_) (fun c1 => ?_)
  · have h2 := h.1 c1
    refine WP.run hP_252 1 (c' := (101, [some (.ref 74), none, some (.int l2), none, some (.int l4)], [.int 0, .int s1], Wd f fl g gl hh v tx)) rfl ?_
    refine WP.run hP_252 1 (c' := (102, [some (.ref 74), none, some (.int l2), none, some (.int l4)], [.int (s1 + (0 : Int32))], Wd f fl g gl hh v tx)) rfl ?_
    refine WP.run hP_252 1 (c' := (103, [some (.ref 74), none, some (.int l2), some (.int (s1 + (0 : Int32))), some (.int l4)], [], Wd f fl g gl hh v tx)) rfl ?_
    refine WP.run hP_252 2 (c' := (69, [some (.ref 74), none, some (.int l2), some (.int (s1 + (0 : Int32))), some (.int (l4 + (1 : Int32)))], [], Wd f fl g gl hh v tx)) rfl ?_
    exact h2
  · have h3 := h.2 c1
    refine WP.run hP_252 3 (c' := (102, [some (.ref 74), none, some (.int l2), none, some (.int l4)], [.int (s1 + (1 : Int32))], Wd f fl g gl hh v tx)) rfl ?_
    refine WP.run hP_252 1 (c' := (103, [some (.ref 74), none, some (.int l2), some (.int (s1 + (1 : Int32))), some (.int l4)], [], Wd f fl g gl hh v tx)) rfl ?_
    refine WP.run hP_252 2 (c' := (69, [some (.ref 74), none, some (.int l2), some (.int (s1 + (1 : Int32))), some (.int (l4 + (1 : Int32)))], [], Wd f fl g gl hh v tx)) rfl ?_
    exact h3

set_option maxRecDepth 20000 in
theorem b_m_months_144 (X : mm_X) (d : Nat) (f : Nat → Int32) (fl : Nat → Int64) (g : Nat → Nat → Int32) (gl : Nat → Nat → Int64) (hh : Nat → Nat → Option Nat) (v : Nat → Value) (tx : mm_W) (l3 : Int32)  (P : Option Value → mm_W → Prop)
    (h : P (some (.int l3)) (Wd (va_up f 4736 0) fl g gl hh v tx)) :
    WP X (d + 1) 252 (144, [some (.ref 74), none, none, some (.int l3), none], [], Wd f fl g gl hh v tx) P := by
  refine WP.run hP_252 2 (c' := (146, [some (.ref 74), none, none, some (.int l3), none], [.int l3, .ref 74], Wd f fl g gl hh v tx)) rfl ?_
  refine WP.call hP_252 hP_120 (as := [.ref 74, .int l3]) (pc' := 149) (L' := [some (.ref 74), none, none, some (.int l3), none]) (st' := []) (w1 := Wd f fl g gl hh v tx) rfl ⟨Nat.le_of_ble_eq_true rfl, Nat.le_of_ble_eq_true rfl⟩ rfl (b_m_good_0 X (d) f fl g gl hh v tx l3 _ ?_)
  exact WP.retI hP_252 rfl rfl h

set_option maxRecDepth 20000 in
theorem b_m_drawn_0 (X : mm_X) (d : Nat) (f : Nat → Int32) (fl : Nat → Int64) (g : Nat → Nat → Int32) (gl : Nat → Nat → Int64) (hh : Nat → Nat → Option Nat) (v : Nat → Value) (tx : mm_W) (p0 : Int32) (p1 : Int32)  (P : Option Value → mm_W → Prop)
    (h : (((0 : Int32) ≤ p0 ∧ p0 ≤ ((f 4786) - (1 : Int32))) → ((((0 : Int32) ≤ p1 ∧ p1 ≤ (2 : Int32)) → (((¬ p1 = 0) → (((¬ p1 = 1) → ((¬ (((19 : Int32) + p0) < 0 ∨ 23 ≤ ((19 : Int32) + p0).toNatClampNeg)) ∧ P (some (.int ((g 99) ((19 : Int32) + p0).toNatClampNeg))) (Wd f fl g gl hh v tx))) ∧
          ((p1 = 1) → ((¬ (((16 : Int32) + p0) < 0 ∨ 23 ≤ ((16 : Int32) + p0).toNatClampNeg)) ∧ P (some (.int ((g 99) ((16 : Int32) + p0).toNatClampNeg))) (Wd f fl g gl hh v tx))))) ∧
        ((p1 = 0) → ((¬ (((13 : Int32) + p0) < 0 ∨ 23 ≤ ((13 : Int32) + p0).toNatClampNeg)) ∧ P (some (.int ((g 99) ((13 : Int32) + p0).toNatClampNeg))) (Wd f fl g gl hh v tx))))) ∧
      ((¬ ((0 : Int32) ≤ p1 ∧ p1 ≤ (2 : Int32))) → P (some (.int (-1))) (Wd f fl g gl hh v tx)))) ∧
    ((¬ ((0 : Int32) ≤ p0 ∧ p0 ≤ ((f 4786) - (1 : Int32)))) → P (some (.int (-1))) (Wd f fl g gl hh v tx))) :
    WP X (d + 1) 253 (0, [some (.ref 74), some (.int p0), some (.int p1)], [], Wd f fl g gl hh v tx) P := by
  refine WP.run hP_253 6 (c' := (8, [some (.ref 74), some (.int p0), some (.int p1)], [.int ((f 4786) - (1 : Int32)), .int 0, .int p0], Wd f fl g gl hh v tx)) rfl ?_
  refine WP.call hP_253 hP_116 (as := [.int p0, .int 0, .int ((f 4786) - (1 : Int32))]) (pc' := 11) (L' := [some (.ref 74), some (.int p0), some (.int p1)]) (st' := []) (w1 := Wd f fl g gl hh v tx) rfl ⟨Nat.le_of_ble_eq_true rfl, Nat.le_of_ble_eq_true rfl⟩ rfl (b_lies_m X (d) f fl g gl hh v tx p0 0 ((f 4786) - (1 : Int32)) _ ?_)
  refine ⟨fun c1 => ?_, fun c1 => ?_⟩
  · have h2 := h.1 c1
    refine WP.run hP_253 4 (c' := (17, [some (.ref 74), some (.int p0), some (.int p1)], [.int 2, .int 0, .int p1], Wd f fl g gl hh v tx)) rfl ?_
    refine WP.call hP_253 hP_116 (as := [.int p1, .int 0, .int 2]) (pc' := 20) (L' := [some (.ref 74), some (.int p0), some (.int p1)]) (st' := []) (w1 := Wd f fl g gl hh v tx) rfl ⟨Nat.le_of_ble_eq_true rfl, Nat.le_of_ble_eq_true rfl⟩ rfl (b_lies_m X (d) f fl g gl hh v tx p1 0 2 _ ?_)
    refine ⟨fun c3 => ?_, fun c3 => ?_⟩
    · have h4 := h2.1 c3
      refine WP.run hP_253 4 (c' := (30, [some (.ref 74), some (.int p0), some (.int p1)], [.int p1, .ref 99], Wd f fl g gl hh v tx)) rfl ?_
      refine WP.br hP_253 (q := ¬ p1 = 0) (t := 38) (f := 33) (L := [some (.ref 74), some (.int p0), some (.int p1)]) (st := [.ref 99]) (w := Wd f fl g gl hh v tx) rfl (fun c5 => ?_) (fun c5 => ?_)
      · have h6 := h4.1 c5
        refine WP.run hP_253 2 (c' := (40, [none, some (.int p0), some (.int p1)], [.int 1, .int p1, .ref 99], Wd f fl g gl hh v tx)) rfl ?_
        refine WP.br hP_253 (q := ¬ p1 = 1) (t := 48) (f := 43) (L := [none, some (.int p0), some (.int p1)]) (st := [.ref 99]) (w := Wd f fl g gl hh v tx) rfl (fun c7 => ?_) (fun c7 => ?_)
        · have h8 := h6.1 c7
          refine WP.run hP_253 1 (c' := (50, [none, some (.int p0), none], [.int 19, .ref 99], Wd f fl g gl hh v tx)) rfl ?_
          refine WP.run hP_253 2 (c' := (52, [none, some (.int p0), none], [.int ((19 : Int32) + p0), .ref 99], Wd f fl g gl hh v tx)) rfl ?_
          refine WP.of (fun _ _ => Ex.iald hP_253 rfl (Wa_99 _ _ _ _ _ _ _) h8.1) ?_
          have h9 := h8.2
          exact WP.retI hP_253 rfl rfl h9
        · have h10 := h6.2 (Classical.not_not.mp c7)
          refine WP.run hP_253 4 (c' := (52, [none, some (.int p0), none], [.int ((16 : Int32) + p0), .ref 99], Wd f fl g gl hh v tx)) rfl ?_
          refine WP.of (fun _ _ => Ex.iald hP_253 rfl (Wa_99 _ _ _ _ _ _ _) h10.1) ?_
          have h11 := h10.2
          exact WP.retI hP_253 rfl rfl h11
      · have h12 := h4.2 (Classical.not_not.mp c5)
        refine WP.run hP_253 4 (c' := (52, [none, some (.int p0), none], [.int ((13 : Int32) + p0), .ref 99], Wd f fl g gl hh v tx)) rfl ?_
        refine WP.of (fun _ _ => Ex.iald hP_253 rfl (Wa_99 _ _ _ _ _ _ _) h12.1) ?_
        have h13 := h12.2
        exact WP.retI hP_253 rfl rfl h13
    · have h14 := h2.2 c3
      refine WP.run hP_253 2 (c' := (24, [none, none, none], [.int (-1)], Wd f fl g gl hh v tx)) rfl ?_
      exact WP.retI hP_253 rfl rfl h14
  · have h15 := h.2 c1
    refine WP.run hP_253 2 (c' := (24, [none, none, none], [.int (-1)], Wd f fl g gl hh v tx)) rfl ?_
    exact WP.retI hP_253 rfl rfl h15

set_option maxRecDepth 20000 in
theorem b_m_count_0 (X : mm_X) (d : Nat) (f : Nat → Int32) (fl : Nat → Int64) (g : Nat → Nat → Int32) (gl : Nat → Nat → Int64) (hh : Nat → Nat → Option Nat) (v : Nat → Value) (tx : mm_W) (p0 : Int32)  (P : Option Value → mm_W → Prop)
    (h : ((p0 = 0) → P (some (.int ((g 76) 55))) (Wd f fl g gl hh v tx)) ∧
    ((¬ p0 = 0) → (((p0 = 1) → P (some (.int ((g 76) 56))) (Wd f fl g gl hh v tx)) ∧
      ((¬ p0 = 1) → (((p0 = 2) → P (some (.int ((g 76) 12))) (Wd f fl g gl hh v tx)) ∧
        ((¬ p0 = 2) → (((p0 = 3) → P (some (.int ((g 76) 57))) (Wd f fl g gl hh v tx)) ∧
          ((¬ p0 = 3) → (((p0 = 4) → P (some (.int ((g 76) 58))) (Wd f fl g gl hh v tx)) ∧
            ((¬ p0 = 4) → (((p0 = 5) → P (some (.int (f 4777))) (Wd f fl g gl hh v tx)) ∧
              ((¬ p0 = 5) → (((p0 = 6) → P (some (.int (f 4749))) (Wd f fl g gl hh v tx)) ∧
                ((¬ p0 = 6) → (((p0 = 7) → ((¬ ((p0 - (6 : Int32)) < 0 ∨ 7 ≤ (p0 - (6 : Int32)).toNatClampNeg)) ∧ P (some (.int ((g 75) (p0 - (6 : Int32)).toNatClampNeg))) (Wd f fl g gl hh v tx))) ∧
                  ((¬ p0 = 7) → (((p0 = 8) → ((¬ ((p0 - (6 : Int32)) < 0 ∨ 7 ≤ (p0 - (6 : Int32)).toNatClampNeg)) ∧ P (some (.int ((g 75) (p0 - (6 : Int32)).toNatClampNeg))) (Wd f fl g gl hh v tx))) ∧
                    ((¬ p0 = 8) → (((p0 = 9) → ((¬ ((p0 - (6 : Int32)) < 0 ∨ 7 ≤ (p0 - (6 : Int32)).toNatClampNeg)) ∧ P (some (.int ((g 75) (p0 - (6 : Int32)).toNatClampNeg))) (Wd f fl g gl hh v tx))) ∧
                      ((¬ p0 = 9) → (((p0 = 10) → P (some (.int ((g 75) 5))) (Wd f fl g gl hh v tx)) ∧
                        ((¬ p0 = 10) → (((p0 = 11) → P (some (.int ((g 75) 6))) (Wd f fl g gl hh v tx)) ∧
                          ((¬ p0 = 11) → (((p0 = 12) → P (some (.int ((g 76) 59))) (Wd f fl g gl hh v tx)) ∧
                            ((¬ p0 = 12) → (((p0 = 13) → (((¬ (p0 - (13 : Int32)) = 0) → (((¬ (p0 - (13 : Int32)) = 1) → P (some (.int ((g 76) 54))) (Wd f fl g gl hh v tx)) ∧
                                  (((p0 - (13 : Int32)) = 1) → P (some (.int ((g 76) 53))) (Wd f fl g gl hh v tx)))) ∧
                                (((p0 - (13 : Int32)) = 0) → P (some (.int ((g 76) 22))) (Wd f fl g gl hh v tx)))) ∧
                              ((¬ p0 = 13) → (((p0 = 14) → (((¬ (p0 - (13 : Int32)) = 0) → (((¬ (p0 - (13 : Int32)) = 1) → P (some (.int ((g 76) 54))) (Wd f fl g gl hh v tx)) ∧
                                    (((p0 - (13 : Int32)) = 1) → P (some (.int ((g 76) 53))) (Wd f fl g gl hh v tx)))) ∧
                                  (((p0 - (13 : Int32)) = 0) → P (some (.int ((g 76) 22))) (Wd f fl g gl hh v tx)))) ∧
                                ((¬ p0 = 14) → (((p0 = 15) → (((¬ (p0 - (13 : Int32)) = 0) → (((¬ (p0 - (13 : Int32)) = 1) → P (some (.int ((g 76) 54))) (Wd f fl g gl hh v tx)) ∧
                                      (((p0 - (13 : Int32)) = 1) → P (some (.int ((g 76) 53))) (Wd f fl g gl hh v tx)))) ∧
                                    (((p0 - (13 : Int32)) = 0) → P (some (.int ((g 76) 22))) (Wd f fl g gl hh v tx)))) ∧
                                  ((¬ p0 = 15) → P (some (.int (-1))) (Wd f fl g gl hh v tx))))))))))))))))))))))))))))))))) :
    WP X (d + 1) 254 (0, [some (.ref 74), some (.int p0)], [], Wd f fl g gl hh v tx) P := by
  refine WP.run hP_254 1 (c' := (1, [some (.ref 74), some (.int p0)], [.int p0], Wd f fl g gl hh v tx)) rfl ?_
  refine WP.run hP_254 1 (c' := (mm_sw p0 0 [80, 85, 93, 98, 106, 114, 119, 124, 124, 124, 134, 141, 149, 157, 157, 157] 170, [some (.ref 74), some (.int p0)], [], Wd f fl g gl hh v tx)) rfl ?_
  refine WP.sw (lo' := 1) rfl (fun c1 => ?_) (fun c1 => ?_)
  · have h2 := h.1 c1
    refine WP.run hP_254 1 (c' := (81, [some (.ref 74), none], [.ref 74], Wd f fl g gl hh v tx)) rfl ?_
    refine WP.call hP_254 hP_129 (as := [.ref 74]) (pc' := 84) (L' := [some (.ref 74), none]) (st' := []) (w1 := Wd f fl g gl hh v tx) rfl ⟨Nat.le_of_ble_eq_true rfl, Nat.le_of_ble_eq_true rfl⟩ rfl (b_m_signMany_0 X (d) f fl g gl hh v tx  _ ?_)
    exact WP.retI hP_254 rfl rfl h2
  · have h3 := h.2 c1
    refine WP.sw (lo' := 2) rfl (fun c4 => ?_) (fun c4 => ?_)
    · have h5 := h3.1 c4
      refine WP.run hP_254 3 (c' := (91, [some (.ref 74), none], [.int 56, .ref 76], Wd f fl g gl hh v tx)) rfl ?_
      refine WP.of (fun _ _ => Ex.iald hP_254 rfl (Wa_76 _ _ _ _ _ _ _) (by decide)) ?_
      show WP X _ 254 (92, [some (.ref 74), none], [.int ((g 76) 56)], Wd f fl g gl hh v tx) P
      exact WP.retI hP_254 rfl rfl h5
    · have h6 := h3.2 c4
      refine WP.sw (lo' := 3) rfl (fun c7 => ?_) (fun c7 => ?_)
      · have h8 := h6.1 c7
        refine WP.run hP_254 1 (c' := (94, [some (.ref 74), none], [.ref 74], Wd f fl g gl hh v tx)) rfl ?_
        refine WP.call hP_254 hP_130 (as := [.ref 74]) (pc' := 97) (L' := [some (.ref 74), none]) (st' := []) (w1 := Wd f fl g gl hh v tx) rfl ⟨Nat.le_of_ble_eq_true rfl, Nat.le_of_ble_eq_true rfl⟩ rfl (b_m_size_0 X (d) f fl g gl hh v tx  _ ?_)
        exact WP.retI hP_254 rfl rfl h8
      · have h9 := h6.2 c7
        refine WP.sw (lo' := 4) rfl (fun c10 => ?_) (fun c10 => ?_)
        · have h11 := h9.1 c10
          refine WP.run hP_254 3 (c' := (104, [some (.ref 74), none], [.int 57, .ref 76], Wd f fl g gl hh v tx)) rfl ?_
          refine WP.of (fun _ _ => Ex.iald hP_254 rfl (Wa_76 _ _ _ _ _ _ _) (by decide)) ?_
          show WP X _ 254 (105, [some (.ref 74), none], [.int ((g 76) 57)], Wd f fl g gl hh v tx) P
          exact WP.retI hP_254 rfl rfl h11
        · have h12 := h9.2 c10
          refine WP.sw (lo' := 5) rfl (fun c13 => ?_) (fun c13 => ?_)
          · have h14 := h12.1 c13
            refine WP.run hP_254 3 (c' := (112, [some (.ref 74), none], [.int 58, .ref 76], Wd f fl g gl hh v tx)) rfl ?_
            refine WP.of (fun _ _ => Ex.iald hP_254 rfl (Wa_76 _ _ _ _ _ _ _) (by decide)) ?_
            show WP X _ 254 (113, [some (.ref 74), none], [.int ((g 76) 58)], Wd f fl g gl hh v tx) P
            exact WP.retI hP_254 rfl rfl h14
          · have h15 := h12.2 c13
            refine WP.sw (lo' := 6) rfl (fun c16 => ?_) (fun c16 => ?_)
            · have h17 := h15.1 c16
              refine WP.run hP_254 2 (c' := (118, [some (.ref 74), none], [.int (f 4777)], Wd f fl g gl hh v tx)) rfl ?_
              exact WP.retI hP_254 rfl rfl h17
            · have h18 := h15.2 c16
              refine WP.sw (lo' := 7) rfl (fun c19 => ?_) (fun c19 => ?_)
              · have h20 := h18.1 c19
                refine WP.run hP_254 2 (c' := (123, [some (.ref 74), none], [.int (f 4749)], Wd f fl g gl hh v tx)) rfl ?_
                exact WP.retI hP_254 rfl rfl h20
              · have h21 := h18.2 c19
                refine WP.sw (lo' := 8) rfl (fun c22 => ?_) (fun c22 => ?_)
                · have h23 := h21.1 c22
                  refine WP.run hP_254 5 (c' := (132, [some (.ref 74), some (.int p0)], [.int (p0 - (6 : Int32)), .ref 75], Wd f fl g gl hh v tx)) rfl ?_
                  refine WP.of (fun _ _ => Ex.iald hP_254 rfl (Wa_75 _ _ _ _ _ _ _) h23.1) ?_
                  have h24 := h23.2
                  exact WP.retI hP_254 rfl rfl h24
                · have h25 := h21.2 c22
                  refine WP.sw (lo' := 9) rfl (fun c26 => ?_) (fun c26 => ?_)
                  · have h27 := h25.1 c26
                    refine WP.run hP_254 5 (c' := (132, [some (.ref 74), some (.int p0)], [.int (p0 - (6 : Int32)), .ref 75], Wd f fl g gl hh v tx)) rfl ?_
                    refine WP.of (fun _ _ => Ex.iald hP_254 rfl (Wa_75 _ _ _ _ _ _ _) h27.1) ?_
                    have h28 := h27.2
                    exact WP.retI hP_254 rfl rfl h28
                  · have h29 := h25.2 c26
                    refine WP.sw (lo' := 10) rfl (fun c30 => ?_) (fun c30 => ?_)
                    · have h31 := h29.1 c30
                      refine WP.run hP_254 5 (c' := (132, [some (.ref 74), some (.int p0)], [.int (p0 - (6 : Int32)), .ref 75], Wd f fl g gl hh v tx)) rfl ?_
                      refine WP.of (fun _ _ => Ex.iald hP_254 rfl (Wa_75 _ _ _ _ _ _ _) h31.1) ?_
                      have h32 := h31.2
                      exact WP.retI hP_254 rfl rfl h32
                    · have h33 := h29.2 c30
                      refine WP.sw (lo' := 11) rfl (fun c34 => ?_) (fun c34 => ?_)
                      · have h35 := h33.1 c34
                        refine WP.run hP_254 3 (c' := (139, [some (.ref 74), none], [.int 5, .ref 75], Wd f fl g gl hh v tx)) rfl ?_
                        refine WP.of (fun _ _ => Ex.iald hP_254 rfl (Wa_75 _ _ _ _ _ _ _) (by decide)) ?_
                        show WP X _ 254 (140, [some (.ref 74), none], [.int ((g 75) 5)], Wd f fl g gl hh v tx) P
                        exact WP.retI hP_254 rfl rfl h35
                      · have h36 := h33.2 c34
                        refine WP.sw (lo' := 12) rfl (fun c37 => ?_) (fun c37 => ?_)
                        · have h38 := h36.1 c37
                          refine WP.run hP_254 3 (c' := (147, [some (.ref 74), none], [.int 6, .ref 75], Wd f fl g gl hh v tx)) rfl ?_
                          refine WP.of (fun _ _ => Ex.iald hP_254 rfl (Wa_75 _ _ _ _ _ _ _) (by decide)) ?_
                          show WP X _ 254 (148, [some (.ref 74), none], [.int ((g 75) 6)], Wd f fl g gl hh v tx) P
                          exact WP.retI hP_254 rfl rfl h38
                        · have h39 := h36.2 c37
                          refine WP.sw (lo' := 13) rfl (fun c40 => ?_) (fun c40 => ?_)
                          · have h41 := h39.1 c40
                            refine WP.run hP_254 3 (c' := (155, [some (.ref 74), none], [.int 59, .ref 76], Wd f fl g gl hh v tx)) rfl ?_
                            refine WP.of (fun _ _ => Ex.iald hP_254 rfl (Wa_76 _ _ _ _ _ _ _) (by decide)) ?_
                            show WP X _ 254 (156, [some (.ref 74), none], [.int ((g 76) 59)], Wd f fl g gl hh v tx) P
                            exact WP.retI hP_254 rfl rfl h41
                          · have h42 := h39.2 c40
                            refine WP.sw (lo' := 14) rfl (fun c43 => ?_) (fun c43 => ?_)
                            · have h44 := h42.1 c43
                              refine WP.run hP_254 5 (c' := (165, [some (.ref 74), some (.int p0)], [.int (p0 - (13 : Int32)), .ref 76], Wd f fl g gl hh v tx)) rfl ?_
                              refine WP.call hP_254 hP_144 (as := [.int (p0 - (13 : Int32))]) (pc' := 168) (L' := [some (.ref 74), some (.int p0)]) (st' := [.ref 76]) (w1 := Wd f fl g gl hh v tx) rfl ⟨Nat.le_of_ble_eq_true rfl, Nat.le_of_ble_eq_true rfl⟩ rfl (b_m_termAt_0 X (d) f fl g gl hh v tx (p0 - (13 : Int32)) _ ?_)
                              refine ⟨fun c45 => ?_, fun c45 => ?_⟩
                              · have h46 := h44.1 c45
                                refine ⟨fun c47 => ?_, fun c47 => ?_⟩
                                · have h48 := h46.1 c47
                                  refine WP.of (fun _ _ => Ex.iald hP_254 rfl (Wa_76 _ _ _ _ _ _ _) (by decide)) ?_
                                  show WP X _ 254 (169, [some (.ref 74), some (.int p0)], [.int ((g 76) 54)], Wd f fl g gl hh v tx) P
                                  exact WP.retI hP_254 rfl rfl h48
                                · have h49 := h46.2 c47
                                  refine WP.of (fun _ _ => Ex.iald hP_254 rfl (Wa_76 _ _ _ _ _ _ _) (by decide)) ?_
                                  show WP X _ 254 (169, [some (.ref 74), some (.int p0)], [.int ((g 76) 53)], Wd f fl g gl hh v tx) P
                                  exact WP.retI hP_254 rfl rfl h49
                              · have h50 := h44.2 c45
                                refine WP.of (fun _ _ => Ex.iald hP_254 rfl (Wa_76 _ _ _ _ _ _ _) (by decide)) ?_
                                show WP X _ 254 (169, [some (.ref 74), some (.int p0)], [.int ((g 76) 22)], Wd f fl g gl hh v tx) P
                                exact WP.retI hP_254 rfl rfl h50
                            · have h51 := h42.2 c43
                              refine WP.sw (lo' := 15) rfl (fun c52 => ?_) (fun c52 => ?_)
                              · have h53 := h51.1 c52
                                refine WP.run hP_254 5 (c' := (165, [some (.ref 74), some (.int p0)], [.int (p0 - (13 : Int32)), .ref 76], Wd f fl g gl hh v tx)) rfl ?_
                                refine WP.call hP_254 hP_144 (as := [.int (p0 - (13 : Int32))]) (pc' := 168) (L' := [some (.ref 74), some (.int p0)]) (st' := [.ref 76]) (w1 := Wd f fl g gl hh v tx) rfl ⟨Nat.le_of_ble_eq_true rfl, Nat.le_of_ble_eq_true rfl⟩ rfl (b_m_termAt_0 X (d) f fl g gl hh v tx (p0 - (13 : Int32)) _ ?_)
                                refine ⟨fun c54 => ?_, fun c54 => ?_⟩
                                · have h55 := h53.1 c54
                                  refine ⟨fun c56 => ?_, fun c56 => ?_⟩
                                  · have h57 := h55.1 c56
                                    refine WP.of (fun _ _ => Ex.iald hP_254 rfl (Wa_76 _ _ _ _ _ _ _) (by decide)) ?_
                                    show WP X _ 254 (169, [some (.ref 74), some (.int p0)], [.int ((g 76) 54)], Wd f fl g gl hh v tx) P
                                    exact WP.retI hP_254 rfl rfl h57
                                  · have h58 := h55.2 c56
                                    refine WP.of (fun _ _ => Ex.iald hP_254 rfl (Wa_76 _ _ _ _ _ _ _) (by decide)) ?_
                                    show WP X _ 254 (169, [some (.ref 74), some (.int p0)], [.int ((g 76) 53)], Wd f fl g gl hh v tx) P
                                    exact WP.retI hP_254 rfl rfl h58
                                · have h59 := h53.2 c54
                                  refine WP.of (fun _ _ => Ex.iald hP_254 rfl (Wa_76 _ _ _ _ _ _ _) (by decide)) ?_
                                  show WP X _ 254 (169, [some (.ref 74), some (.int p0)], [.int ((g 76) 22)], Wd f fl g gl hh v tx) P
                                  exact WP.retI hP_254 rfl rfl h59
                              · have h60 := h51.2 c52
                                refine WP.sw (lo' := 16) rfl (fun c61 => ?_) (fun c61 => ?_)
                                · have h62 := h60.1 c61
                                  refine WP.run hP_254 5 (c' := (165, [some (.ref 74), some (.int p0)], [.int (p0 - (13 : Int32)), .ref 76], Wd f fl g gl hh v tx)) rfl ?_
                                  refine WP.call hP_254 hP_144 (as := [.int (p0 - (13 : Int32))]) (pc' := 168) (L' := [some (.ref 74), some (.int p0)]) (st' := [.ref 76]) (w1 := Wd f fl g gl hh v tx) rfl ⟨Nat.le_of_ble_eq_true rfl, Nat.le_of_ble_eq_true rfl⟩ rfl (b_m_termAt_0 X (d) f fl g gl hh v tx (p0 - (13 : Int32)) _ ?_)
                                  refine ⟨fun c63 => ?_, fun c63 => ?_⟩
                                  · have h64 := h62.1 c63
                                    refine ⟨fun c65 => ?_, fun c65 => ?_⟩
                                    · have h66 := h64.1 c65
                                      refine WP.of (fun _ _ => Ex.iald hP_254 rfl (Wa_76 _ _ _ _ _ _ _) (by decide)) ?_
                                      show WP X _ 254 (169, [some (.ref 74), some (.int p0)], [.int ((g 76) 54)], Wd f fl g gl hh v tx) P
                                      exact WP.retI hP_254 rfl rfl h66
                                    · have h67 := h64.2 c65
                                      refine WP.of (fun _ _ => Ex.iald hP_254 rfl (Wa_76 _ _ _ _ _ _ _) (by decide)) ?_
                                      show WP X _ 254 (169, [some (.ref 74), some (.int p0)], [.int ((g 76) 53)], Wd f fl g gl hh v tx) P
                                      exact WP.retI hP_254 rfl rfl h67
                                  · have h68 := h62.2 c63
                                    refine WP.of (fun _ _ => Ex.iald hP_254 rfl (Wa_76 _ _ _ _ _ _ _) (by decide)) ?_
                                    show WP X _ 254 (169, [some (.ref 74), some (.int p0)], [.int ((g 76) 22)], Wd f fl g gl hh v tx) P
                                    exact WP.retI hP_254 rfl rfl h68
                                · have h69 := h60.2 c61
                                  show WP X _ 254 (170, [some (.ref 74), some (.int p0)], [], Wd f fl g gl hh v tx) P
                                  refine WP.run hP_254 1 (c' := (171, [none, none], [.int (-1)], Wd f fl g gl hh v tx)) rfl ?_
                                  exact WP.retI hP_254 rfl rfl h69

set_option maxRecDepth 20000 in
theorem b_m_status_0 (X : mm_X) (d : Nat) (f : Nat → Int32) (fl : Nat → Int64) (g : Nat → Nat → Int32) (gl : Nat → Nat → Int64) (hh : Nat → Nat → Option Nat) (v : Nat → Value) (tx : mm_W)   (P : Option Value → mm_W → Prop)
    (h : P (some (.int (f 4736))) (Wd f fl g gl hh v tx)) :
    WP X (d) 255 (0, [some (.ref 74)], [], Wd f fl g gl hh v tx) P := by
  refine WP.run hP_255 2 (c' := (4, [some (.ref 74)], [.int (f 4736)], Wd f fl g gl hh v tx)) rfl ?_
  exact WP.retI hP_255 rfl rfl h
