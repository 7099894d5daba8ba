set_option maxRecDepth 20000 in
theorem b_yst_add_19_0 (X : mm_X) (d : Nat) (f : Nat → Int32) (fl : Nat → Int64) (g : Nat → Nat → Int32) (gl : Nat → Nat → Int64) (hh : Nat → Nat → Option Nat) (v : Nat → Value) (tx : mm_W) (p0 : Int32)  (P : Option Value → mm_W → Prop)
    (h : P none (Wd (va_up (va_up f 1223 ((((f 1223) <<< ((2 : Int32) &&& (31 : Int32))) : Int32) ||| p0)) 1222 ((f 1222) + (1 : Int32))) fl g gl hh v tx)) :
    WP X (d) 49 (0, [some (.ref 19), some (.int p0)], [], Wd f fl g gl hh v tx) P := by
  refine WP.run hP_49 14 (c' := (22, [some (.ref 19), some (.int p0)], [], Wd (va_up (va_up f 1223 ((((f 1223) <<< ((2 : Int32) &&& (31 : Int32))) : Int32) ||| p0)) 1222 ((f 1222) + (1 : Int32))) fl g gl hh v tx)) rfl ?_
  exact WP.ret hP_49 (r := none) (w' := Wd (va_up (va_up f 1223 ((((f 1223) <<< ((2 : Int32) &&& (31 : Int32))) : Int32) ||| p0)) 1222 ((f 1222) + (1 : Int32))) fl g gl hh v tx) rfl h

set_option maxRecDepth 20000 in
theorem b_yst_copy_19_1_0 (X : mm_X) (d : Nat) (f : Nat → Int32) (fl : Nat → Int64) (g : Nat → Nat → Int32) (gl : Nat → Nat → Int64) (hh : Nat → Nat → Option Nat) (v : Nat → Value) (tx : mm_W)   (P : Option Value → mm_W → Prop)
    (h : WP X (d) 45 (169, [some (.ref 19), some (.ref 1), some (.int 0)], [], Wd (va_up (va_up (va_up (va_up (va_up (va_up (va_up (va_up f 1216 (f 64)) 1220 (f 68)) 1222 (f 70)) 1223 (f 71)) 1224 (f 72)) 1226 (f 74)) 1228 (f 76)) 1230 (f 78)) fl (va_up (va_up (va_up (va_up (va_up (va_up (va_up g 20 (va_cpy (g 2) (g 20) 0 0 8)) 21 (va_cpy (g 3) (g 21) 0 0 8)) 22 (va_cpy (g 4) (g 22) 0 0 8)) 23 (va_cpy (g 5) (g 23) 0 0 3)) 24 (va_cpy (g 6) (g 24) 0 0 6)) 26 (va_cpy (g 8) (g 26) 0 0 3)) 27 (va_cpy (g 9) (g 27) 0 0 16)) gl hh v tx) P) :
    WP X (d) 45 (0, [some (.ref 19), some (.ref 1), none], [], Wd f fl g gl hh v tx) P := by
  refine WP.run hP_45 39 (c' := (76, [some (.ref 19), some (.ref 1), none], [.int 8, .int 0, .ref 20, .int 0, .ref 2], Wd (va_up (va_up (va_up (va_up (va_up (va_up (va_up (va_up f 1216 (f 64)) 1220 (f 68)) 1222 (f 70)) 1223 (f 71)) 1224 (f 72)) 1226 (f 74)) 1228 (f 76)) 1230 (f 78)) fl g gl hh v tx)) rfl ?_
  refine WP.of (fun _ _ => Ex.acopy hP_45 (w2 := Wd (va_up (va_up (va_up (va_up (va_up (va_up (va_up (va_up f 1216 (f 64)) 1220 (f 68)) 1222 (f 70)) 1223 (f 71)) 1224 (f 72)) 1226 (f 74)) 1228 (f 76)) 1230 (f 78)) fl (va_up g 20 (va_cpy (g 2) (g 20) 0 0 8)) gl hh v tx) rfl rfl (Wa_2 _ _ _ _ _ _ _) (Wa_20 _ _ _ _ _ _ _) (by decide) (Ws_20 _ _ _ _ _ _ _ _)) ?_
  refine WP.run hP_45 7 (c' := (91, [some (.ref 19), some (.ref 1), none], [.int 8, .int 0, .ref 21, .int 0, .ref 3], Wd (va_up (va_up (va_up (va_up (va_up (va_up (va_up (va_up f 1216 (f 64)) 1220 (f 68)) 1222 (f 70)) 1223 (f 71)) 1224 (f 72)) 1226 (f 74)) 1228 (f 76)) 1230 (f 78)) fl (va_up g 20 (va_cpy (g 2) (g 20) 0 0 8)) gl hh v tx)) rfl ?_
  refine WP.of (fun _ _ => Ex.acopy hP_45 (w2 := Wd (va_up (va_up (va_up (va_up (va_up (va_up (va_up (va_up f 1216 (f 64)) 1220 (f 68)) 1222 (f 70)) 1223 (f 71)) 1224 (f 72)) 1226 (f 74)) 1228 (f 76)) 1230 (f 78)) fl (va_up (va_up g 20 (va_cpy (g 2) (g 20) 0 0 8)) 21 (va_cpy (g 3) (g 21) 0 0 8)) gl hh v tx) rfl rfl (Wa_3 _ _ _ _ _ _ _) (Wa_21 _ _ _ _ _ _ _) (by decide) (Ws_21 _ _ _ _ _ _ _ _)) ?_
  refine WP.run hP_45 7 (c' := (106, [some (.ref 19), some (.ref 1), none], [.int 8, .int 0, .ref 22, .int 0, .ref 4], Wd (va_up (va_up (va_up (va_up (va_up (va_up (va_up (va_up f 1216 (f 64)) 1220 (f 68)) 1222 (f 70)) 1223 (f 71)) 1224 (f 72)) 1226 (f 74)) 1228 (f 76)) 1230 (f 78)) fl (va_up (va_up g 20 (va_cpy (g 2) (g 20) 0 0 8)) 21 (va_cpy (g 3) (g 21) 0 0 8)) gl hh v tx)) rfl ?_
  refine WP.of (fun _ _ => Ex.acopy hP_45 (w2 := Wd (va_up (va_up (va_up (va_up (va_up (va_up (va_up (va_up f 1216 (f 64)) 1220 (f 68)) 1222 (f 70)) 1223 (f 71)) 1224 (f 72)) 1226 (f 74)) 1228 (f 76)) 1230 (f 78)) fl (va_up (va_up (va_up g 20 (va_cpy (g 2) (g 20) 0 0 8)) 21 (va_cpy (g 3) (g 21) 0 0 8)) 22 (va_cpy (g 4) (g 22) 0 0 8)) gl hh v tx) rfl rfl (Wa_4 _ _ _ _ _ _ _) (Wa_22 _ _ _ _ _ _ _) (by decide) (Ws_22 _ _ _ _ _ _ _ _)) ?_
  refine WP.run hP_45 7 (c' := (120, [some (.ref 19), some (.ref 1), none], [.int 3, .int 0, .ref 23, .int 0, .ref 5], Wd (va_up (va_up (va_up (va_up (va_up (va_up (va_up (va_up f 1216 (f 64)) 1220 (f 68)) 1222 (f 70)) 1223 (f 71)) 1224 (f 72)) 1226 (f 74)) 1228 (f 76)) 1230 (f 78)) fl (va_up (va_up (va_up g 20 (va_cpy (g 2) (g 20) 0 0 8)) 21 (va_cpy (g 3) (g 21) 0 0 8)) 22 (va_cpy (g 4) (g 22) 0 0 8)) gl hh v tx)) rfl ?_
  refine WP.of (fun _ _ => Ex.acopy hP_45 (w2 := Wd (va_up (va_up (va_up (va_up (va_up (va_up (va_up (va_up f 1216 (f 64)) 1220 (f 68)) 1222 (f 70)) 1223 (f 71)) 1224 (f 72)) 1226 (f 74)) 1228 (f 76)) 1230 (f 78)) fl (va_up (va_up (va_up (va_up g 20 (va_cpy (g 2) (g 20) 0 0 8)) 21 (va_cpy (g 3) (g 21) 0 0 8)) 22 (va_cpy (g 4) (g 22) 0 0 8)) 23 (va_cpy (g 5) (g 23) 0 0 3)) gl hh v tx) rfl rfl (Wa_5 _ _ _ _ _ _ _) (Wa_23 _ _ _ _ _ _ _) (by decide) (Ws_23 _ _ _ _ _ _ _ _)) ?_
  refine WP.run hP_45 7 (c' := (135, [some (.ref 19), some (.ref 1), none], [.int 6, .int 0, .ref 24, .int 0, .ref 6], Wd (va_up (va_up (va_up (va_up (va_up (va_up (va_up (va_up f 1216 (f 64)) 1220 (f 68)) 1222 (f 70)) 1223 (f 71)) 1224 (f 72)) 1226 (f 74)) 1228 (f 76)) 1230 (f 78)) fl (va_up (va_up (va_up (va_up g 20 (va_cpy (g 2) (g 20) 0 0 8)) 21 (va_cpy (g 3) (g 21) 0 0 8)) 22 (va_cpy (g 4) (g 22) 0 0 8)) 23 (va_cpy (g 5) (g 23) 0 0 3)) gl hh v tx)) rfl ?_
  refine WP.of (fun _ _ => Ex.acopy hP_45 (w2 := Wd (va_up (va_up (va_up (va_up (va_up (va_up (va_up (va_up f 1216 (f 64)) 1220 (f 68)) 1222 (f 70)) 1223 (f 71)) 1224 (f 72)) 1226 (f 74)) 1228 (f 76)) 1230 (f 78)) fl (va_up (va_up (va_up (va_up (va_up g 20 (va_cpy (g 2) (g 20) 0 0 8)) 21 (va_cpy (g 3) (g 21) 0 0 8)) 22 (va_cpy (g 4) (g 22) 0 0 8)) 23 (va_cpy (g 5) (g 23) 0 0 3)) 24 (va_cpy (g 6) (g 24) 0 0 6)) gl hh v tx) rfl rfl (Wa_6 _ _ _ _ _ _ _) (Wa_24 _ _ _ _ _ _ _) (by decide) (Ws_24 _ _ _ _ _ _ _ _)) ?_
  refine WP.run hP_45 7 (c' := (149, [some (.ref 19), some (.ref 1), none], [.int 3, .int 0, .ref 26, .int 0, .ref 8], Wd (va_up (va_up (va_up (va_up (va_up (va_up (va_up (va_up f 1216 (f 64)) 1220 (f 68)) 1222 (f 70)) 1223 (f 71)) 1224 (f 72)) 1226 (f 74)) 1228 (f 76)) 1230 (f 78)) fl (va_up (va_up (va_up (va_up (va_up g 20 (va_cpy (g 2) (g 20) 0 0 8)) 21 (va_cpy (g 3) (g 21) 0 0 8)) 22 (va_cpy (g 4) (g 22) 0 0 8)) 23 (va_cpy (g 5) (g 23) 0 0 3)) 24 (va_cpy (g 6) (g 24) 0 0 6)) gl hh v tx)) rfl ?_
  refine WP.of (fun _ _ => Ex.acopy hP_45 (w2 := Wd (va_up (va_up (va_up (va_up (va_up (va_up (va_up (va_up f 1216 (f 64)) 1220 (f 68)) 1222 (f 70)) 1223 (f 71)) 1224 (f 72)) 1226 (f 74)) 1228 (f 76)) 1230 (f 78)) fl (va_up (va_up (va_up (va_up (va_up (va_up g 20 (va_cpy (g 2) (g 20) 0 0 8)) 21 (va_cpy (g 3) (g 21) 0 0 8)) 22 (va_cpy (g 4) (g 22) 0 0 8)) 23 (va_cpy (g 5) (g 23) 0 0 3)) 24 (va_cpy (g 6) (g 24) 0 0 6)) 26 (va_cpy (g 8) (g 26) 0 0 3)) gl hh v tx) rfl rfl (Wa_8 _ _ _ _ _ _ _) (Wa_26 _ _ _ _ _ _ _) (by decide) (Ws_26 _ _ _ _ _ _ _ _)) ?_
  refine WP.run hP_45 7 (c' := (164, [some (.ref 19), some (.ref 1), none], [.int 16, .int 0, .ref 27, .int 0, .ref 9], Wd (va_up (va_up (va_up (va_up (va_up (va_up (va_up (va_up f 1216 (f 64)) 1220 (f 68)) 1222 (f 70)) 1223 (f 71)) 1224 (f 72)) 1226 (f 74)) 1228 (f 76)) 1230 (f 78)) fl (va_up (va_up (va_up (va_up (va_up (va_up g 20 (va_cpy (g 2) (g 20) 0 0 8)) 21 (va_cpy (g 3) (g 21) 0 0 8)) 22 (va_cpy (g 4) (g 22) 0 0 8)) 23 (va_cpy (g 5) (g 23) 0 0 3)) 24 (va_cpy (g 6) (g 24) 0 0 6)) 26 (va_cpy (g 8) (g 26) 0 0 3)) gl hh v tx)) rfl ?_
  refine WP.of (fun _ _ => Ex.acopy hP_45 (w2 := Wd (va_up (va_up (va_up (va_up (va_up (va_up (va_up (va_up f 1216 (f 64)) 1220 (f 68)) 1222 (f 70)) 1223 (f 71)) 1224 (f 72)) 1226 (f 74)) 1228 (f 76)) 1230 (f 78)) fl (va_up (va_up (va_up (va_up (va_up (va_up (va_up g 20 (va_cpy (g 2) (g 20) 0 0 8)) 21 (va_cpy (g 3) (g 21) 0 0 8)) 22 (va_cpy (g 4) (g 22) 0 0 8)) 23 (va_cpy (g 5) (g 23) 0 0 3)) 24 (va_cpy (g 6) (g 24) 0 0 6)) 26 (va_cpy (g 8) (g 26) 0 0 3)) 27 (va_cpy (g 9) (g 27) 0 0 16)) gl hh v tx) rfl rfl (Wa_9 _ _ _ _ _ _ _) (Wa_27 _ _ _ _ _ _ _) (by decide) (Ws_27 _ _ _ _ _ _ _ _)) ?_
  refine WP.run hP_45 2 (c' := (169, [some (.ref 19), some (.ref 1), some (.int 0)], [], Wd (va_up (va_up (va_up (va_up (va_up (va_up (va_up (va_up f 1216 (f 64)) 1220 (f 68)) 1222 (f 70)) 1223 (f 71)) 1224 (f 72)) 1226 (f 74)) 1228 (f 76)) 1230 (f 78)) fl (va_up (va_up (va_up (va_up (va_up (va_up (va_up g 20 (va_cpy (g 2) (g 20) 0 0 8)) 21 (va_cpy (g 3) (g 21) 0 0 8)) 22 (va_cpy (g 4) (g 22) 0 0 8)) 23 (va_cpy (g 5) (g 23) 0 0 3)) 24 (va_cpy (g 6) (g 24) 0 0 6)) 26 (va_cpy (g 8) (g 26) 0 0 3)) 27 (va_cpy (g 9) (g 27) 0 0 16)) gl hh v tx)) rfl ?_
  exact h

set_option maxRecDepth 20000 in
theorem b_yst_copy_19_1_169 (X : mm_X) (d : Nat) (f : Nat → Int32) (fl : Nat → Int64) (g : Nat → Nat → Int32) (gl : Nat → Nat → Int64) (hh : Nat → Nat → Option Nat) (v : Nat → Value) (tx : mm_W) (l2 : Int32)  (P : Option Value → mm_W → Prop)
    (h : ((6 ≤ l2) → P none (Wd f fl g gl hh v tx)) ∧
    ((¬ (6 ≤ l2)) → ((¬ (l2 < 0 ∨ 6 ≤ l2.toNatClampNeg)) ∧ ((¬ (l2 < 0 ∨ 6 ≤ l2.toNatClampNeg)) ∧ ((∀ o, ((hh 7) l2.toNatClampNeg) = some o → ∃ fs, (Wd f fl g gl hh v tx)[o]? = some (.inr (6, fs))) ∧ WP X (d) 45 (169, [some (.ref 19), some (.ref 1), some (.int (l2 + (1 : Int32)))], [], Wd f fl g gl (va_up hh 25 (va_up (hh 25) (l2.toNatClampNeg) ((hh 7) l2.toNatClampNeg))) v tx) P))))) :
    WP X (d) 45 (169, [some (.ref 19), some (.ref 1), some (.int l2)], [], Wd f fl g gl hh v tx) P := by
  refine WP.run hP_45 2 (c' := (172, [some (.ref 19), some (.ref 1), some (.int l2)], [.int 6, .int l2], Wd f fl g gl hh v tx)) rfl ?_
  refine WP.br hP_45 (q := 6 ≤ l2) (t := 193) (f := 175) (L := [some (.ref 19), some (.ref 1), some (.int l2)]) (st := []) (w := Wd f fl g gl hh v tx) rfl (fun c1 => ?_) (fun c1 => ?_)
  · have h2 := h.1 c1
    exact WP.ret hP_45 (r := none) (w' := Wd f fl g gl hh v tx) rfl h2
  · have h3 := h.2 c1
    refine WP.run hP_45 6 (c' := (185, [some (.ref 19), some (.ref 1), some (.int l2)], [.int l2, .ref 7, .int l2, .ref 25], Wd f fl g gl hh v tx)) rfl ?_
    refine WP.of (fun _ _ => Ex.aald4 hP_45 rfl (Wa_7 _ _ _ _ _ _ _) h3.1) ?_
    have h4 := h3.2
    refine WP.of (fun _ _ => Ex.aastV hP_45 (w2 := Wd f fl g gl (va_up hh 25 (va_up (hh 25) (l2.toNatClampNeg) ((hh 7) l2.toNatClampNeg))) v tx) rfl (Wa_25 _ _ _ _ _ _ _) h4.1 h4.2.1 (Ws_25 _ _ _ _ _ _ _ _)) ?_
    have h5 := h4.2
    have h6 := h5.2
    refine WP.run hP_45 2 (c' := (169, [some (.ref 19), some (.ref 1), some (.int (l2 + (1 : Int32)))], [], Wd f fl g gl (va_up hh 25 (va_up (hh 25) (l2.toNatClampNeg) ((hh 7) l2.toNatClampNeg))) v tx)) rfl ?_
    exact h6

set_option maxRecDepth 20000 in
theorem b_x_nextDraw_0 (X : mm_X) (d : Nat) (f : Nat → Int32) (fl : Nat → Int64) (g : Nat → Nat → Int32) (gl : Nat → Nat → Int64) (hh : Nat → Nat → Option Nat) (v : Nat → Value) (tx : mm_W) (p0 : Int32)  (P : Option Value → mm_W → Prop)
    (h : P (some (.int (((((((p0 : Int32).toInt64) * (1103 : Int64)) + (12345 : Int64)) - (((((p0 : Int32).toInt64) * (1103 : Int64)) + (12345 : Int64)) / (1000003 : Int64)) * (1000003 : Int64)) : Int64).toInt32))) (Wd f fl g gl hh v tx)) :
    WP X (d) 109 (0, [some (.int p0)], [], Wd f fl g gl hh v tx) P := by
  refine WP.run hP_109 9 (c' := (15, [some (.int p0)], [.int (((((((p0 : Int32).toInt64) * (1103 : Int64)) + (12345 : Int64)) - (((((p0 : Int32).toInt64) * (1103 : Int64)) + (12345 : Int64)) / (1000003 : Int64)) * (1000003 : Int64)) : Int64).toInt32)], Wd f fl g gl hh v tx)) rfl ?_
  exact WP.retI hP_109 rfl rfl h

set_option maxRecDepth 20000 in
theorem b_x_months_0 (X : mm_X) (d : Nat) (f : Nat → Int32) (fl : Nat → Int64) (g : Nat → Nat → Int32) (gl : Nat → Nat → Int64) (hh : Nat → Nat → Option Nat) (v : Nat → Value) (tx : mm_W) (p0 : Int32) (p1 : Int32)  (P : Option Value → mm_W → Prop)
    (h : ((p0 < 0) → P (some (.int (-1))) (Wd (va_up f 18 (-1 : Int32)) fl (va_up g 55 (upd (g 55) (1) (((g 55) 1) + (1 : Int32)))) gl hh v tx)) ∧
    ((¬ (p0 < 0)) → (((1000000 < p0) → P (some (.int (-1))) (Wd (va_up f 18 (-1 : Int32)) fl (va_up g 55 (upd (g 55) (1) (((g 55) 1) + (1 : Int32)))) gl hh v tx)) ∧
      ((¬ (1000000 < p0)) → (((p1 < 1) → P (some (.int (-1))) (Wd (va_up f 18 (-1 : Int32)) fl (va_up g 55 (upd (g 55) (1) (((g 55) 1) + (1 : Int32)))) gl hh v tx)) ∧
        ((¬ (p1 < 1)) → (((p1 ≤ 60) → (((¬ (f 68) = 0) → WP X (d + 1) 45 (0, [some (.ref 19), some (.ref 1), none], [], Wd f fl g gl hh v tx) (fun rv w2 => WP X (d + 2) 93 (56, [some (.ref 0), some (.int p0), some (.int p1), none, none, none, none, none], rv.toList ++ [], w2) P)) ∧
            (((f 68) = 0) → P (some (.int (-3))) (Wd (va_up f 18 (-3 : Int32)) fl (va_up g 55 (upd (g 55) (3) (((g 55) 3) + (1 : Int32)))) gl hh v tx)))) ∧
          ((¬ (p1 ≤ 60)) → P (some (.int (-1))) (Wd (va_up f 18 (-1 : Int32)) fl (va_up g 55 (upd (g 55) (1) (((g 55) 1) + (1 : Int32)))) gl hh v tx))))))))) :
    WP X (d + 2) 93 (0, [some (.ref 0), some (.int p0), some (.int p1), none, none, none, none, none], [], Wd f fl g gl hh v tx) P := by
  refine WP.run hP_93 1 (c' := (1, [some (.ref 0), some (.int p0), some (.int p1), none, none, none, none, none], [.int p0], Wd f fl g gl hh v tx)) rfl ?_
  refine WP.br hP_93 (q := p0 < 0) (t := 22) (f := 4) (L := [some (.ref 0), some (.int p0), some (.int p1), none, none, none, none, none]) (st := []) (w := Wd f fl g gl hh v tx) rfl (fun c1 => ?_) (fun c1 => ?_)
  · have h2 := h.1 c1
    refine WP.run hP_93 2 (c' := (24, [some (.ref 0), none, none, none, none, none, none, none], [.int (-1), .ref 0], Wd f fl g gl hh v tx)) rfl ?_
    refine WP.call hP_93 hP_101 (as := [.ref 0, .int (-1)]) (pc' := 27) (L' := [some (.ref 0), none, none, none, none, none, none, none]) (st' := []) (w1 := Wd f fl g gl hh v tx) rfl ⟨Nat.le_of_ble_eq_true rfl, Nat.le_of_ble_eq_true rfl⟩ rfl (b_x_refused_0 X (d) f fl g gl hh v tx (-1) _ ?_)
    refine ⟨fun c3 => ?_, fun c => absurd c (by decide)⟩
    refine ⟨by decide, ?_⟩
    refine ⟨by decide, ?_⟩
    exact WP.retI hP_93 rfl rfl h2
  · have h4 := h.2 c1
    refine WP.run hP_93 2 (c' := (8, [some (.ref 0), some (.int p0), some (.int p1), none, none, none, none, none], [.int 1000000, .int p0], Wd f fl g gl hh v tx)) rfl ?_
    refine WP.br hP_93 (q := 1000000 < p0) (t := 22) (f := 11) (L := [some (.ref 0), some (.int p0), some (.int p1), none, none, none, none, none]) (st := []) (w := Wd f fl g gl hh v tx) rfl (fun c5 => ?_) (fun c5 => ?_)
    · have h6 := h4.1 c5
      refine WP.run hP_93 2 (c' := (24, [some (.ref 0), none, none, none, none, none, none, none], [.int (-1), .ref 0], Wd f fl g gl hh v tx)) rfl ?_
      refine WP.call hP_93 hP_101 (as := [.ref 0, .int (-1)]) (pc' := 27) (L' := [some (.ref 0), none, none, none, none, none, none, none]) (st' := []) (w1 := Wd f fl g gl hh v tx) rfl ⟨Nat.le_of_ble_eq_true rfl, Nat.le_of_ble_eq_true rfl⟩ rfl (b_x_refused_0 X (d) f fl g gl hh v tx (-1) _ ?_)
      refine ⟨fun c7 => ?_, fun c => absurd c (by decide)⟩
      refine ⟨by decide, ?_⟩
      refine ⟨by decide, ?_⟩
      exact WP.retI hP_93 rfl rfl h6
    · have h8 := h4.2 c5
      refine WP.run hP_93 2 (c' := (13, [some (.ref 0), some (.int p0), some (.int p1), none, none, none, none, none], [.int 1, .int p1], Wd f fl g gl hh v tx)) rfl ?_
      refine WP.br hP_93 (q := p1 < 1) (t := 22) (f := 16) (L := [some (.ref 0), some (.int p0), some (.int p1), none, none, none, none, none]) (st := []) (w := Wd f fl g gl hh v tx) rfl (fun c9 => ?_) (fun c9 => ?_)
      · have h10 := h8.1 c9
        refine WP.run hP_93 2 (c' := (24, [some (.ref 0), none, none, none, none, none, none, none], [.int (-1), .ref 0], Wd f fl g gl hh v tx)) rfl ?_
        refine WP.call hP_93 hP_101 (as := [.ref 0, .int (-1)]) (pc' := 27) (L' := [some (.ref 0), none, none, none, none, none, none, none]) (st' := []) (w1 := Wd f fl g gl hh v tx) rfl ⟨Nat.le_of_ble_eq_true rfl, Nat.le_of_ble_eq_true rfl⟩ rfl (b_x_refused_0 X (d) f fl g gl hh v tx (-1) _ ?_)
        refine ⟨fun c11 => ?_, fun c => absurd c (by decide)⟩
        refine ⟨by decide, ?_⟩
        refine ⟨by decide, ?_⟩
        exact WP.retI hP_93 rfl rfl h10
      · have h12 := h8.2 c9
        refine WP.run hP_93 2 (c' := (19, [some (.ref 0), some (.int p0), some (.int p1), none, none, none, none, none], [.int 60, .int p1], Wd f fl g gl hh v tx)) rfl ?_
        refine WP.br hP_93 (q := p1 ≤ 60) (t := 28) (f := 22) (L := [some (.ref 0), some (.int p0), some (.int p1), none, none, none, none, none]) (st := []) (w := Wd f fl g gl hh v tx) rfl (fun c13 => ?_) (fun c13 => ?_)
        · have h14 := h12.1 c13
          refine WP.run hP_93 3 (c' := (35, [some (.ref 0), some (.int p0), some (.int p1), none, none, none, none, none], [.int (f 68)], Wd f fl g gl hh v tx)) rfl ?_
          refine WP.br hP_93 (q := ¬ (f 68) = 0) (t := 45) (f := 38) (L := [some (.ref 0), some (.int p0), some (.int p1), none, none, none, none, none]) (st := []) (w := Wd f fl g gl hh v tx) rfl (fun c15 => ?_) (fun c15 => ?_)
          · have h16 := h14.1 c15
            refine WP.run hP_93 4 (c' := (53, [some (.ref 0), some (.int p0), some (.int p1), none, none, none, none, none], [.ref 1, .ref 19], Wd f fl g gl hh v tx)) rfl ?_
            refine WP.call hP_93 hP_45 (as := [.ref 19, .ref 1]) (pc' := 56) (L' := [some (.ref 0), some (.int p0), some (.int p1), none, none, none, none, none]) (st' := []) (w1 := Wd f fl g gl hh v tx) rfl ⟨Nat.le_of_ble_eq_true rfl, Nat.le_of_ble_eq_true rfl⟩ rfl ?_
            exact h16
          · have h17 := h14.2 (Classical.not_not.mp c15)
            refine WP.run hP_93 2 (c' := (41, [some (.ref 0), some (.int p0), some (.int p1), none, none, none, none, none], [.int (-3), .ref 0], Wd f fl g gl hh v tx)) rfl ?_
            refine WP.call hP_93 hP_101 (as := [.ref 0, .int (-3)]) (pc' := 44) (L' := [some (.ref 0), some (.int p0), some (.int p1), none, none, none, none, none]) (st' := []) (w1 := Wd f fl g gl hh v tx) rfl ⟨Nat.le_of_ble_eq_true rfl, Nat.le_of_ble_eq_true rfl⟩ rfl (b_x_refused_0 X (d) f fl g gl hh v tx (-3) _ ?_)
            refine ⟨fun c18 => ?_, fun c => absurd c (by decide)⟩
            refine ⟨by decide, ?_⟩
            refine ⟨by decide, ?_⟩
            exact WP.retI hP_93 rfl rfl h17
        · have h19 := h12.2 c13
          refine WP.run hP_93 2 (c' := (24, [some (.ref 0), none, none, none, none, none, none, none], [.int (-1), .ref 0], Wd f fl g gl hh v tx)) rfl ?_
          refine WP.call hP_93 hP_101 (as := [.ref 0, .int (-1)]) (pc' := 27) (L' := [some (.ref 0), none, none, none, none, none, none, none]) (st' := []) (w1 := Wd f fl g gl hh v tx) rfl ⟨Nat.le_of_ble_eq_true rfl, Nat.le_of_ble_eq_true rfl⟩ rfl (b_x_refused_0 X (d) f fl g gl hh v tx (-1) _ ?_)
          refine ⟨fun c20 => ?_, fun c => absurd c (by decide)⟩
          refine ⟨by decide, ?_⟩
          refine ⟨by decide, ?_⟩
          exact WP.retI hP_93 rfl rfl h19

set_option maxRecDepth 20000 in
theorem b_x_months_56 (X : mm_X) (d : Nat) (f : Nat → Int32) (fl : Nat → Int64) (g : Nat → Nat → Int32) (gl : Nat → Nat → Int64) (hh : Nat → Nat → Option Nat) (v : Nat → Value) (tx : mm_W) (l1 : Int32) (l2 : Int32)  (P : Option Value → mm_W → Prop)
    (h : WP X (d) 93 (64, [some (.ref 0), none, some (.int l2), some (.int l1), some (.int 0), some (.int 0), none, none], [], Wd f fl g gl hh v tx) P) :
    WP X (d) 93 (56, [some (.ref 0), some (.int l1), some (.int l2), none, none, none, none, none], [], Wd f fl g gl hh v tx) P := by
  refine WP.run hP_93 3 (c' := (59, [some (.ref 0), some (.int l1), some (.int l2), some (.int l1), none, none, none, none], [.int 0], Wd f fl g gl hh v tx)) rfl ?_
  refine WP.run hP_93 2 (c' := (62, [some (.ref 0), some (.int l1), some (.int l2), some (.int l1), some (.int 0), none, none, none], [.int 0], Wd f fl g gl hh v tx)) rfl ?_
  refine WP.run hP_93 1 (c' := (64, [some (.ref 0), some (.int l1), some (.int l2), some (.int l1), some (.int 0), some (.int 0), none, none], [], Wd f fl g gl hh v tx)) rfl ?_
  refine WP.clr hP_93 (pc := 64) rfl ?_
  exact h

set_option maxRecDepth 20000 in
theorem b_x_months_64 (X : mm_X) (d : Nat) (f : Nat → Int32) (fl : Nat → Int64) (g : Nat → Nat → Int32) (gl : Nat → Nat → Int64) (hh : Nat → Nat → Option Nat) (v : Nat → Value) (tx : mm_W) (l2 : Int32) (l3 : Int32) (l4 : Int32) (l5 : Int32)  (P : Option Value → mm_W → Prop)
    (h : ((l2 ≤ l5) → P (some (.int l4)) (Wd (va_up f 18 0) fl g gl hh v tx)) ∧
    ((¬ (l2 ≤ l5)) → (((999 ≤ ((g 26) 0)) → P (some (.int l4)) (Wd (va_up f 18 0) fl g gl hh v tx)) ∧
      ((¬ (999 ≤ ((g 26) 0))) → (((12 ≤ (f 1222)) → WP X (d + 1) 93 (112, [some (.ref 0), none, some (.int l2), some (.int (((((((l3 : Int32).toInt64) * (1103 : Int64)) + (12345 : Int64)) - (((((l3 : Int32).toInt64) * (1103 : Int64)) + (12345 : Int64)) / (1000003 : Int64)) * (1000003 : Int64)) : Int64).toInt32)), some (.int l4), some (.int l5), none, none], [], Wd f fl g gl hh v tx) P) ∧
        ((¬ (12 ≤ (f 1222))) → WP X (d + 1) 93 (112, [some (.ref 0), none, some (.int l2), some (.int (((((((l3 : Int32).toInt64) * (1103 : Int64)) + (12345 : Int64)) - (((((l3 : Int32).toInt64) * (1103 : Int64)) + (12345 : Int64)) / (1000003 : Int64)) * (1000003 : Int64)) : Int64).toInt32)), some (.int l4), some (.int l5), none, none], [], Wd (va_up (va_up f 1223 ((((f 1223) <<< ((2 : Int32) &&& (31 : Int32))) : Int32) ||| ((((((((l3 : Int32).toInt64) * (1103 : Int64)) + (12345 : Int64)) - (((((l3 : Int32).toInt64) * (1103 : Int64)) + (12345 : Int64)) / (1000003 : Int64)) * (1000003 : Int64)) : Int64).toInt32) - ((((((((l3 : Int32).toInt64) * (1103 : Int64)) + (12345 : Int64)) - (((((l3 : Int32).toInt64) * (1103 : Int64)) + (12345 : Int64)) / (1000003 : Int64)) * (1000003 : Int64)) : Int64).toInt32) / (4 : Int32)) * (4 : Int32)))) 1222 ((f 1222) + (1 : Int32))) fl g gl hh v tx) P)))))) :
    WP X (d + 1) 93 (64, [some (.ref 0), none, some (.int l2), some (.int l3), some (.int l4), some (.int l5), none, none], [], Wd f fl g gl hh v tx) P := by
  refine WP.run hP_93 2 (c' := (67, [some (.ref 0), none, some (.int l2), some (.int l3), some (.int l4), some (.int l5), none, none], [.int l2, .int l5], Wd f fl g gl hh v tx)) rfl ?_
  refine WP.br hP_93 (q := l2 ≤ l5) (t := 238) (f := 70) (L := [some (.ref 0), none, some (.int l2), some (.int l3), some (.int l4), some (.int l5), none, none]) (st := []) (w := Wd f fl g gl hh v tx) rfl (fun c1 => ?_) (fun c1 => ?_)
  · have h2 := h.1 c1
    refine WP.run hP_93 2 (c' := (241, [some (.ref 0), none, none, none, some (.int l4), none, none, none], [.int l4, .ref 0], Wd f fl g gl hh v tx)) rfl ?_
    refine WP.call hP_93 hP_100 (as := [.ref 0, .int l4]) (pc' := 244) (L' := [some (.ref 0), none, none, none, some (.int l4), none, none, none]) (st' := []) (w1 := Wd f fl g gl hh v tx) rfl ⟨Nat.le_of_ble_eq_true rfl, Nat.le_of_ble_eq_true rfl⟩ rfl (b_x_accepted_0 X (d) f fl g gl hh v tx l4 _ ?_)
    exact WP.retI hP_93 rfl rfl h2
  · have h3 := h.2 c1
    refine WP.run hP_93 4 (c' := (78, [some (.ref 0), none, some (.int l2), some (.int l3), some (.int l4), some (.int l5), none, none], [.int 0, .ref 26], Wd f fl g gl hh v tx)) rfl ?_
    refine WP.of (fun _ _ => Ex.iald hP_93 rfl (Wa_26 _ _ _ _ _ _ _) (by decide)) ?_
    show WP X _ 93 (79, [some (.ref 0), none, some (.int l2), some (.int l3), some (.int l4), some (.int l5), none, none], [.int ((g 26) 0)], Wd f fl g gl hh v tx) P
    refine WP.run hP_93 1 (c' := (82, [some (.ref 0), none, some (.int l2), some (.int l3), some (.int l4), some (.int l5), none, none], [.int 999, .int ((g 26) 0)], Wd f fl g gl hh v tx)) rfl ?_
    refine WP.br hP_93 (q := 999 ≤ ((g 26) 0)) (t := 238) (f := 85) (L := [some (.ref 0), none, some (.int l2), some (.int l3), some (.int l4), some (.int l5), none, none]) (st := []) (w := Wd f fl g gl hh v tx) rfl (fun c4 => ?_) (fun c4 => ?_)
    · have h5 := h3.1 c4
      refine WP.run hP_93 2 (c' := (241, [some (.ref 0), none, none, none, some (.int l4), none, none, none], [.int l4, .ref 0], Wd f fl g gl hh v tx)) rfl ?_
      refine WP.call hP_93 hP_100 (as := [.ref 0, .int l4]) (pc' := 244) (L' := [some (.ref 0), none, none, none, some (.int l4), none, none, none]) (st' := []) (w1 := Wd f fl g gl hh v tx) rfl ⟨Nat.le_of_ble_eq_true rfl, Nat.le_of_ble_eq_true rfl⟩ rfl (b_x_accepted_0 X (d) f fl g gl hh v tx l4 _ ?_)
      exact WP.retI hP_93 rfl rfl h5
    · have h6 := h3.2 c4
      refine WP.run hP_93 1 (c' := (86, [some (.ref 0), none, some (.int l2), some (.int l3), some (.int l4), some (.int l5), none, none], [.int l3], Wd f fl g gl hh v tx)) rfl ?_
      refine WP.call hP_93 hP_109 (as := [.int l3]) (pc' := 89) (L' := [some (.ref 0), none, some (.int l2), some (.int l3), some (.int l4), some (.int l5), none, none]) (st' := []) (w1 := Wd f fl g gl hh v tx) rfl ⟨Nat.le_of_ble_eq_true rfl, Nat.le_of_ble_eq_true rfl⟩ rfl (b_x_nextDraw_0 X (d) f fl g gl hh v tx l3 _ ?_)
      refine WP.run hP_93 5 (c' := (99, [some (.ref 0), none, some (.int l2), some (.int (((((((l3 : Int32).toInt64) * (1103 : Int64)) + (12345 : Int64)) - (((((l3 : Int32).toInt64) * (1103 : Int64)) + (12345 : Int64)) / (1000003 : Int64)) * (1000003 : Int64)) : Int64).toInt32)), some (.int l4), some (.int l5), none, none], [.int 12, .int (f 1222)], Wd f fl g gl hh v tx)) rfl ?_
      refine WP.br hP_93 (q := 12 ≤ (f 1222)) (t := 112) (f := 102) (L := [some (.ref 0), none, some (.int l2), some (.int (((((((l3 : Int32).toInt64) * (1103 : Int64)) + (12345 : Int64)) - (((((l3 : Int32).toInt64) * (1103 : Int64)) + (12345 : Int64)) / (1000003 : Int64)) * (1000003 : Int64)) : Int64).toInt32)), some (.int l4), some (.int l5), none, none]) (st := []) (w := Wd f fl g gl hh v tx) rfl (fun c7 => ?_) (fun c7 => ?_)
      · have h8 := h6.1 c7
        exact h8
      · have h9 := h6.2 c7
        refine WP.run hP_93 5 (c' := (109, [some (.ref 0), none, some (.int l2), some (.int (((((((l3 : Int32).toInt64) * (1103 : Int64)) + (12345 : Int64)) - (((((l3 : Int32).toInt64) * (1103 : Int64)) + (12345 : Int64)) / (1000003 : Int64)) * (1000003 : Int64)) : Int64).toInt32)), some (.int l4), some (.int l5), none, none], [.int ((((((((l3 : Int32).toInt64) * (1103 : Int64)) + (12345 : Int64)) - (((((l3 : Int32).toInt64) * (1103 : Int64)) + (12345 : Int64)) / (1000003 : Int64)) * (1000003 : Int64)) : Int64).toInt32) - ((((((((l3 : Int32).toInt64) * (1103 : Int64)) + (12345 : Int64)) - (((((l3 : Int32).toInt64) * (1103 : Int64)) + (12345 : Int64)) / (1000003 : Int64)) * (1000003 : Int64)) : Int64).toInt32) / (4 : Int32)) * (4 : Int32)), .ref 19], Wd f fl g gl hh v tx)) rfl ?_
        refine WP.call hP_93 hP_49 (as := [.ref 19, .int ((((((((l3 : Int32).toInt64) * (1103 : Int64)) + (12345 : Int64)) - (((((l3 : Int32).toInt64) * (1103 : Int64)) + (12345 : Int64)) / (1000003 : Int64)) * (1000003 : Int64)) : Int64).toInt32) - ((((((((l3 : Int32).toInt64) * (1103 : Int64)) + (12345 : Int64)) - (((((l3 : Int32).toInt64) * (1103 : Int64)) + (12345 : Int64)) / (1000003 : Int64)) * (1000003 : Int64)) : Int64).toInt32) / (4 : Int32)) * (4 : Int32))]) (pc' := 112) (L' := [some (.ref 0), none, some (.int l2), some (.int (((((((l3 : Int32).toInt64) * (1103 : Int64)) + (12345 : Int64)) - (((((l3 : Int32).toInt64) * (1103 : Int64)) + (12345 : Int64)) / (1000003 : Int64)) * (1000003 : Int64)) : Int64).toInt32)), some (.int l4), some (.int l5), none, none]) (st' := []) (w1 := Wd f fl g gl hh v tx) rfl ⟨Nat.le_of_ble_eq_true rfl, Nat.le_of_ble_eq_true rfl⟩ rfl (b_yst_add_19_0 X (d) f fl g gl hh v tx ((((((((l3 : Int32).toInt64) * (1103 : Int64)) + (12345 : Int64)) - (((((l3 : Int32).toInt64) * (1103 : Int64)) + (12345 : Int64)) / (1000003 : Int64)) * (1000003 : Int64)) : Int64).toInt32) - ((((((((l3 : Int32).toInt64) * (1103 : Int64)) + (12345 : Int64)) - (((((l3 : Int32).toInt64) * (1103 : Int64)) + (12345 : Int64)) / (1000003 : Int64)) * (1000003 : Int64)) : Int64).toInt32) / (4 : Int32)) * (4 : Int32)) _ ?_)
        exact h9

set_option maxRecDepth 20000 in
theorem b_x_months_112 (X : mm_X) (d : Nat) (f : Nat → Int32) (fl : Nat → Int64) (g : Nat → Nat → Int32) (gl : Nat → Nat → Int64) (hh : Nat → Nat → Option Nat) (v : Nat → Value) (tx : mm_W) (l2 : Int32) (l3 : Int32) (l4 : Int32) (l5 : Int32) (t0 : Nat)  (P : Option Value → mm_W → Prop)
    (h : (¬ (f 68) = 0) ∧ (((0 ≤ (f 1228) ∧ (f 1228) < (f 1226)) → ((¬ ((f 1228) < 0 ∨ 6 ≤ (f 1228).toNatClampNeg)) ∧ (((mm_rf ((hh 25) (f 1228).toNatClampNeg)) = .ref t0) ∧ WP X (d + 1) 7 (0, [some (.ref 38), some (.ref 19), some (.int ((((((((l3 : Int32).toInt64) * (1103 : Int64)) + (12345 : Int64)) - (((((l3 : Int32).toInt64) * (1103 : Int64)) + (12345 : Int64)) / (1000003 : Int64)) * (1000003 : Int64)) : Int64).toInt32) - ((((((((l3 : Int32).toInt64) * (1103 : Int64)) + (12345 : Int64)) - (((((l3 : Int32).toInt64) * (1103 : Int64)) + (12345 : Int64)) / (1000003 : Int64)) * (1000003 : Int64)) : Int64).toInt32) / (f 68)) * (f 68))), some (.ref t0), none], [], Wd f fl g gl hh v tx) (fun rv w2 => WP X (d + 2) 93 (148, [some (.ref 0), none, some (.int l2), some (.int (((((((l3 : Int32).toInt64) * (1103 : Int64)) + (12345 : Int64)) - (((((l3 : Int32).toInt64) * (1103 : Int64)) + (12345 : Int64)) / (1000003 : Int64)) * (1000003 : Int64)) : Int64).toInt32)), some (.int l4), some (.int l5), some (.int ((((((((l3 : Int32).toInt64) * (1103 : Int64)) + (12345 : Int64)) - (((((l3 : Int32).toInt64) * (1103 : Int64)) + (12345 : Int64)) / (1000003 : Int64)) * (1000003 : Int64)) : Int64).toInt32) - ((((((((l3 : Int32).toInt64) * (1103 : Int64)) + (12345 : Int64)) - (((((l3 : Int32).toInt64) * (1103 : Int64)) + (12345 : Int64)) / (1000003 : Int64)) * (1000003 : Int64)) : Int64).toInt32) / (f 68)) * (f 68))), none], rv.toList ++ [], w2) P)))) ∧
    ((¬ (0 ≤ (f 1228) ∧ (f 1228) < (f 1226))) → WP X (d + 1) 7 (0, [some (.ref 38), some (.ref 19), some (.int ((((((((l3 : Int32).toInt64) * (1103 : Int64)) + (12345 : Int64)) - (((((l3 : Int32).toInt64) * (1103 : Int64)) + (12345 : Int64)) / (1000003 : Int64)) * (1000003 : Int64)) : Int64).toInt32) - ((((((((l3 : Int32).toInt64) * (1103 : Int64)) + (12345 : Int64)) - (((((l3 : Int32).toInt64) * (1103 : Int64)) + (12345 : Int64)) / (1000003 : Int64)) * (1000003 : Int64)) : Int64).toInt32) / (f 68)) * (f 68))), some (.null), none], [], Wd f fl g gl hh v tx) (fun rv w2 => WP X (d + 2) 93 (148, [some (.ref 0), none, some (.int l2), some (.int (((((((l3 : Int32).toInt64) * (1103 : Int64)) + (12345 : Int64)) - (((((l3 : Int32).toInt64) * (1103 : Int64)) + (12345 : Int64)) / (1000003 : Int64)) * (1000003 : Int64)) : Int64).toInt32)), some (.int l4), some (.int l5), some (.int ((((((((l3 : Int32).toInt64) * (1103 : Int64)) + (12345 : Int64)) - (((((l3 : Int32).toInt64) * (1103 : Int64)) + (12345 : Int64)) / (1000003 : Int64)) * (1000003 : Int64)) : Int64).toInt32) - ((((((((l3 : Int32).toInt64) * (1103 : Int64)) + (12345 : Int64)) - (((((l3 : Int32).toInt64) * (1103 : Int64)) + (12345 : Int64)) / (1000003 : Int64)) * (1000003 : Int64)) : Int64).toInt32) / (f 68)) * (f 68))), none], rv.toList ++ [], w2) P)))) :
    WP X (d + 2) 93 (112, [some (.ref 0), none, some (.int l2), some (.int l3), some (.int l4), some (.int l5), none, none], [], Wd f fl g gl hh v tx) P := by
  refine WP.run hP_93 1 (c' := (113, [some (.ref 0), none, some (.int l2), some (.int l3), some (.int l4), some (.int l5), none, none], [.int l3], Wd f fl g gl hh v tx)) rfl ?_
  refine WP.call hP_93 hP_109 (as := [.int l3]) (pc' := 116) (L' := [some (.ref 0), none, some (.int l2), some (.int l3), some (.int l4), some (.int l5), none, none]) (st' := []) (w1 := Wd f fl g gl hh v tx) rfl ⟨Nat.le_of_ble_eq_true rfl, Nat.le_of_ble_eq_true rfl⟩ rfl (b_x_nextDraw_0 X (d + 1) f fl g gl hh v tx l3 _ ?_)
  refine WP.run hP_93 5 (c' := (125, [some (.ref 0), none, some (.int l2), some (.int (((((((l3 : Int32).toInt64) * (1103 : Int64)) + (12345 : Int64)) - (((((l3 : Int32).toInt64) * (1103 : Int64)) + (12345 : Int64)) / (1000003 : Int64)) * (1000003 : Int64)) : Int64).toInt32)), some (.int l4), some (.int l5), none, none], [.int (f 68), .int (((((((l3 : Int32).toInt64) * (1103 : Int64)) + (12345 : Int64)) - (((((l3 : Int32).toInt64) * (1103 : Int64)) + (12345 : Int64)) / (1000003 : Int64)) * (1000003 : Int64)) : Int64).toInt32)], Wd f fl g gl hh v tx)) rfl ?_
  refine WP.of (fun _ _ => Ex.irem hP_93 rfl h.1) ?_
  have h1 := h.2
  refine WP.run hP_93 8 (c' := (142, [some (.ref 0), none, some (.int l2), some (.int (((((((l3 : Int32).toInt64) * (1103 : Int64)) + (12345 : Int64)) - (((((l3 : Int32).toInt64) * (1103 : Int64)) + (12345 : Int64)) / (1000003 : Int64)) * (1000003 : Int64)) : Int64).toInt32)), some (.int l4), some (.int l5), some (.int ((((((((l3 : Int32).toInt64) * (1103 : Int64)) + (12345 : Int64)) - (((((l3 : Int32).toInt64) * (1103 : Int64)) + (12345 : Int64)) / (1000003 : Int64)) * (1000003 : Int64)) : Int64).toInt32) - ((((((((l3 : Int32).toInt64) * (1103 : Int64)) + (12345 : Int64)) - (((((l3 : Int32).toInt64) * (1103 : Int64)) + (12345 : Int64)) / (1000003 : Int64)) * (1000003 : Int64)) : Int64).toInt32) / (f 68)) * (f 68))), none], [.ref 19, .int ((((((((l3 : Int32).toInt64) * (1103 : Int64)) + (12345 : Int64)) - (((((l3 : Int32).toInt64) * (1103 : Int64)) + (12345 : Int64)) / (1000003 : Int64)) * (1000003 : Int64)) : Int64).toInt32) - ((((((((l3 : Int32).toInt64) * (1103 : Int64)) + (12345 : Int64)) - (((((l3 : Int32).toInt64) * (1103 : Int64)) + (12345 : Int64)) / (1000003 : Int64)) * (1000003 : Int64)) : Int64).toInt32) / (f 68)) * (f 68)), .ref 19, .ref 38], Wd f fl g gl hh v tx)) rfl ?_
  refine WP.call hP_93 hP_46 (as := [.ref 19]) (pc' := 145) (L' := [some (.ref 0), none, some (.int l2), some (.int (((((((l3 : Int32).toInt64) * (1103 : Int64)) + (12345 : Int64)) - (((((l3 : Int32).toInt64) * (1103 : Int64)) + (12345 : Int64)) / (1000003 : Int64)) * (1000003 : Int64)) : Int64).toInt32)), some (.int l4), some (.int l5), some (.int ((((((((l3 : Int32).toInt64) * (1103 : Int64)) + (12345 : Int64)) - (((((l3 : Int32).toInt64) * (1103 : Int64)) + (12345 : Int64)) / (1000003 : Int64)) * (1000003 : Int64)) : Int64).toInt32) - ((((((((l3 : Int32).toInt64) * (1103 : Int64)) + (12345 : Int64)) - (((((l3 : Int32).toInt64) * (1103 : Int64)) + (12345 : Int64)) / (1000003 : Int64)) * (1000003 : Int64)) : Int64).toInt32) / (f 68)) * (f 68))), none]) (st' := [.int ((((((((l3 : Int32).toInt64) * (1103 : Int64)) + (12345 : Int64)) - (((((l3 : Int32).toInt64) * (1103 : Int64)) + (12345 : Int64)) / (1000003 : Int64)) * (1000003 : Int64)) : Int64).toInt32) - ((((((((l3 : Int32).toInt64) * (1103 : Int64)) + (12345 : Int64)) - (((((l3 : Int32).toInt64) * (1103 : Int64)) + (12345 : Int64)) / (1000003 : Int64)) * (1000003 : Int64)) : Int64).toInt32) / (f 68)) * (f 68)), .ref 19, .ref 38]) (w1 := Wd f fl g gl hh v tx) rfl ⟨Nat.le_of_ble_eq_true rfl, Nat.le_of_ble_eq_true rfl⟩ rfl (b_yst_lawInForce_19_0 X (d) f fl g gl hh v tx  _ ?_)
  refine ⟨fun c2 => ?_, fun c2 => ?_⟩
  · have h3 := h1.1 c2
    refine ⟨h3.1, ?_⟩
    have h4 := h3.2
    rw [h4.1]
    have h5 := h4.2
    refine WP.call hP_93 hP_7 (as := [.ref 38, .ref 19, .int ((((((((l3 : Int32).toInt64) * (1103 : Int64)) + (12345 : Int64)) - (((((l3 : Int32).toInt64) * (1103 : Int64)) + (12345 : Int64)) / (1000003 : Int64)) * (1000003 : Int64)) : Int64).toInt32) - ((((((((l3 : Int32).toInt64) * (1103 : Int64)) + (12345 : Int64)) - (((((l3 : Int32).toInt64) * (1103 : Int64)) + (12345 : Int64)) / (1000003 : Int64)) * (1000003 : Int64)) : Int64).toInt32) / (f 68)) * (f 68)), .ref t0]) (pc' := 148) (L' := [some (.ref 0), none, some (.int l2), some (.int (((((((l3 : Int32).toInt64) * (1103 : Int64)) + (12345 : Int64)) - (((((l3 : Int32).toInt64) * (1103 : Int64)) + (12345 : Int64)) / (1000003 : Int64)) * (1000003 : Int64)) : Int64).toInt32)), some (.int l4), some (.int l5), some (.int ((((((((l3 : Int32).toInt64) * (1103 : Int64)) + (12345 : Int64)) - (((((l3 : Int32).toInt64) * (1103 : Int64)) + (12345 : Int64)) / (1000003 : Int64)) * (1000003 : Int64)) : Int64).toInt32) - ((((((((l3 : Int32).toInt64) * (1103 : Int64)) + (12345 : Int64)) - (((((l3 : Int32).toInt64) * (1103 : Int64)) + (12345 : Int64)) / (1000003 : Int64)) * (1000003 : Int64)) : Int64).toInt32) / (f 68)) * (f 68))), none]) (st' := []) (w1 := Wd f fl g gl hh v tx) rfl ⟨Nat.le_of_ble_eq_true rfl, Nat.le_of_ble_eq_true rfl⟩ rfl ?_
    exact h5
  · have h6 := h1.2 c2
    refine WP.call hP_93 hP_7 (as := [.ref 38, .ref 19, .int ((((((((l3 : Int32).toInt64) * (1103 : Int64)) + (12345 : Int64)) - (((((l3 : Int32).toInt64) * (1103 : Int64)) + (12345 : Int64)) / (1000003 : Int64)) * (1000003 : Int64)) : Int64).toInt32) - ((((((((l3 : Int32).toInt64) * (1103 : Int64)) + (12345 : Int64)) - (((((l3 : Int32).toInt64) * (1103 : Int64)) + (12345 : Int64)) / (1000003 : Int64)) * (1000003 : Int64)) : Int64).toInt32) / (f 68)) * (f 68)), .null]) (pc' := 148) (L' := [some (.ref 0), none, some (.int l2), some (.int (((((((l3 : Int32).toInt64) * (1103 : Int64)) + (12345 : Int64)) - (((((l3 : Int32).toInt64) * (1103 : Int64)) + (12345 : Int64)) / (1000003 : Int64)) * (1000003 : Int64)) : Int64).toInt32)), some (.int l4), some (.int l5), some (.int ((((((((l3 : Int32).toInt64) * (1103 : Int64)) + (12345 : Int64)) - (((((l3 : Int32).toInt64) * (1103 : Int64)) + (12345 : Int64)) / (1000003 : Int64)) * (1000003 : Int64)) : Int64).toInt32) - ((((((((l3 : Int32).toInt64) * (1103 : Int64)) + (12345 : Int64)) - (((((l3 : Int32).toInt64) * (1103 : Int64)) + (12345 : Int64)) / (1000003 : Int64)) * (1000003 : Int64)) : Int64).toInt32) / (f 68)) * (f 68))), none]) (st' := []) (w1 := Wd f fl g gl hh v tx) rfl ⟨Nat.le_of_ble_eq_true rfl, Nat.le_of_ble_eq_true rfl⟩ rfl ?_
    exact h6

set_option maxRecDepth 20000 in
theorem b_x_months_148 (X : mm_X) (d : Nat) (f : Nat → Int32) (fl : Nat → Int64) (g : Nat → Nat → Int32) (gl : Nat → Nat → Int64) (hh : Nat → Nat → Option Nat) (v : Nat → Value) (tx : mm_W) (l2 : Int32) (l3 : Int32) (l4 : Int32) (l5 : Int32) (l6 : Int32) (s0 : Int32)  (P : Option Value → mm_W → Prop)
    (h : ((s0 = 0) → WP X (d + 1) 93 (186, [some (.ref 0), none, some (.int l2), some (.int l3), some (.int l4), some (.int l5), none, some (.int s0)], [], Wd f fl g gl hh v tx) P) ∧
    ((¬ s0 = 0) → WP X (d) 11 (0, [some (.ref 38), some (.ref 19), none, none], [], Wd f fl g gl hh v tx) (fun rv w2 => WP X (d + 1) 93 (166, [some (.ref 0), none, some (.int l2), some (.int l3), some (.int l4), some (.int l5), some (.int l6), some (.int s0)], rv.toList ++ [], w2) P))) :
    WP X (d + 1) 93 (148, [some (.ref 0), none, some (.int l2), some (.int l3), some (.int l4), some (.int l5), some (.int l6), none], [.int s0], Wd f fl g gl hh v tx) P := by
  refine WP.run hP_93 2 (c' := (152, [some (.ref 0), none, some (.int l2), some (.int l3), some (.int l4), some (.int l5), some (.int l6), some (.int s0)], [.int s0], Wd f fl g gl hh v tx)) rfl ?_
  refine WP.br hP_93 (q := s0 = 0) (t := 186) (f := 155) (L := [some (.ref 0), none, some (.int l2), some (.int l3), some (.int l4), some (.int l5), some (.int l6), some (.int s0)]) (st := []) (w := Wd f fl g gl hh v tx) rfl (fun c1 => ?_) (fun c1 => ?_)
  · have h2 := h.1 c1
    refine WP.clr hP_93 (pc := 186) rfl ?_
    exact h2
  · have h3 := h.2 c1
    refine WP.run hP_93 4 (c' := (163, [some (.ref 0), none, some (.int l2), some (.int l3), some (.int l4), some (.int l5), some (.int l6), some (.int s0)], [.ref 19, .ref 38], Wd f fl g gl hh v tx)) rfl ?_
    refine WP.call hP_93 hP_11 (as := [.ref 38, .ref 19]) (pc' := 166) (L' := [some (.ref 0), none, some (.int l2), some (.int l3), some (.int l4), some (.int l5), some (.int l6), some (.int s0)]) (st' := []) (w1 := Wd f fl g gl hh v tx) rfl ⟨Nat.le_of_ble_eq_true rfl, Nat.le_of_ble_eq_true rfl⟩ rfl ?_
    exact h3

set_option maxRecDepth 20000 in
theorem b_x_months_186 (X : mm_X) (d : Nat) (f : Nat → Int32) (fl : Nat → Int64) (g : Nat → Nat → Int32) (gl : Nat → Nat → Int64) (hh : Nat → Nat → Option Nat) (v : Nat → Value) (tx : mm_W) (l2 : Int32) (l3 : Int32) (l4 : Int32) (l5 : Int32) (l7 : Int32)  (P : Option Value → mm_W → Prop)
    (h : ((¬ l7 = 0) → WP X (d) 93 (203, [some (.ref 0), none, some (.int l2), some (.int l3), some (.int l4), some (.int l5), none, none], [], Wd f fl g gl hh v tx) P) ∧
    ((l7 = 0) → ((((f 1222) < 12) → WP X (d) 93 (64, [some (.ref 0), none, some (.int l2), some (.int l3), some (.int l4), some (.int (l5 + (1 : Int32))), none, none], [], Wd f fl (va_up g 26 (upd (g 26) 0 (((g 26) 0) + (1 : Int32)))) gl hh v tx) P) ∧
      ((¬ ((f 1222) < 12)) → WP X (d) 93 (203, [some (.ref 0), none, some (.int l2), some (.int l3), some (.int l4), some (.int l5), none, none], [], Wd f fl g gl hh v tx) P)))) :
    WP X (d) 93 (186, [some (.ref 0), none, some (.int l2), some (.int l3), some (.int l4), some (.int l5), none, some (.int l7)], [], Wd f fl g gl hh v tx) P := by
  refine WP.run hP_93 1 (c' := (188, [some (.ref 0), none, some (.int l2), some (.int l3), some (.int l4), some (.int l5), none, some (.int l7)], [.int l7], Wd f fl g gl hh v tx)) rfl ?_
  refine WP.br hP_93 (q := ¬ l7 = 0) (t := 203) (f := 191) (L := [some (.ref 0), none, some (.int l2), some (.int l3), some (.int l4), some (.int l5), none, some (.int l7)]) (st := []) (w := Wd f fl g gl hh v tx) rfl (fun c1 => ?_) (fun c1 => ?_)
  · have h2 := h.1 c1
    refine WP.clr hP_93 (pc := 203) rfl ?_
    exact h2
  · have h3 := h.2 (Classical.not_not.mp c1)
    refine WP.run hP_93 4 (c' := (200, [some (.ref 0), none, some (.int l2), some (.int l3), some (.int l4), some (.int l5), none, some (.int l7)], [.int 12, .int (f 1222)], Wd f fl g gl hh v tx)) rfl ?_
    refine WP.br hP_93 (q := (f 1222) < 12) (t := 219) (f := 203) (L := [some (.ref 0), none, some (.int l2), some (.int l3), some (.int l4), some (.int l5), none, some (.int l7)]) (st := []) (w := Wd f fl g gl hh v tx) rfl (fun c4 => ?_) (fun c4 => ?_)
    · have h5 := h3.1 c4
      refine WP.run hP_93 5 (c' := (228, [some (.ref 0), none, some (.int l2), some (.int l3), some (.int l4), some (.int l5), none, none], [.int 0, .ref 26, .int 0, .ref 26], Wd f fl g gl hh v tx)) rfl ?_
      refine WP.of (fun _ _ => Ex.iald hP_93 rfl (Wa_26 _ _ _ _ _ _ _) (by decide)) ?_
      show WP X _ 93 (229, [some (.ref 0), none, some (.int l2), some (.int l3), some (.int l4), some (.int l5), none, none], [.int ((g 26) 0), .int 0, .ref 26], Wd f fl g gl hh v tx) P
      refine WP.run hP_93 2 (c' := (231, [some (.ref 0), none, some (.int l2), some (.int l3), some (.int l4), some (.int l5), none, none], [.int (((g 26) 0) + (1 : Int32)), .int 0, .ref 26], Wd f fl g gl hh v tx)) rfl ?_
      refine WP.of (fun _ _ => Ex.iast hP_93 (w2 := Wd f fl (va_up g 26 (upd (g 26) 0 (((g 26) 0) + (1 : Int32)))) gl hh v tx) rfl (Wa_26 _ _ _ _ _ _ _) (by decide) (Ws_26 _ _ _ _ _ _ _ _)) ?_
      refine WP.run hP_93 2 (c' := (64, [some (.ref 0), none, some (.int l2), some (.int l3), some (.int l4), some (.int (l5 + (1 : Int32))), none, none], [], Wd f fl (va_up g 26 (upd (g 26) 0 (((g 26) 0) + (1 : Int32)))) gl hh v tx)) rfl ?_
      exact h5
    · have h6 := h3.2 c4
      refine WP.clr hP_93 (pc := 203) rfl ?_
      exact h6

set_option maxRecDepth 20000 in
theorem b_x_months_166 (X : mm_X) (d : Nat) (f : Nat → Int32) (fl : Nat → Int64) (g : Nat → Nat → Int32) (gl : Nat → Nat → Int64) (hh : Nat → Nat → Option Nat) (v : Nat → Value) (tx : mm_W) (l2 : Int32) (l3 : Int32) (l4 : Int32) (l5 : Int32) (l6 : Int32) (l7 : Int32)  (P : Option Value → mm_W → Prop)
    (h : (¬ (l6 < 0 ∨ 3 ≤ l6.toNatClampNeg)) ∧ WP X (d) 93 (186, [some (.ref 0), none, some (.int l2), some (.int l3), some (.int (l4 + (1 : Int32))), some (.int l5), none, some (.int l7)], [], Wd f fl (va_up g 23 (upd (g 23) (l6.toNatClampNeg) (f 2440))) gl hh v tx) P) :
    WP X (d) 93 (166, [some (.ref 0), none, some (.int l2), some (.int l3), some (.int l4), some (.int l5), some (.int l6), some (.int l7)], [], Wd f fl g gl hh v tx) P := by
  refine WP.run hP_93 7 (c' := (182, [some (.ref 0), none, some (.int l2), some (.int l3), some (.int l4), some (.int l5), some (.int l6), some (.int l7)], [.int (f 2440), .int l6, .ref 23], Wd f fl g gl hh v tx)) rfl ?_
  refine WP.of (fun _ _ => Ex.iast hP_93 (w2 := Wd f fl (va_up g 23 (upd (g 23) (l6.toNatClampNeg) (f 2440))) gl hh v tx) rfl (Wa_23 _ _ _ _ _ _ _) h.1 (Ws_23 _ _ _ _ _ _ _ _)) ?_
  have h1 := h.2
  refine WP.run hP_93 1 (c' := (186, [some (.ref 0), none, some (.int l2), some (.int l3), some (.int (l4 + (1 : Int32))), some (.int l5), some (.int l6), some (.int l7)], [], Wd f fl (va_up g 23 (upd (g 23) (l6.toNatClampNeg) (f 2440))) gl hh v tx)) rfl ?_
  refine WP.clr hP_93 (pc := 186) rfl ?_
  exact h1

set_option maxRecDepth 20000 in
theorem b_x_months_203 (X : mm_X) (d : Nat) (f : Nat → Int32) (fl : Nat → Int64) (g : Nat → Nat → Int32) (gl : Nat → Nat → Int64) (hh : Nat → Nat → Option Nat) (v : Nat → Value) (tx : mm_W) (l2 : Int32) (l3 : Int32) (l4 : Int32) (l5 : Int32)  (P : Option Value → mm_W → Prop)
    (h : WP X (d) 93 (64, [some (.ref 0), none, some (.int l2), some (.int l3), some (.int l4), some (.int (l5 + (1 : Int32))), none, none], [], Wd (va_up (va_up f 1222 0) 1223 0) fl (va_up g 26 (upd (g 26) 0 (((g 26) 0) + (1 : Int32)))) gl hh v tx) P) :
    WP X (d) 93 (203, [some (.ref 0), none, some (.int l2), some (.int l3), some (.int l4), some (.int l5), none, none], [], Wd f fl g gl hh v tx) P := by
  refine WP.run hP_93 8 (c' := (219, [some (.ref 0), none, some (.int l2), some (.int l3), some (.int l4), some (.int l5), none, none], [], Wd (va_up (va_up f 1222 0) 1223 0) fl g gl hh v tx)) rfl ?_
  refine WP.run hP_93 5 (c' := (228, [some (.ref 0), none, some (.int l2), some (.int l3), some (.int l4), some (.int l5), none, none], [.int 0, .ref 26, .int 0, .ref 26], Wd (va_up (va_up f 1222 0) 1223 0) fl g gl hh v tx)) rfl ?_
  refine WP.of (fun _ _ => Ex.iald hP_93 rfl (Wa_26 _ _ _ _ _ _ _) (by decide)) ?_
  show WP X _ 93 (229, [some (.ref 0), none, some (.int l2), some (.int l3), some (.int l4), some (.int l5), none, none], [.int ((g 26) 0), .int 0, .ref 26], Wd (va_up (va_up f 1222 0) 1223 0) fl g gl hh v tx) P
  refine WP.run hP_93 2 (c' := (231, [some (.ref 0), none, some (.int l2), some (.int l3), some (.int l4), some (.int l5), none, none], [.int (((g 26) 0) + (1 : Int32)), .int 0, .ref 26], Wd (va_up (va_up f 1222 0) 1223 0) fl g gl hh v tx)) rfl ?_
  refine WP.of (fun _ _ => Ex.iast hP_93 (w2 := Wd (va_up (va_up f 1222 0) 1223 0) fl (va_up g 26 (upd (g 26) 0 (((g 26) 0) + (1 : Int32)))) gl hh v tx) rfl (Wa_26 _ _ _ _ _ _ _) (by decide) (Ws_26 _ _ _ _ _ _ _ _)) ?_
  refine WP.run hP_93 2 (c' := (64, [some (.ref 0), none, some (.int l2), some (.int l3), some (.int l4), some (.int (l5 + (1 : Int32))), none, none], [], Wd (va_up (va_up f 1222 0) 1223 0) fl (va_up g 26 (upd (g 26) 0 (((g 26) 0) + (1 : Int32)))) gl hh v tx)) rfl ?_
  exact h

set_option maxRecDepth 20000 in
theorem b_m_laysAside_0 (X : mm_X) (d : Nat) (f : Nat → Int32) (fl : Nat → Int64) (g : Nat → Nat → Int32) (gl : Nat → Nat → Int64) (hh : Nat → Nat → Option Nat) (v : Nat → Value) (tx : mm_W) (p0 : Int32)  (P : Option Value → mm_W → Prop)
    (h : WP X (d) 125 (2, [some (.ref 74), some (.int p0), some (.int 0)], [], Wd f fl g gl hh v tx) P) :
    WP X (d) 125 (0, [some (.ref 74), some (.int p0), none], [], Wd f fl g gl hh v tx) P := by
  refine WP.run hP_125 2 (c' := (2, [some (.ref 74), some (.int p0), some (.int 0)], [], Wd f fl g gl hh v tx)) rfl ?_
  exact h

set_option maxRecDepth 20000 in
theorem b_m_laysAside_2 (X : mm_X) (d : Nat) (f : Nat → Int32) (fl : Nat → Int64) (g : Nat → Nat → Int32) (gl : Nat → Nat → Int64) (hh : Nat → Nat → Option Nat) (v : Nat → Value) (tx : mm_W) (l1 : Int32) (l2 : Int32)  (P : Option Value → mm_W → Prop)
    (h : ((23 ≤ l2) → P none (Wd f fl g gl hh v tx)) ∧
    ((¬ (23 ≤ l2)) → ((¬ (l2 < 0 ∨ 5667 ≤ l2.toNatClampNeg)) ∧ ((¬ ((((23 : Int32) * l1) + l2) < 0 ∨ 46 ≤ (((23 : Int32) * l1) + l2).toNatClampNeg)) ∧ WP X (d) 125 (2, [some (.ref 74), some (.int l1), some (.int (l2 + (1 : Int32)))], [], Wd f fl (va_up g 79 (upd (g 79) ((((23 : Int32) * l1) + l2).toNatClampNeg) ((g 76) l2.toNatClampNeg))) gl hh v tx) P)))) :
    WP X (d) 125 (2, [some (.ref 74), some (.int l1), some (.int l2)], [], Wd f fl g gl hh v tx) P := by
  refine WP.run hP_125 2 (c' := (5, [some (.ref 74), some (.int l1), some (.int l2)], [.int 23, .int l2], Wd f fl g gl hh v tx)) rfl ?_
  refine WP.br hP_125 (q := 23 ≤ l2) (t := 31) (f := 8) (L := [some (.ref 74), some (.int l1), some (.int l2)]) (st := []) (w := Wd f fl g gl hh v tx) rfl (fun c1 => ?_) (fun c1 => ?_)
  · have h2 := h.1 c1
    exact WP.ret hP_125 (r := none) (w' := Wd f fl g gl hh v tx) rfl h2
  · have h3 := h.2 c1
    refine WP.run hP_125 10 (c' := (23, [some (.ref 74), some (.int l1), some (.int l2)], [.int l2, .ref 76, .int (((23 : Int32) * l1) + l2), .ref 79], Wd f fl g gl hh v tx)) rfl ?_
    refine WP.of (fun _ _ => Ex.iald hP_125 rfl (Wa_76 _ _ _ _ _ _ _) h3.1) ?_
    have h4 := h3.2
    refine WP.of (fun _ _ => Ex.iast hP_125 (w2 := Wd f fl (va_up g 79 (upd (g 79) ((((23 : Int32) * l1) + l2).toNatClampNeg) ((g 76) l2.toNatClampNeg))) gl hh v tx) rfl (Wa_79 _ _ _ _ _ _ _) h4.1 (Ws_79 _ _ _ _ _ _ _ _)) ?_
    have h5 := h4.2
    refine WP.run hP_125 2 (c' := (2, [some (.ref 74), some (.int l1), some (.int (l2 + (1 : Int32)))], [], Wd f fl (va_up g 79 (upd (g 79) ((((23 : Int32) * l1) + l2).toNatClampNeg) ((g 76) l2.toNatClampNeg))) gl hh v tx)) rfl ?_
    exact h5

set_option maxRecDepth 20000 in
theorem b_m_takesBack_0 (X : mm_X) (d : Nat) (f : Nat → Int32) (fl : Nat → Int64) (g : Nat → Nat → Int32) (gl : Nat → Nat → Int64) (hh : Nat → Nat → Option Nat) (v : Nat → Value) (tx : mm_W) (p0 : Int32)  (P : Option Value → mm_W → Prop)
    (h : WP X (d) 126 (2, [some (.ref 74), some (.int p0), some (.int 0)], [], Wd f fl g gl hh v tx) P) :
    WP X (d) 126 (0, [some (.ref 74), some (.int p0), none], [], Wd f fl g gl hh v tx) P := by
  refine WP.run hP_126 2 (c' := (2, [some (.ref 74), some (.int p0), some (.int 0)], [], Wd f fl g gl hh v tx)) rfl ?_
  exact h

set_option maxRecDepth 20000 in
theorem b_m_takesBack_2 (X : mm_X) (d : Nat) (f : Nat → Int32) (fl : Nat → Int64) (g : Nat → Nat → Int32) (gl : Nat → Nat → Int64) (hh : Nat → Nat → Option Nat) (v : Nat → Value) (tx : mm_W) (l1 : Int32) (l2 : Int32)  (P : Option Value → mm_W → Prop)
    (h : ((23 ≤ l2) → P none (Wd f fl g gl hh v tx)) ∧
    ((¬ (23 ≤ l2)) → ((¬ ((((23 : Int32) * l1) + l2) < 0 ∨ 46 ≤ (((23 : Int32) * l1) + l2).toNatClampNeg)) ∧ ((¬ (l2 < 0 ∨ 5667 ≤ l2.toNatClampNeg)) ∧ WP X (d) 126 (2, [some (.ref 74), some (.int l1), some (.int (l2 + (1 : Int32)))], [], Wd f fl (va_up g 76 (upd (g 76) (l2.toNatClampNeg) ((g 79) (((23 : Int32) * l1) + l2).toNatClampNeg))) gl hh v tx) P)))) :
    WP X (d) 126 (2, [some (.ref 74), some (.int l1), some (.int l2)], [], Wd f fl g gl hh v tx) P := by
  refine WP.run hP_126 2 (c' := (5, [some (.ref 74), some (.int l1), some (.int l2)], [.int 23, .int l2], Wd f fl g gl hh v tx)) rfl ?_
  refine WP.br hP_126 (q := 23 ≤ l2) (t := 31) (f := 8) (L := [some (.ref 74), some (.int l1), some (.int l2)]) (st := []) (w := Wd f fl g gl hh v tx) rfl (fun c1 => ?_) (fun c1 => ?_)
  · have h2 := h.1 c1
    exact WP.ret hP_126 (r := none) (w' := Wd f fl g gl hh v tx) rfl h2
  · have h3 := h.2 c1
    refine WP.run hP_126 10 (c' := (23, [some (.ref 74), some (.int l1), some (.int l2)], [.int (((23 : Int32) * l1) + l2), .ref 79, .int l2, .ref 76], Wd f fl g gl hh v tx)) rfl ?_
    refine WP.of (fun _ _ => Ex.iald hP_126 rfl (Wa_79 _ _ _ _ _ _ _) h3.1) ?_
    have h4 := h3.2
    refine WP.of (fun _ _ => Ex.iast hP_126 (w2 := Wd f fl (va_up g 76 (upd (g 76) (l2.toNatClampNeg) ((g 79) (((23 : Int32) * l1) + l2).toNatClampNeg))) gl hh v tx) rfl (Wa_76 _ _ _ _ _ _ _) h4.1 (Ws_76 _ _ _ _ _ _ _ _)) ?_
    have h5 := h4.2
    refine WP.run hP_126 2 (c' := (2, [some (.ref 74), some (.int l1), some (.int (l2 + (1 : Int32)))], [], Wd f fl (va_up g 76 (upd (g 76) (l2.toNatClampNeg) ((g 79) (((23 : Int32) * l1) + l2).toNatClampNeg))) gl hh v tx)) rfl ?_
    exact h5

set_option maxRecDepth 20000 in
theorem b_m_draws_0 (X : mm_X) (d : Nat) (f : Nat → Int32) (fl : Nat → Int64) (g : Nat → Nat → Int32) (gl : Nat → Nat → Int64) (hh : Nat → Nat → Option Nat) (v : Nat → Value) (tx : mm_W) (p0 : Int32)  (P : Option Value → mm_W → Prop)
    (h : (¬ p0 = 0) ∧ P (some (.int (((((((1103 : Int64) * (((f 4787) : Int32).toInt64)) + (12345 : Int64)) - ((((1103 : Int64) * (((f 4787) : Int32).toInt64)) + (12345 : Int64)) / (1000003 : Int64)) * (1000003 : Int64)) : Int64).toInt32) - (((((((1103 : Int64) * (((f 4787) : Int32).toInt64)) + (12345 : Int64)) - ((((1103 : Int64) * (((f 4787) : Int32).toInt64)) + (12345 : Int64)) / (1000003 : Int64)) * (1000003 : Int64)) : Int64).toInt32) / p0) * p0))) (Wd (va_up f 4787 ((((((1103 : Int64) * (((f 4787) : Int32).toInt64)) + (12345 : Int64)) - ((((1103 : Int64) * (((f 4787) : Int32).toInt64)) + (12345 : Int64)) / (1000003 : Int64)) * (1000003 : Int64)) : Int64).toInt32)) fl g gl hh v tx)) :
    WP X (d) 250 (0, [some (.ref 74), some (.int p0)], [], Wd f fl g gl hh v tx) P := by
  refine WP.run hP_250 15 (c' := (27, [some (.ref 74), some (.int p0)], [.int p0, .int ((((((1103 : Int64) * (((f 4787) : Int32).toInt64)) + (12345 : Int64)) - ((((1103 : Int64) * (((f 4787) : Int32).toInt64)) + (12345 : Int64)) / (1000003 : Int64)) * (1000003 : Int64)) : Int64).toInt32)], Wd (va_up f 4787 ((((((1103 : Int64) * (((f 4787) : Int32).toInt64)) + (12345 : Int64)) - ((((1103 : Int64) * (((f 4787) : Int32).toInt64)) + (12345 : Int64)) / (1000003 : Int64)) * (1000003 : Int64)) : Int64).toInt32)) fl g gl hh v tx)) rfl ?_
  refine WP.of (fun _ _ => Ex.irem hP_250 rfl h.1) ?_
  have h1 := h.2
  exact WP.retI hP_250 rfl rfl h1

set_option maxRecDepth 20000 in
theorem b_m_dayIsDrawn_0 (X : mm_X) (d : Nat) (f : Nat → Int32) (fl : Nat → Int64) (g : Nat → Nat → Int32) (gl : Nat → Nat → Int64) (hh : Nat → Nat → Option Nat) (v : Nat → Value) (tx : mm_W)   (P : Option Value → mm_W → Prop)
    (h : (¬ ((g 76) 56) = 0) ∧ (((12 ≤ ((g 76) 12)) → WP X (d + 2) 251 (32, [some (.ref 74), none, some (.int (((((((1103 : Int64) * ((((((((1103 : Int64) * (((f 4787) : Int32).toInt64)) + (12345 : Int64)) - ((((1103 : Int64) * (((f 4787) : Int32).toInt64)) + (12345 : Int64)) / (1000003 : Int64)) * (1000003 : Int64)) : Int64).toInt32) : Int32).toInt64)) + (12345 : Int64)) - ((((1103 : Int64) * ((((((((1103 : Int64) * (((f 4787) : Int32).toInt64)) + (12345 : Int64)) - ((((1103 : Int64) * (((f 4787) : Int32).toInt64)) + (12345 : Int64)) / (1000003 : Int64)) * (1000003 : Int64)) : Int64).toInt32) : Int32).toInt64)) + (12345 : Int64)) / (1000003 : Int64)) * (1000003 : Int64)) : Int64).toInt32) - (((((((1103 : Int64) * ((((((((1103 : Int64) * (((f 4787) : Int32).toInt64)) + (12345 : Int64)) - ((((1103 : Int64) * (((f 4787) : Int32).toInt64)) + (12345 : Int64)) / (1000003 : Int64)) * (1000003 : Int64)) : Int64).toInt32) : Int32).toInt64)) + (12345 : Int64)) - ((((1103 : Int64) * ((((((((1103 : Int64) * (((f 4787) : Int32).toInt64)) + (12345 : Int64)) - ((((1103 : Int64) * (((f 4787) : Int32).toInt64)) + (12345 : Int64)) / (1000003 : Int64)) * (1000003 : Int64)) : Int64).toInt32) : Int32).toInt64)) + (12345 : Int64)) / (1000003 : Int64)) * (1000003 : Int64)) : Int64).toInt32) / ((g 76) 56)) * ((g 76) 56))), none], [], Wd (va_up f 4787 ((((((1103 : Int64) * ((((((((1103 : Int64) * (((f 4787) : Int32).toInt64)) + (12345 : Int64)) - ((((1103 : Int64) * (((f 4787) : Int32).toInt64)) + (12345 : Int64)) / (1000003 : Int64)) * (1000003 : Int64)) : Int64).toInt32) : Int32).toInt64)) + (12345 : Int64)) - ((((1103 : Int64) * ((((((((1103 : Int64) * (((f 4787) : Int32).toInt64)) + (12345 : Int64)) - ((((1103 : Int64) * (((f 4787) : Int32).toInt64)) + (12345 : Int64)) / (1000003 : Int64)) * (1000003 : Int64)) : Int64).toInt32) : Int32).toInt64)) + (12345 : Int64)) / (1000003 : Int64)) * (1000003 : Int64)) : Int64).toInt32)) fl g gl hh v tx) P) ∧
    ((¬ (12 ≤ ((g 76) 12))) → ((¬ (((0 : Int32) + ((g 76) 12)) < 0 ∨ 5667 ≤ ((0 : Int32) + ((g 76) 12)).toNatClampNeg)) ∧ WP X (d + 2) 251 (32, [some (.ref 74), none, some (.int (((((((1103 : Int64) * ((((((((1103 : Int64) * (((f 4787) : Int32).toInt64)) + (12345 : Int64)) - ((((1103 : Int64) * (((f 4787) : Int32).toInt64)) + (12345 : Int64)) / (1000003 : Int64)) * (1000003 : Int64)) : Int64).toInt32) : Int32).toInt64)) + (12345 : Int64)) - ((((1103 : Int64) * ((((((((1103 : Int64) * (((f 4787) : Int32).toInt64)) + (12345 : Int64)) - ((((1103 : Int64) * (((f 4787) : Int32).toInt64)) + (12345 : Int64)) / (1000003 : Int64)) * (1000003 : Int64)) : Int64).toInt32) : Int32).toInt64)) + (12345 : Int64)) / (1000003 : Int64)) * (1000003 : Int64)) : Int64).toInt32) - (((((((1103 : Int64) * ((((((((1103 : Int64) * (((f 4787) : Int32).toInt64)) + (12345 : Int64)) - ((((1103 : Int64) * (((f 4787) : Int32).toInt64)) + (12345 : Int64)) / (1000003 : Int64)) * (1000003 : Int64)) : Int64).toInt32) : Int32).toInt64)) + (12345 : Int64)) - ((((1103 : Int64) * ((((((((1103 : Int64) * (((f 4787) : Int32).toInt64)) + (12345 : Int64)) - ((((1103 : Int64) * (((f 4787) : Int32).toInt64)) + (12345 : Int64)) / (1000003 : Int64)) * (1000003 : Int64)) : Int64).toInt32) : Int32).toInt64)) + (12345 : Int64)) / (1000003 : Int64)) * (1000003 : Int64)) : Int64).toInt32) / ((g 76) 56)) * ((g 76) 56))), none], [], Wd (va_up f 4787 ((((((1103 : Int64) * ((((((((1103 : Int64) * (((f 4787) : Int32).toInt64)) + (12345 : Int64)) - ((((1103 : Int64) * (((f 4787) : Int32).toInt64)) + (12345 : Int64)) / (1000003 : Int64)) * (1000003 : Int64)) : Int64).toInt32) : Int32).toInt64)) + (12345 : Int64)) - ((((1103 : Int64) * ((((((((1103 : Int64) * (((f 4787) : Int32).toInt64)) + (12345 : Int64)) - ((((1103 : Int64) * (((f 4787) : Int32).toInt64)) + (12345 : Int64)) / (1000003 : Int64)) * (1000003 : Int64)) : Int64).toInt32) : Int32).toInt64)) + (12345 : Int64)) / (1000003 : Int64)) * (1000003 : Int64)) : Int64).toInt32)) fl (va_up (va_up g 76 (upd (g 76) (((0 : Int32) + ((g 76) 12)).toNatClampNeg) (((((((1103 : Int64) * (((f 4787) : Int32).toInt64)) + (12345 : Int64)) - ((((1103 : Int64) * (((f 4787) : Int32).toInt64)) + (12345 : Int64)) / (1000003 : Int64)) * (1000003 : Int64)) : Int64).toInt32) - (((((((1103 : Int64) * (((f 4787) : Int32).toInt64)) + (12345 : Int64)) - ((((1103 : Int64) * (((f 4787) : Int32).toInt64)) + (12345 : Int64)) / (1000003 : Int64)) * (1000003 : Int64)) : Int64).toInt32) / (4 : Int32)) * (4 : Int32)))) 76 (upd (upd (g 76) (((0 : Int32) + ((g 76) 12)).toNatClampNeg) (((((((1103 : Int64) * (((f 4787) : Int32).toInt64)) + (12345 : Int64)) - ((((1103 : Int64) * (((f 4787) : Int32).toInt64)) + (12345 : Int64)) / (1000003 : Int64)) * (1000003 : Int64)) : Int64).toInt32) - (((((((1103 : Int64) * (((f 4787) : Int32).toInt64)) + (12345 : Int64)) - ((((1103 : Int64) * (((f 4787) : Int32).toInt64)) + (12345 : Int64)) / (1000003 : Int64)) * (1000003 : Int64)) : Int64).toInt32) / (4 : Int32)) * (4 : Int32))) 12 (((upd (g 76) (((0 : Int32) + ((g 76) 12)).toNatClampNeg) (((((((1103 : Int64) * (((f 4787) : Int32).toInt64)) + (12345 : Int64)) - ((((1103 : Int64) * (((f 4787) : Int32).toInt64)) + (12345 : Int64)) / (1000003 : Int64)) * (1000003 : Int64)) : Int64).toInt32) - (((((((1103 : Int64) * (((f 4787) : Int32).toInt64)) + (12345 : Int64)) - ((((1103 : Int64) * (((f 4787) : Int32).toInt64)) + (12345 : Int64)) / (1000003 : Int64)) * (1000003 : Int64)) : Int64).toInt32) / (4 : Int32)) * (4 : Int32))) 12) + (1 : Int32)))) gl hh v tx) P)))) :
    WP X (d + 2) 251 (0, [some (.ref 74), none, none, none], [], Wd f fl g gl hh v tx) P := by
  refine WP.run hP_251 2 (c' := (2, [some (.ref 74), none, none, none], [.int 4, .ref 74], Wd f fl g gl hh v tx)) rfl ?_
  refine WP.call hP_251 hP_250 (as := [.ref 74, .int 4]) (pc' := 5) (L' := [some (.ref 74), none, none, none]) (st' := []) (w1 := Wd f fl g gl hh v tx) rfl ⟨Nat.le_of_ble_eq_true rfl, Nat.le_of_ble_eq_true rfl⟩ rfl (b_m_draws_0 X (d + 1) f fl g gl hh v tx 4 _ ?_)
  refine ⟨by decide, ?_⟩
  refine WP.run hP_251 5 (c' := (13, [some (.ref 74), some (.int (((((((1103 : Int64) * (((f 4787) : Int32).toInt64)) + (12345 : Int64)) - ((((1103 : Int64) * (((f 4787) : Int32).toInt64)) + (12345 : Int64)) / (1000003 : Int64)) * (1000003 : Int64)) : Int64).toInt32) - (((((((1103 : Int64) * (((f 4787) : Int32).toInt64)) + (12345 : Int64)) - ((((1103 : Int64) * (((f 4787) : Int32).toInt64)) + (12345 : Int64)) / (1000003 : Int64)) * (1000003 : Int64)) : Int64).toInt32) / (4 : Int32)) * (4 : Int32))), none, none], [.int 56, .ref 76, .ref 74], Wd (va_up f 4787 ((((((1103 : Int64) * (((f 4787) : Int32).toInt64)) + (12345 : Int64)) - ((((1103 : Int64) * (((f 4787) : Int32).toInt64)) + (12345 : Int64)) / (1000003 : Int64)) * (1000003 : Int64)) : Int64).toInt32)) fl g gl hh v tx)) rfl ?_
  refine WP.of (fun _ _ => Ex.iald hP_251 rfl (Wa_76 _ _ _ _ _ _ _) (by decide)) ?_
  show WP X _ 251 (14, [some (.ref 74), some (.int (((((((1103 : Int64) * (((f 4787) : Int32).toInt64)) + (12345 : Int64)) - ((((1103 : Int64) * (((f 4787) : Int32).toInt64)) + (12345 : Int64)) / (1000003 : Int64)) * (1000003 : Int64)) : Int64).toInt32) - (((((((1103 : Int64) * (((f 4787) : Int32).toInt64)) + (12345 : Int64)) - ((((1103 : Int64) * (((f 4787) : Int32).toInt64)) + (12345 : Int64)) / (1000003 : Int64)) * (1000003 : Int64)) : Int64).toInt32) / (4 : Int32)) * (4 : Int32))), none, none], [.int ((g 76) 56), .ref 74], Wd (va_up f 4787 ((((((1103 : Int64) * (((f 4787) : Int32).toInt64)) + (12345 : Int64)) - ((((1103 : Int64) * (((f 4787) : Int32).toInt64)) + (12345 : Int64)) / (1000003 : Int64)) * (1000003 : Int64)) : Int64).toInt32)) fl g gl hh v tx) P
  refine WP.call hP_251 hP_250 (as := [.ref 74, .int ((g 76) 56)]) (pc' := 17) (L' := [some (.ref 74), some (.int (((((((1103 : Int64) * (((f 4787) : Int32).toInt64)) + (12345 : Int64)) - ((((1103 : Int64) * (((f 4787) : Int32).toInt64)) + (12345 : Int64)) / (1000003 : Int64)) * (1000003 : Int64)) : Int64).toInt32) - (((((((1103 : Int64) * (((f 4787) : Int32).toInt64)) + (12345 : Int64)) - ((((1103 : Int64) * (((f 4787) : Int32).toInt64)) + (12345 : Int64)) / (1000003 : Int64)) * (1000003 : Int64)) : Int64).toInt32) / (4 : Int32)) * (4 : Int32))), none, none]) (st' := []) (w1 := Wd (va_up f 4787 ((((((1103 : Int64) * (((f 4787) : Int32).toInt64)) + (12345 : Int64)) - ((((1103 : Int64) * (((f 4787) : Int32).toInt64)) + (12345 : Int64)) / (1000003 : Int64)) * (1000003 : Int64)) : Int64).toInt32)) fl g gl hh v tx) rfl ⟨Nat.le_of_ble_eq_true rfl, Nat.le_of_ble_eq_true rfl⟩ rfl (b_m_draws_0 X (d + 1) (va_up f 4787 ((((((1103 : Int64) * (((f 4787) : Int32).toInt64)) + (12345 : Int64)) - ((((1103 : Int64) * (((f 4787) : Int32).toInt64)) + (12345 : Int64)) / (1000003 : Int64)) * (1000003 : Int64)) : Int64).toInt32)) fl g gl hh v tx ((g 76) 56) _ ?_)
  refine ⟨h.1, ?_⟩
  have h1 := h.2
  refine WP.run hP_251 2 (c' := (19, [some (.ref 74), some (.int (((((((1103 : Int64) * (((f 4787) : Int32).toInt64)) + (12345 : Int64)) - ((((1103 : Int64) * (((f 4787) : Int32).toInt64)) + (12345 : Int64)) / (1000003 : Int64)) * (1000003 : Int64)) : Int64).toInt32) - (((((((1103 : Int64) * (((f 4787) : Int32).toInt64)) + (12345 : Int64)) - ((((1103 : Int64) * (((f 4787) : Int32).toInt64)) + (12345 : Int64)) / (1000003 : Int64)) * (1000003 : Int64)) : Int64).toInt32) / (4 : Int32)) * (4 : Int32))), some (.int (((((((1103 : Int64) * ((((((((1103 : Int64) * (((f 4787) : Int32).toInt64)) + (12345 : Int64)) - ((((1103 : Int64) * (((f 4787) : Int32).toInt64)) + (12345 : Int64)) / (1000003 : Int64)) * (1000003 : Int64)) : Int64).toInt32) : Int32).toInt64)) + (12345 : Int64)) - ((((1103 : Int64) * ((((((((1103 : Int64) * (((f 4787) : Int32).toInt64)) + (12345 : Int64)) - ((((1103 : Int64) * (((f 4787) : Int32).toInt64)) + (12345 : Int64)) / (1000003 : Int64)) * (1000003 : Int64)) : Int64).toInt32) : Int32).toInt64)) + (12345 : Int64)) / (1000003 : Int64)) * (1000003 : Int64)) : Int64).toInt32) - (((((((1103 : Int64) * ((((((((1103 : Int64) * (((f 4787) : Int32).toInt64)) + (12345 : Int64)) - ((((1103 : Int64) * (((f 4787) : Int32).toInt64)) + (12345 : Int64)) / (1000003 : Int64)) * (1000003 : Int64)) : Int64).toInt32) : Int32).toInt64)) + (12345 : Int64)) - ((((1103 : Int64) * ((((((((1103 : Int64) * (((f 4787) : Int32).toInt64)) + (12345 : Int64)) - ((((1103 : Int64) * (((f 4787) : Int32).toInt64)) + (12345 : Int64)) / (1000003 : Int64)) * (1000003 : Int64)) : Int64).toInt32) : Int32).toInt64)) + (12345 : Int64)) / (1000003 : Int64)) * (1000003 : Int64)) : Int64).toInt32) / ((g 76) 56)) * ((g 76) 56))), none], [.ref 74], Wd (va_up f 4787 ((((((1103 : Int64) * ((((((((1103 : Int64) * (((f 4787) : Int32).toInt64)) + (12345 : Int64)) - ((((1103 : Int64) * (((f 4787) : Int32).toInt64)) + (12345 : Int64)) / (1000003 : Int64)) * (1000003 : Int64)) : Int64).toInt32) : Int32).toInt64)) + (12345 : Int64)) - ((((1103 : Int64) * ((((((((1103 : Int64) * (((f 4787) : Int32).toInt64)) + (12345 : Int64)) - ((((1103 : Int64) * (((f 4787) : Int32).toInt64)) + (12345 : Int64)) / (1000003 : Int64)) * (1000003 : Int64)) : Int64).toInt32) : Int32).toInt64)) + (12345 : Int64)) / (1000003 : Int64)) * (1000003 : Int64)) : Int64).toInt32)) fl g gl hh v tx)) rfl ?_
  refine WP.call hP_251 hP_130 (as := [.ref 74]) (pc' := 22) (L' := [some (.ref 74), some (.int (((((((1103 : Int64) * (((f 4787) : Int32).toInt64)) + (12345 : Int64)) - ((((1103 : Int64) * (((f 4787) : Int32).toInt64)) + (12345 : Int64)) / (1000003 : Int64)) * (1000003 : Int64)) : Int64).toInt32) - (((((((1103 : Int64) * (((f 4787) : Int32).toInt64)) + (12345 : Int64)) - ((((1103 : Int64) * (((f 4787) : Int32).toInt64)) + (12345 : Int64)) / (1000003 : Int64)) * (1000003 : Int64)) : Int64).toInt32) / (4 : Int32)) * (4 : Int32))), some (.int (((((((1103 : Int64) * ((((((((1103 : Int64) * (((f 4787) : Int32).toInt64)) + (12345 : Int64)) - ((((1103 : Int64) * (((f 4787) : Int32).toInt64)) + (12345 : Int64)) / (1000003 : Int64)) * (1000003 : Int64)) : Int64).toInt32) : Int32).toInt64)) + (12345 : Int64)) - ((((1103 : Int64) * ((((((((1103 : Int64) * (((f 4787) : Int32).toInt64)) + (12345 : Int64)) - ((((1103 : Int64) * (((f 4787) : Int32).toInt64)) + (12345 : Int64)) / (1000003 : Int64)) * (1000003 : Int64)) : Int64).toInt32) : Int32).toInt64)) + (12345 : Int64)) / (1000003 : Int64)) * (1000003 : Int64)) : Int64).toInt32) - (((((((1103 : Int64) * ((((((((1103 : Int64) * (((f 4787) : Int32).toInt64)) + (12345 : Int64)) - ((((1103 : Int64) * (((f 4787) : Int32).toInt64)) + (12345 : Int64)) / (1000003 : Int64)) * (1000003 : Int64)) : Int64).toInt32) : Int32).toInt64)) + (12345 : Int64)) - ((((1103 : Int64) * ((((((((1103 : Int64) * (((f 4787) : Int32).toInt64)) + (12345 : Int64)) - ((((1103 : Int64) * (((f 4787) : Int32).toInt64)) + (12345 : Int64)) / (1000003 : Int64)) * (1000003 : Int64)) : Int64).toInt32) : Int32).toInt64)) + (12345 : Int64)) / (1000003 : Int64)) * (1000003 : Int64)) : Int64).toInt32) / ((g 76) 56)) * ((g 76) 56))), none]) (st' := []) (w1 := Wd (va_up f 4787 ((((((1103 : Int64) * ((((((((1103 : Int64) * (((f 4787) : Int32).toInt64)) + (12345 : Int64)) - ((((1103 : Int64) * (((f 4787) : Int32).toInt64)) + (12345 : Int64)) / (1000003 : Int64)) * (1000003 : Int64)) : Int64).toInt32) : Int32).toInt64)) + (12345 : Int64)) - ((((1103 : Int64) * ((((((((1103 : Int64) * (((f 4787) : Int32).toInt64)) + (12345 : Int64)) - ((((1103 : Int64) * (((f 4787) : Int32).toInt64)) + (12345 : Int64)) / (1000003 : Int64)) * (1000003 : Int64)) : Int64).toInt32) : Int32).toInt64)) + (12345 : Int64)) / (1000003 : Int64)) * (1000003 : Int64)) : Int64).toInt32)) fl g gl hh v tx) rfl ⟨Nat.le_of_ble_eq_true rfl, Nat.le_of_ble_eq_true rfl⟩ rfl (b_m_size_0 X (d + 1) (va_up f 4787 ((((((1103 : Int64) * ((((((((1103 : Int64) * (((f 4787) : Int32).toInt64)) + (12345 : Int64)) - ((((1103 : Int64) * (((f 4787) : Int32).toInt64)) + (12345 : Int64)) / (1000003 : Int64)) * (1000003 : Int64)) : Int64).toInt32) : Int32).toInt64)) + (12345 : Int64)) - ((((1103 : Int64) * ((((((((1103 : Int64) * (((f 4787) : Int32).toInt64)) + (12345 : Int64)) - ((((1103 : Int64) * (((f 4787) : Int32).toInt64)) + (12345 : Int64)) / (1000003 : Int64)) * (1000003 : Int64)) : Int64).toInt32) : Int32).toInt64)) + (12345 : Int64)) / (1000003 : Int64)) * (1000003 : Int64)) : Int64).toInt32)) fl g gl hh v tx  _ ?_)
  refine WP.run hP_251 1 (c' := (24, [some (.ref 74), some (.int (((((((1103 : Int64) * (((f 4787) : Int32).toInt64)) + (12345 : Int64)) - ((((1103 : Int64) * (((f 4787) : Int32).toInt64)) + (12345 : Int64)) / (1000003 : Int64)) * (1000003 : Int64)) : Int64).toInt32) - (((((((1103 : Int64) * (((f 4787) : Int32).toInt64)) + (12345 : Int64)) - ((((1103 : Int64) * (((f 4787) : Int32).toInt64)) + (12345 : Int64)) / (1000003 : Int64)) * (1000003 : Int64)) : Int64).toInt32) / (4 : Int32)) * (4 : Int32))), some (.int (((((((1103 : Int64) * ((((((((1103 : Int64) * (((f 4787) : Int32).toInt64)) + (12345 : Int64)) - ((((1103 : Int64) * (((f 4787) : Int32).toInt64)) + (12345 : Int64)) / (1000003 : Int64)) * (1000003 : Int64)) : Int64).toInt32) : Int32).toInt64)) + (12345 : Int64)) - ((((1103 : Int64) * ((((((((1103 : Int64) * (((f 4787) : Int32).toInt64)) + (12345 : Int64)) - ((((1103 : Int64) * (((f 4787) : Int32).toInt64)) + (12345 : Int64)) / (1000003 : Int64)) * (1000003 : Int64)) : Int64).toInt32) : Int32).toInt64)) + (12345 : Int64)) / (1000003 : Int64)) * (1000003 : Int64)) : Int64).toInt32) - (((((((1103 : Int64) * ((((((((1103 : Int64) * (((f 4787) : Int32).toInt64)) + (12345 : Int64)) - ((((1103 : Int64) * (((f 4787) : Int32).toInt64)) + (12345 : Int64)) / (1000003 : Int64)) * (1000003 : Int64)) : Int64).toInt32) : Int32).toInt64)) + (12345 : Int64)) - ((((1103 : Int64) * ((((((((1103 : Int64) * (((f 4787) : Int32).toInt64)) + (12345 : Int64)) - ((((1103 : Int64) * (((f 4787) : Int32).toInt64)) + (12345 : Int64)) / (1000003 : Int64)) * (1000003 : Int64)) : Int64).toInt32) : Int32).toInt64)) + (12345 : Int64)) / (1000003 : Int64)) * (1000003 : Int64)) : Int64).toInt32) / ((g 76) 56)) * ((g 76) 56))), none], [.int 12, .int ((g 76) 12)], Wd (va_up f 4787 ((((((1103 : Int64) * ((((((((1103 : Int64) * (((f 4787) : Int32).toInt64)) + (12345 : Int64)) - ((((1103 : Int64) * (((f 4787) : Int32).toInt64)) + (12345 : Int64)) / (1000003 : Int64)) * (1000003 : Int64)) : Int64).toInt32) : Int32).toInt64)) + (12345 : Int64)) - ((((1103 : Int64) * ((((((((1103 : Int64) * (((f 4787) : Int32).toInt64)) + (12345 : Int64)) - ((((1103 : Int64) * (((f 4787) : Int32).toInt64)) + (12345 : Int64)) / (1000003 : Int64)) * (1000003 : Int64)) : Int64).toInt32) : Int32).toInt64)) + (12345 : Int64)) / (1000003 : Int64)) * (1000003 : Int64)) : Int64).toInt32)) fl g gl hh v tx)) rfl ?_
  refine WP.br hP_251 (q := 12 ≤ ((g 76) 12)) (t := 32) (f := 27) (L := [some (.ref 74), some (.int (((((((1103 : Int64) * (((f 4787) : Int32).toInt64)) + (12345 : Int64)) - ((((1103 : Int64) * (((f 4787) : Int32).toInt64)) + (12345 : Int64)) / (1000003 : Int64)) * (1000003 : Int64)) : Int64).toInt32) - (((((((1103 : Int64) * (((f 4787) : Int32).toInt64)) + (12345 : Int64)) - ((((1103 : Int64) * (((f 4787) : Int32).toInt64)) + (12345 : Int64)) / (1000003 : Int64)) * (1000003 : Int64)) : Int64).toInt32) / (4 : Int32)) * (4 : Int32))), some (.int (((((((1103 : Int64) * ((((((((1103 : Int64) * (((f 4787) : Int32).toInt64)) + (12345 : Int64)) - ((((1103 : Int64) * (((f 4787) : Int32).toInt64)) + (12345 : Int64)) / (1000003 : Int64)) * (1000003 : Int64)) : Int64).toInt32) : Int32).toInt64)) + (12345 : Int64)) - ((((1103 : Int64) * ((((((((1103 : Int64) * (((f 4787) : Int32).toInt64)) + (12345 : Int64)) - ((((1103 : Int64) * (((f 4787) : Int32).toInt64)) + (12345 : Int64)) / (1000003 : Int64)) * (1000003 : Int64)) : Int64).toInt32) : Int32).toInt64)) + (12345 : Int64)) / (1000003 : Int64)) * (1000003 : Int64)) : Int64).toInt32) - (((((((1103 : Int64) * ((((((((1103 : Int64) * (((f 4787) : Int32).toInt64)) + (12345 : Int64)) - ((((1103 : Int64) * (((f 4787) : Int32).toInt64)) + (12345 : Int64)) / (1000003 : Int64)) * (1000003 : Int64)) : Int64).toInt32) : Int32).toInt64)) + (12345 : Int64)) - ((((1103 : Int64) * ((((((((1103 : Int64) * (((f 4787) : Int32).toInt64)) + (12345 : Int64)) - ((((1103 : Int64) * (((f 4787) : Int32).toInt64)) + (12345 : Int64)) / (1000003 : Int64)) * (1000003 : Int64)) : Int64).toInt32) : Int32).toInt64)) + (12345 : Int64)) / (1000003 : Int64)) * (1000003 : Int64)) : Int64).toInt32) / ((g 76) 56)) * ((g 76) 56))), none]) (st := []) (w := Wd (va_up f 4787 ((((((1103 : Int64) * ((((((((1103 : Int64) * (((f 4787) : Int32).toInt64)) + (12345 : Int64)) - ((((1103 : Int64) * (((f 4787) : Int32).toInt64)) + (12345 : Int64)) / (1000003 : Int64)) * (1000003 : Int64)) : Int64).toInt32) : Int32).toInt64)) + (12345 : Int64)) - ((((1103 : Int64) * ((((((((1103 : Int64) * (((f 4787) : Int32).toInt64)) + (12345 : Int64)) - ((((1103 : Int64) * (((f 4787) : Int32).toInt64)) + (12345 : Int64)) / (1000003 : Int64)) * (1000003 : Int64)) : Int64).toInt32) : Int32).toInt64)) + (12345 : Int64)) / (1000003 : Int64)) * (1000003 : Int64)) : Int64).toInt32)) fl g gl hh v tx) rfl (fun c2 => ?_) (fun c2 => ?_)
  · have h3 := h1.1 c2
    refine WP.clr hP_251 (pc := 32) rfl ?_
    exact h3
  · have h4 := h1.2 c2
    refine WP.run hP_251 2 (c' := (29, [some (.ref 74), some (.int (((((((1103 : Int64) * (((f 4787) : Int32).toInt64)) + (12345 : Int64)) - ((((1103 : Int64) * (((f 4787) : Int32).toInt64)) + (12345 : Int64)) / (1000003 : Int64)) * (1000003 : Int64)) : Int64).toInt32) - (((((((1103 : Int64) * (((f 4787) : Int32).toInt64)) + (12345 : Int64)) - ((((1103 : Int64) * (((f 4787) : Int32).toInt64)) + (12345 : Int64)) / (1000003 : Int64)) * (1000003 : Int64)) : Int64).toInt32) / (4 : Int32)) * (4 : Int32))), some (.int (((((((1103 : Int64) * ((((((((1103 : Int64) * (((f 4787) : Int32).toInt64)) + (12345 : Int64)) - ((((1103 : Int64) * (((f 4787) : Int32).toInt64)) + (12345 : Int64)) / (1000003 : Int64)) * (1000003 : Int64)) : Int64).toInt32) : Int32).toInt64)) + (12345 : Int64)) - ((((1103 : Int64) * ((((((((1103 : Int64) * (((f 4787) : Int32).toInt64)) + (12345 : Int64)) - ((((1103 : Int64) * (((f 4787) : Int32).toInt64)) + (12345 : Int64)) / (1000003 : Int64)) * (1000003 : Int64)) : Int64).toInt32) : Int32).toInt64)) + (12345 : Int64)) / (1000003 : Int64)) * (1000003 : Int64)) : Int64).toInt32) - (((((((1103 : Int64) * ((((((((1103 : Int64) * (((f 4787) : Int32).toInt64)) + (12345 : Int64)) - ((((1103 : Int64) * (((f 4787) : Int32).toInt64)) + (12345 : Int64)) / (1000003 : Int64)) * (1000003 : Int64)) : Int64).toInt32) : Int32).toInt64)) + (12345 : Int64)) - ((((1103 : Int64) * ((((((((1103 : Int64) * (((f 4787) : Int32).toInt64)) + (12345 : Int64)) - ((((1103 : Int64) * (((f 4787) : Int32).toInt64)) + (12345 : Int64)) / (1000003 : Int64)) * (1000003 : Int64)) : Int64).toInt32) : Int32).toInt64)) + (12345 : Int64)) / (1000003 : Int64)) * (1000003 : Int64)) : Int64).toInt32) / ((g 76) 56)) * ((g 76) 56))), none], [.int (((((((1103 : Int64) * (((f 4787) : Int32).toInt64)) + (12345 : Int64)) - ((((1103 : Int64) * (((f 4787) : Int32).toInt64)) + (12345 : Int64)) / (1000003 : Int64)) * (1000003 : Int64)) : Int64).toInt32) - (((((((1103 : Int64) * (((f 4787) : Int32).toInt64)) + (12345 : Int64)) - ((((1103 : Int64) * (((f 4787) : Int32).toInt64)) + (12345 : Int64)) / (1000003 : Int64)) * (1000003 : Int64)) : Int64).toInt32) / (4 : Int32)) * (4 : Int32)), .ref 74], Wd (va_up f 4787 ((((((1103 : Int64) * ((((((((1103 : Int64) * (((f 4787) : Int32).toInt64)) + (12345 : Int64)) - ((((1103 : Int64) * (((f 4787) : Int32).toInt64)) + (12345 : Int64)) / (1000003 : Int64)) * (1000003 : Int64)) : Int64).toInt32) : Int32).toInt64)) + (12345 : Int64)) - ((((1103 : Int64) * ((((((((1103 : Int64) * (((f 4787) : Int32).toInt64)) + (12345 : Int64)) - ((((1103 : Int64) * (((f 4787) : Int32).toInt64)) + (12345 : Int64)) / (1000003 : Int64)) * (1000003 : Int64)) : Int64).toInt32) : Int32).toInt64)) + (12345 : Int64)) / (1000003 : Int64)) * (1000003 : Int64)) : Int64).toInt32)) fl g gl hh v tx)) rfl ?_
    refine WP.call hP_251 hP_235 (as := [.ref 74, .int (((((((1103 : Int64) * (((f 4787) : Int32).toInt64)) + (12345 : Int64)) - ((((1103 : Int64) * (((f 4787) : Int32).toInt64)) + (12345 : Int64)) / (1000003 : Int64)) * (1000003 : Int64)) : Int64).toInt32) - (((((((1103 : Int64) * (((f 4787) : Int32).toInt64)) + (12345 : Int64)) - ((((1103 : Int64) * (((f 4787) : Int32).toInt64)) + (12345 : Int64)) / (1000003 : Int64)) * (1000003 : Int64)) : Int64).toInt32) / (4 : Int32)) * (4 : Int32))]) (pc' := 32) (L' := [some (.ref 74), some (.int (((((((1103 : Int64) * (((f 4787) : Int32).toInt64)) + (12345 : Int64)) - ((((1103 : Int64) * (((f 4787) : Int32).toInt64)) + (12345 : Int64)) / (1000003 : Int64)) * (1000003 : Int64)) : Int64).toInt32) - (((((((1103 : Int64) * (((f 4787) : Int32).toInt64)) + (12345 : Int64)) - ((((1103 : Int64) * (((f 4787) : Int32).toInt64)) + (12345 : Int64)) / (1000003 : Int64)) * (1000003 : Int64)) : Int64).toInt32) / (4 : Int32)) * (4 : Int32))), some (.int (((((((1103 : Int64) * ((((((((1103 : Int64) * (((f 4787) : Int32).toInt64)) + (12345 : Int64)) - ((((1103 : Int64) * (((f 4787) : Int32).toInt64)) + (12345 : Int64)) / (1000003 : Int64)) * (1000003 : Int64)) : Int64).toInt32) : Int32).toInt64)) + (12345 : Int64)) - ((((1103 : Int64) * ((((((((1103 : Int64) * (((f 4787) : Int32).toInt64)) + (12345 : Int64)) - ((((1103 : Int64) * (((f 4787) : Int32).toInt64)) + (12345 : Int64)) / (1000003 : Int64)) * (1000003 : Int64)) : Int64).toInt32) : Int32).toInt64)) + (12345 : Int64)) / (1000003 : Int64)) * (1000003 : Int64)) : Int64).toInt32) - (((((((1103 : Int64) * ((((((((1103 : Int64) * (((f 4787) : Int32).toInt64)) + (12345 : Int64)) - ((((1103 : Int64) * (((f 4787) : Int32).toInt64)) + (12345 : Int64)) / (1000003 : Int64)) * (1000003 : Int64)) : Int64).toInt32) : Int32).toInt64)) + (12345 : Int64)) - ((((1103 : Int64) * ((((((((1103 : Int64) * (((f 4787) : Int32).toInt64)) + (12345 : Int64)) - ((((1103 : Int64) * (((f 4787) : Int32).toInt64)) + (12345 : Int64)) / (1000003 : Int64)) * (1000003 : Int64)) : Int64).toInt32) : Int32).toInt64)) + (12345 : Int64)) / (1000003 : Int64)) * (1000003 : Int64)) : Int64).toInt32) / ((g 76) 56)) * ((g 76) 56))), none]) (st' := []) (w1 := Wd (va_up f 4787 ((((((1103 : Int64) * ((((((((1103 : Int64) * (((f 4787) : Int32).toInt64)) + (12345 : Int64)) - ((((1103 : Int64) * (((f 4787) : Int32).toInt64)) + (12345 : Int64)) / (1000003 : Int64)) * (1000003 : Int64)) : Int64).toInt32) : Int32).toInt64)) + (12345 : Int64)) - ((((1103 : Int64) * ((((((((1103 : Int64) * (((f 4787) : Int32).toInt64)) + (12345 : Int64)) - ((((1103 : Int64) * (((f 4787) : Int32).toInt64)) + (12345 : Int64)) / (1000003 : Int64)) * (1000003 : Int64)) : Int64).toInt32) : Int32).toInt64)) + (12345 : Int64)) / (1000003 : Int64)) * (1000003 : Int64)) : Int64).toInt32)) fl g gl hh v tx) rfl ⟨Nat.le_of_ble_eq_true rfl, Nat.le_of_ble_eq_true rfl⟩ rfl (b_m_hangs_0 X (d) (va_up f 4787 ((((((1103 : Int64) * ((((((((1103 : Int64) * (((f 4787) : Int32).toInt64)) + (12345 : Int64)) - ((((1103 : Int64) * (((f 4787) : Int32).toInt64)) + (12345 : Int64)) / (1000003 : Int64)) * (1000003 : Int64)) : Int64).toInt32) : Int32).toInt64)) + (12345 : Int64)) - ((((1103 : Int64) * ((((((((1103 : Int64) * (((f 4787) : Int32).toInt64)) + (12345 : Int64)) - ((((1103 : Int64) * (((f 4787) : Int32).toInt64)) + (12345 : Int64)) / (1000003 : Int64)) * (1000003 : Int64)) : Int64).toInt32) : Int32).toInt64)) + (12345 : Int64)) / (1000003 : Int64)) * (1000003 : Int64)) : Int64).toInt32)) fl g gl hh v tx (((((((1103 : Int64) * (((f 4787) : Int32).toInt64)) + (12345 : Int64)) - ((((1103 : Int64) * (((f 4787) : Int32).toInt64)) + (12345 : Int64)) / (1000003 : Int64)) * (1000003 : Int64)) : Int64).toInt32) - (((((((1103 : Int64) * (((f 4787) : Int32).toInt64)) + (12345 : Int64)) - ((((1103 : Int64) * (((f 4787) : Int32).toInt64)) + (12345 : Int64)) / (1000003 : Int64)) * (1000003 : Int64)) : Int64).toInt32) / (4 : Int32)) * (4 : Int32)) _ ?_)
    refine ⟨h4.1, ?_⟩
    have h5 := h4.2
    refine WP.clr hP_251 (pc := 32) rfl ?_
    exact h5

set_option maxRecDepth 20000 in
theorem b_m_dayIsDrawn_32 (X : mm_X) (d : Nat) (f : Nat → Int32) (fl : Nat → Int64) (g : Nat → Nat → Int32) (gl : Nat → Nat → Int64) (hh : Nat → Nat → Option Nat) (v : Nat → Value) (tx : mm_W) (l2 : Int32)  (P : Option Value → mm_W → Prop)
    (h : WP X (d) 209 (0, [some (.ref 74), some (.int l2), none, none, none], [], Wd f fl g gl hh v tx) (fun rv w2 => WP X (d + 1) 251 (37, [some (.ref 74), none, some (.int l2), none], rv.toList ++ [], w2) P)) :
    WP X (d + 1) 251 (32, [some (.ref 74), none, some (.int l2), none], [], Wd f fl g gl hh v tx) P := by
  refine WP.run hP_251 2 (c' := (34, [some (.ref 74), none, some (.int l2), none], [.int l2, .ref 74], Wd f fl g gl hh v tx)) rfl ?_
  refine WP.call hP_251 hP_209 (as := [.ref 74, .int l2]) (pc' := 37) (L' := [some (.ref 74), none, some (.int l2), none]) (st' := []) (w1 := Wd f fl g gl hh v tx) rfl ⟨Nat.le_of_ble_eq_true rfl, Nat.le_of_ble_eq_true rfl⟩ rfl ?_
  exact h

set_option maxRecDepth 20000 in
theorem b_m_dayIsDrawn_37 (X : mm_X) (d : Nat) (f : Nat → Int32) (fl : Nat → Int64) (g : Nat → Nat → Int32) (gl : Nat → Nat → Int64) (hh : Nat → Nat → Option Nat) (v : Nat → Value) (tx : mm_W) (l2 : Int32) (s0 : Int32)  (P : Option Value → mm_W → Prop)
    (h : ((s0 = (-1)) → WP X (d + 1) 251 (49, [some (.ref 74), none, none, some (.int s0)], [], Wd f fl g gl hh v tx) P) ∧
    ((¬ s0 = (-1)) → ((¬ (((13 : Int32) + l2) < 0 ∨ 5667 ≤ ((13 : Int32) + l2).toNatClampNeg)) ∧ ((¬ (((16 : Int32) + l2) < 0 ∨ 5667 ≤ ((16 : Int32) + l2).toNatClampNeg)) ∧ ((¬ (((19 : Int32) + l2) < 0 ∨ 5667 ≤ ((19 : Int32) + l2).toNatClampNeg)) ∧ WP X (d + 1) 251 (49, [some (.ref 74), none, none, some (.int s0)], [], Wd f fl (va_up (va_up (va_up g 76 (upd (g 76) (((13 : Int32) + l2).toNatClampNeg) ((s0 / (10 : Int32)) / (4 : Int32)))) 76 (upd (upd (g 76) (((13 : Int32) + l2).toNatClampNeg) ((s0 / (10 : Int32)) / (4 : Int32))) (((16 : Int32) + l2).toNatClampNeg) ((s0 / (10 : Int32)) - ((s0 / (10 : Int32)) / (4 : Int32)) * (4 : Int32)))) 76 (upd (upd (upd (g 76) (((13 : Int32) + l2).toNatClampNeg) ((s0 / (10 : Int32)) / (4 : Int32))) (((16 : Int32) + l2).toNatClampNeg) ((s0 / (10 : Int32)) - ((s0 / (10 : Int32)) / (4 : Int32)) * (4 : Int32))) (((19 : Int32) + l2).toNatClampNeg) (s0 - (s0 / (10 : Int32)) * (10 : Int32)))) gl hh v tx) P))))) :
    WP X (d + 1) 251 (37, [some (.ref 74), none, some (.int l2), none], [.int s0], Wd f fl g gl hh v tx) P := by
  refine WP.run hP_251 3 (c' := (40, [some (.ref 74), none, some (.int l2), some (.int s0)], [.int (-1), .int s0], Wd f fl g gl hh v tx)) rfl ?_
  refine WP.br hP_251 (q := s0 = (-1)) (t := 49) (f := 43) (L := [some (.ref 74), none, some (.int l2), some (.int s0)]) (st := []) (w := Wd f fl g gl hh v tx) rfl (fun c1 => ?_) (fun c1 => ?_)
  · have h2 := h.1 c1
    refine WP.clr hP_251 (pc := 49) rfl ?_
    exact h2
  · have h3 := h.2 c1
    refine WP.run hP_251 3 (c' := (46, [some (.ref 74), none, some (.int l2), some (.int s0)], [.int s0, .int l2, .ref 74], Wd f fl g gl hh v tx)) rfl ?_
    refine WP.call hP_251 hP_210 (as := [.ref 74, .int l2, .int s0]) (pc' := 49) (L' := [some (.ref 74), none, some (.int l2), some (.int s0)]) (st' := []) (w1 := Wd f fl g gl hh v tx) rfl ⟨Nat.le_of_ble_eq_true rfl, Nat.le_of_ble_eq_true rfl⟩ rfl (b_m_movesTo_0 X (d) f fl g gl hh v tx l2 s0 _ ?_)
    refine ⟨h3.1, ?_⟩
    have h4 := h3.2
    refine ⟨h4.1, ?_⟩
    have h5 := h4.2
    refine ⟨h5.1, ?_⟩
    have h6 := h5.2
    refine WP.clr hP_251 (pc := 49) rfl ?_
    exact h6

set_option maxRecDepth 20000 in
theorem b_m_dayIsDrawn_49 (X : mm_X) (d : Nat) (f : Nat → Int32) (fl : Nat → Int64) (g : Nat → Nat → Int32) (gl : Nat → Nat → Int64) (hh : Nat → Nat → Option Nat) (v : Nat → Value) (tx : mm_W) (l3 : Int32)  (P : Option Value → mm_W → Prop)
    (h : ((¬ l3 = (-1)) → WP X (d + 1) 251 (63, [some (.ref 74), none, none, some (.int l3)], [], Wd f fl g gl hh v tx) P) ∧
    ((l3 = (-1)) → (((¬ ((g 76) 12) = 12) → WP X (d + 1) 251 (71, [some (.ref 74), none, none, some (.int l3)], [], Wd f fl g gl hh v tx) P) ∧
      ((((g 76) 12) = 12) → WP X (d + 1) 251 (63, [some (.ref 74), none, none, some (.int l3)], [], Wd f fl g gl hh v tx) P)))) :
    WP X (d + 1) 251 (49, [some (.ref 74), none, none, some (.int l3)], [], Wd f fl g gl hh v tx) P := by
  refine WP.run hP_251 2 (c' := (51, [some (.ref 74), none, none, some (.int l3)], [.int (-1), .int l3], Wd f fl g gl hh v tx)) rfl ?_
  refine WP.br hP_251 (q := ¬ l3 = (-1)) (t := 63) (f := 54) (L := [some (.ref 74), none, none, some (.int l3)]) (st := []) (w := Wd f fl g gl hh v tx) rfl (fun c1 => ?_) (fun c1 => ?_)
  · have h2 := h.1 c1
    exact h2
  · have h3 := h.2 (Classical.not_not.mp c1)
    refine WP.run hP_251 1 (c' := (55, [some (.ref 74), none, none, some (.int l3)], [.ref 74], Wd f fl g gl hh v tx)) rfl ?_
    refine WP.call hP_251 hP_130 (as := [.ref 74]) (pc' := 58) (L' := [some (.ref 74), none, none, some (.int l3)]) (st' := []) (w1 := Wd f fl g gl hh v tx) rfl ⟨Nat.le_of_ble_eq_true rfl, Nat.le_of_ble_eq_true rfl⟩ rfl (b_m_size_0 X (d) f fl g gl hh v tx  _ ?_)
    refine WP.run hP_251 1 (c' := (60, [some (.ref 74), none, none, some (.int l3)], [.int 12, .int ((g 76) 12)], Wd f fl g gl hh v tx)) rfl ?_
    refine WP.br hP_251 (q := ¬ ((g 76) 12) = 12) (t := 71) (f := 63) (L := [some (.ref 74), none, none, some (.int l3)]) (st := []) (w := Wd f fl g gl hh v tx) rfl (fun c4 => ?_) (fun c4 => ?_)
    · have h5 := h3.1 c4
      exact h5
    · have h6 := h3.2 (Classical.not_not.mp c4)
      exact h6

set_option maxRecDepth 20000 in
theorem b_m_dayIsDrawn_63 (X : mm_X) (d : Nat) (f : Nat → Int32) (fl : Nat → Int64) (g : Nat → Nat → Int32) (gl : Nat → Nat → Int64) (hh : Nat → Nat → Option Nat) (v : Nat → Value) (tx : mm_W) (l3 : Int32)  (P : Option Value → mm_W → Prop)
    (h : WP X (d) 251 (71, [some (.ref 74), none, none, some (.int l3)], [], Wd f fl (va_up g 76 (upd (g 76) 12 0)) gl hh v tx) P) :
    WP X (d) 251 (63, [some (.ref 74), none, none, some (.int l3)], [], Wd f fl g gl hh v tx) P := by
  refine WP.run hP_251 4 (c' := (70, [some (.ref 74), none, none, some (.int l3)], [.int 0, .int 12, .ref 76], Wd f fl g gl hh v tx)) rfl ?_
  refine WP.of (fun _ _ => Ex.iast hP_251 (w2 := Wd f fl (va_up g 76 (upd (g 76) 12 0)) gl hh v tx) rfl (Wa_76 _ _ _ _ _ _ _) (by decide) (Ws_76 _ _ _ _ _ _ _ _)) ?_
  exact h

set_option maxRecDepth 20000 in
theorem b_m_dayIsDrawn_71 (X : mm_X) (d : Nat) (f : Nat → Int32) (fl : Nat → Int64) (g : Nat → Nat → Int32) (gl : Nat → Nat → Int64) (hh : Nat → Nat → Option Nat) (v : Nat → Value) (tx : mm_W) (l3 : Int32)  (P : Option Value → mm_W → Prop)
    (h : ((l3 = (-1)) → P (some (.int 0)) (Wd f fl (va_up g 76 (upd (g 76) 22 (((g 76) 22) + (1 : Int32)))) gl hh v tx)) ∧
    ((¬ l3 = (-1)) → P (some (.int 1)) (Wd f fl (va_up g 76 (upd (g 76) 22 (((g 76) 22) + (1 : Int32)))) gl hh v tx))) :
    WP X (d) 251 (71, [some (.ref 74), none, none, some (.int l3)], [], Wd f fl g gl hh v tx) P := by
  refine WP.run hP_251 4 (c' := (78, [some (.ref 74), none, none, some (.int l3)], [.int 22, .ref 76, .int 22, .ref 76], Wd f fl g gl hh v tx)) rfl ?_
  refine WP.of (fun _ _ => Ex.iald hP_251 rfl (Wa_76 _ _ _ _ _ _ _) (by decide)) ?_
  show WP X _ 251 (79, [some (.ref 74), none, none, some (.int l3)], [.int ((g 76) 22), .int 22, .ref 76], Wd f fl g gl hh v tx) P
  refine WP.run hP_251 2 (c' := (81, [some (.ref 74), none, none, some (.int l3)], [.int (((g 76) 22) + (1 : Int32)), .int 22, .ref 76], Wd f fl g gl hh v tx)) rfl ?_
  refine WP.of (fun _ _ => Ex.iast hP_251 (w2 := Wd f fl (va_up g 76 (upd (g 76) 22 (((g 76) 22) + (1 : Int32)))) gl hh v tx) rfl (Wa_76 _ _ _ _ _ _ _) (by decide) (Ws_76 _ _ _ _ _ _ _ _)) ?_
  refine WP.run hP_251 2 (c' := (84, [some (.ref 74), none, none, some (.int l3)], [.int (-1), .int l3], Wd f fl (va_up g 76 (upd (g 76) 22 (((g 76) 22) + (1 : Int32)))) gl hh v tx)) rfl ?_
  refine WP.br hP_251 (q := l3 = (-1)) (t := 91) (f := 87) (L := [some (.ref 74), none, none, some (.int l3)]) (st := []) (w := Wd f fl (va_up g 76 (upd (g 76) 22 (((g 76) 22) + (1 : Int32)))) gl hh v tx) rfl (fun c1 => ?_) (fun c1 => ?_)
  · have h2 := h.1 c1
    refine WP.run hP_251 1 (c' := (92, [none, none, none, none], [.int 0], Wd f fl (va_up g 76 (upd (g 76) 22 (((g 76) 22) + (1 : Int32)))) gl hh v tx)) rfl ?_
    exact WP.ret hP_251 (r := some (.int 0)) (w' := Wd f fl (va_up g 76 (upd (g 76) 22 (((g 76) 22) + (1 : Int32)))) gl hh v tx) rfl h2
  · have h3 := h.2 c1
    refine WP.run hP_251 2 (c' := (92, [some (.ref 74), none, none, some (.int l3)], [.int 1], Wd f fl (va_up g 76 (upd (g 76) 22 (((g 76) 22) + (1 : Int32)))) gl hh v tx)) rfl ?_
    exact WP.ret hP_251 (r := some (.int 1)) (w' := Wd f fl (va_up g 76 (upd (g 76) 22 (((g 76) 22) + (1 : Int32)))) gl hh v tx) rfl h3

set_option maxRecDepth 20000 in
theorem b_m_months_0 (X : mm_X) (d : Nat) (f : Nat → Int32) (fl : Nat → Int64) (g : Nat → Nat → Int32) (gl : Nat → Nat → Int64) (hh : Nat → Nat → Option Nat) (v : Nat → Value) (tx : mm_W) (p0 : Int32) (p1 : Int32)  (P : Option Value → mm_W → Prop)
    (h : (((0 : Int32) ≤ p0 ∧ p0 ≤ (1000000 : Int32)) → ((((1 : Int32) ≤ p1 ∧ p1 ≤ (60 : Int32)) → (((¬ ((g 76) 56) = 0) → WP X (d) 125 (0, [some (.ref 74), some (.int 0), none], [], Wd (va_up (va_up f 4787 p0) 4786 ((g 76) 56)) fl g gl hh v tx) (fun rv w2 => WP X (d + 1) 252 (64, [some (.ref 74), some (.int p0), some (.int p1), none, none], rv.toList ++ [], w2) P)) ∧
        ((((g 76) 56) = 0) → P (some (.int (-3))) (Wd (va_up f 4736 (-3 : Int32)) fl (va_up g 75 (upd (g 75) (3) (((g 75) 3) + (1 : Int32)))) gl hh v tx)))) ∧
      ((¬ ((1 : Int32) ≤ p1 ∧ p1 ≤ (60 : Int32))) → P (some (.int (-1))) (Wd (va_up f 4736 (-1 : Int32)) fl (va_up g 75 (upd (g 75) (1) (((g 75) 1) + (1 : Int32)))) gl hh v tx)))) ∧
    ((¬ ((0 : Int32) ≤ p0 ∧ p0 ≤ (1000000 : Int32))) → P (some (.int (-1))) (Wd (va_up f 4736 (-1 : Int32)) fl (va_up g 75 (upd (g 75) (1) (((g 75) 1) + (1 : Int32)))) gl hh v tx))) :
    WP X (d + 1) 252 (0, [some (.ref 74), some (.int p0), some (.int p1), none, none], [], Wd f fl g gl hh v tx) P := by
  refine WP.run hP_252 3 (c' := (4, [some (.ref 74), some (.int p0), some (.int p1), none, none], [.int 1000000, .int 0, .int p0], Wd f fl g gl hh v tx)) rfl ?_
  refine WP.call hP_252 hP_116 (as := [.int p0, .int 0, .int 1000000]) (pc' := 7) (L' := [some (.ref 74), some (.int p0), some (.int p1), none, none]) (st' := []) (w1 := Wd f fl g gl hh v tx) rfl ⟨Nat.le_of_ble_eq_true rfl, Nat.le_of_ble_eq_true rfl⟩ rfl (b_lies_m X (d) f fl g gl hh v tx p0 0 1000000 _ ?_)
  refine ⟨fun c1 => ?_, fun c1 => ?_⟩
  · have h2 := h.1 c1
    refine WP.run hP_252 4 (c' := (14, [some (.ref 74), some (.int p0), some (.int p1), none, none], [.int 60, .int 1, .int p1], Wd f fl g gl hh v tx)) rfl ?_
    refine WP.call hP_252 hP_116 (as := [.int p1, .int 1, .int 60]) (pc' := 17) (L' := [some (.ref 74), some (.int p0), some (.int p1), none, none]) (st' := []) (w1 := Wd f fl g gl hh v tx) rfl ⟨Nat.le_of_ble_eq_true rfl, Nat.le_of_ble_eq_true rfl⟩ rfl (b_lies_m X (d) f fl g gl hh v tx p1 1 60 _ ?_)
    refine ⟨fun c3 => ?_, fun c3 => ?_⟩
    · have h4 := h2.1 c3
      refine WP.run hP_252 4 (c' := (32, [some (.ref 74), some (.int p0), some (.int p1), none, none], [.int 56, .ref 76], Wd f fl g gl hh v tx)) rfl ?_
      refine WP.of (fun _ _ => Ex.iald hP_252 rfl (Wa_76 _ _ _ _ _ _ _) (by decide)) ?_
      show WP X _ 252 (33, [some (.ref 74), some (.int p0), some (.int p1), none, none], [.int ((g 76) 56)], Wd f fl g gl hh v tx) P
      refine WP.br hP_252 (q := ¬ ((g 76) 56) = 0) (t := 43) (f := 36) (L := [some (.ref 74), some (.int p0), some (.int p1), none, none]) (st := []) (w := Wd f fl g gl hh v tx) rfl (fun c5 => ?_) (fun c5 => ?_)
      · have h6 := h4.1 c5
        refine WP.run hP_252 7 (c' := (55, [some (.ref 74), some (.int p0), some (.int p1), none, none], [.int 56, .ref 76, .ref 74], Wd (va_up f 4787 p0) fl g gl hh v tx)) rfl ?_
        refine WP.of (fun _ _ => Ex.iald hP_252 rfl (Wa_76 _ _ _ _ _ _ _) (by decide)) ?_
        show WP X _ 252 (56, [some (.ref 74), some (.int p0), some (.int p1), none, none], [.int ((g 76) 56), .ref 74], Wd (va_up f 4787 p0) fl g gl hh v tx) P
        refine WP.run hP_252 3 (c' := (61, [some (.ref 74), some (.int p0), some (.int p1), none, none], [.int 0, .ref 74], Wd (va_up (va_up f 4787 p0) 4786 ((g 76) 56)) fl g gl hh v tx)) rfl ?_
        refine WP.call hP_252 hP_125 (as := [.ref 74, .int 0]) (pc' := 64) (L' := [some (.ref 74), some (.int p0), some (.int p1), none, none]) (st' := []) (w1 := Wd (va_up (va_up f 4787 p0) 4786 ((g 76) 56)) fl g gl hh v tx) rfl ⟨Nat.le_of_ble_eq_true rfl, Nat.le_of_ble_eq_true rfl⟩ rfl ?_
        exact h6
      · have h7 := h4.2 (Classical.not_not.mp c5)
        refine WP.run hP_252 2 (c' := (39, [some (.ref 74), some (.int p0), some (.int p1), none, none], [.int (-3), .ref 74], Wd f fl g gl hh v tx)) rfl ?_
        refine WP.call hP_252 hP_119 (as := [.ref 74, .int (-3)]) (pc' := 42) (L' := [some (.ref 74), some (.int p0), some (.int p1), none, none]) (st' := []) (w1 := Wd f fl g gl hh v tx) rfl ⟨Nat.le_of_ble_eq_true rfl, Nat.le_of_ble_eq_true rfl⟩ rfl (b_m_refuses_0 X (d) f fl g gl hh v tx (-3) _ ?_)
        refine ⟨by decide, ?_⟩
        refine ⟨by decide, ?_⟩
        exact WP.retI hP_252 rfl rfl h7
    · have h8 := h2.2 c3
      refine WP.run hP_252 3 (c' := (22, [some (.ref 74), none, none, none, none], [.int (-1), .ref 74], Wd f fl g gl hh v tx)) rfl ?_
      refine WP.call hP_252 hP_119 (as := [.ref 74, .int (-1)]) (pc' := 25) (L' := [some (.ref 74), none, none, none, none]) (st' := []) (w1 := Wd f fl g gl hh v tx) rfl ⟨Nat.le_of_ble_eq_true rfl, Nat.le_of_ble_eq_true rfl⟩ rfl (b_m_refuses_0 X (d) f fl g gl hh v tx (-1) _ ?_)
      refine ⟨by decide, ?_⟩
      refine ⟨by decide, ?_⟩
      exact WP.retI hP_252 rfl rfl h8
  · have h9 := h.2 c1
    refine WP.run hP_252 3 (c' := (22, [some (.ref 74), none, none, none, none], [.int (-1), .ref 74], Wd f fl g gl hh v tx)) rfl ?_
    refine WP.call hP_252 hP_119 (as := [.ref 74, .int (-1)]) (pc' := 25) (L' := [some (.ref 74), none, none, none, none]) (st' := []) (w1 := Wd f fl g gl hh v tx) rfl ⟨Nat.le_of_ble_eq_true rfl, Nat.le_of_ble_eq_true rfl⟩ rfl (b_m_refuses_0 X (d) f fl g gl hh v tx (-1) _ ?_)
    refine ⟨by decide, ?_⟩
    refine ⟨by decide, ?_⟩
    exact WP.retI hP_252 rfl rfl h9

set_option maxRecDepth 20000 in
theorem b_m_months_64 (X : mm_X) (d : Nat) (f : Nat → Int32) (fl : Nat → Int64) (g : Nat → Nat → Int32) (gl : Nat → Nat → Int64) (hh : Nat → Nat → Option Nat) (v : Nat → Value) (tx : mm_W) (l1 : Int32) (l2 : Int32)  (P : Option Value → mm_W → Prop)
    (h : WP X (d) 252 (69, [some (.ref 74), none, some (.int l2), some (.int 0), some (.int 0)], [], Wd f fl g gl hh v tx) P) :
    WP X (d) 252 (64, [some (.ref 74), some (.int l1), some (.int l2), none, none], [], Wd f fl g gl hh v tx) P := by
  refine WP.run hP_252 3 (c' := (67, [some (.ref 74), some (.int l1), some (.int l2), some (.int 0), none], [.int 0], Wd f fl g gl hh v tx)) rfl ?_
  refine WP.run hP_252 1 (c' := (69, [some (.ref 74), some (.int l1), some (.int l2), some (.int 0), some (.int 0)], [], Wd f fl g gl hh v tx)) rfl ?_
  refine WP.clr hP_252 (pc := 69) rfl ?_
  exact h

set_option maxRecDepth 20000 in
theorem b_m_months_69 (X : mm_X) (d : Nat) (f : Nat → Int32) (fl : Nat → Int64) (g : Nat → Nat → Int32) (gl : Nat → Nat → Int64) (hh : Nat → Nat → Option Nat) (v : Nat → Value) (tx : mm_W) (l2 : Int32) (l3 : Int32) (l4 : Int32)  (P : Option Value → mm_W → Prop)
    (h : ((l2 ≤ l4) → WP X (d + 1) 252 (112, [some (.ref 74), none, none, some (.int l3), some (.int 0)], [], Wd f fl g gl hh v tx) P) ∧
    ((¬ (l2 ≤ l4)) → (((999 ≤ ((g 76) 22)) → WP X (d + 1) 252 (112, [some (.ref 74), none, none, some (.int l3), some (.int 0)], [], Wd f fl g gl hh v tx) P) ∧
      ((¬ (999 ≤ ((g 76) 22))) → WP X (d) 251 (0, [some (.ref 74), none, none, none], [], Wd f fl g gl hh v tx) (fun rv w2 => WP X (d + 1) 252 (93, [some (.ref 74), none, some (.int l2), some (.int l3), some (.int l4)], rv.toList ++ [.int l3], w2) P))))) :
    WP X (d + 1) 252 (69, [some (.ref 74), none, some (.int l2), some (.int l3), some (.int l4)], [], Wd f fl g gl hh v tx) P := by
  refine WP.run hP_252 2 (c' := (72, [some (.ref 74), none, some (.int l2), some (.int l3), some (.int l4)], [.int l2, .int l4], Wd f fl g gl hh v tx)) rfl ?_
  refine WP.br hP_252 (q := l2 ≤ l4) (t := 109) (f := 75) (L := [some (.ref 74), none, some (.int l2), some (.int l3), some (.int l4)]) (st := []) (w := Wd f fl g gl hh v tx) rfl (fun c1 => ?_) (fun c1 => ?_)
  · have h2 := h.1 c1
    refine WP.run hP_252 1 (c' := (110, [some (.ref 74), none, none, some (.int l3), none], [.int 0], Wd f fl g gl hh v tx)) rfl ?_
    refine WP.run hP_252 1 (c' := (112, [some (.ref 74), none, none, some (.int l3), some (.int 0)], [], Wd f fl g gl hh v tx)) rfl ?_
    exact h2
  · have h3 := h.2 c1
    refine WP.run hP_252 3 (c' := (81, [some (.ref 74), none, some (.int l2), some (.int l3), some (.int l4)], [.int 22, .ref 76], Wd f fl g gl hh v tx)) rfl ?_
    refine WP.of (fun _ _ => Ex.iald hP_252 rfl (Wa_76 _ _ _ _ _ _ _) (by decide)) ?_
    show WP X _ 252 (82, [some (.ref 74), none, some (.int l2), some (.int l3), some (.int l4)], [.int ((g 76) 22)], Wd f fl g gl hh v tx) P
    refine WP.run hP_252 1 (c' := (85, [some (.ref 74), none, some (.int l2), some (.int l3), some (.int l4)], [.int 999, .int ((g 76) 22)], Wd f fl g gl hh v tx)) rfl ?_
    refine WP.br hP_252 (q := 999 ≤ ((g 76) 22)) (t := 109) (f := 88) (L := [some (.ref 74), none, some (.int l2), some (.int l3), some (.int l4)]) (st := []) (w := Wd f fl g gl hh v tx) rfl (fun c4 => ?_) (fun c4 => ?_)
    · have h5 := h3.1 c4
      refine WP.run hP_252 1 (c' := (110, [some (.ref 74), none, none, some (.int l3), none], [.int 0], Wd f fl g gl hh v tx)) rfl ?_
      refine WP.run hP_252 1 (c' := (112, [some (.ref 74), none, none, some (.int l3), some (.int 0)], [], Wd f fl g gl hh v tx)) rfl ?_
      exact h5
    · have h6 := h3.2 c4
      refine WP.run hP_252 2 (c' := (90, [some (.ref 74), none, some (.int l2), some (.int l3), some (.int l4)], [.ref 74, .int l3], Wd f fl g gl hh v tx)) rfl ?_
      refine WP.call hP_252 hP_251 (as := [.ref 74]) (pc' := 93) (L' := [some (.ref 74), none, some (.int l2), some (.int l3), some (.int l4)]) (st' := [.int l3]) (w1 := Wd f fl g gl hh v tx) rfl ⟨Nat.le_of_ble_eq_true rfl, Nat.le_of_ble_eq_true rfl⟩ rfl ?_
      exact h6

set_option maxRecDepth 20000 in
theorem b_m_months_112 (X : mm_X) (d : Nat) (f : Nat → Int32) (fl : Nat → Int64) (g : Nat → Nat → Int32) (gl : Nat → Nat → Int64) (hh : Nat → Nat → Option Nat) (v : Nat → Value) (tx : mm_W) (l3 : Int32) (l4 : Int32)  (P : Option Value → mm_W → Prop)
    (h : ((23 ≤ l4) → WP X (d) 126 (0, [some (.ref 74), some (.int 0), none], [], Wd f fl g gl hh v tx) (fun rv w2 => WP X (d + 1) 252 (144, [some (.ref 74), none, none, some (.int l3), none], rv.toList ++ [], w2) P)) ∧
    ((¬ (23 ≤ l4)) → ((¬ (l4 < 0 ∨ 5667 ≤ l4.toNatClampNeg)) ∧ ((¬ (l4 < 0 ∨ 23 ≤ l4.toNatClampNeg)) ∧ WP X (d + 1) 252 (112, [some (.ref 74), none, none, some (.int l3), some (.int (l4 + (1 : Int32)))], [], Wd f fl (va_up g 99 (upd (g 99) (l4.toNatClampNeg) ((g 76) l4.toNatClampNeg))) gl hh v tx) P)))) :
    WP X (d + 1) 252 (112, [some (.ref 74), none, none, some (.int l3), some (.int l4)], [], Wd f fl g gl hh v tx) P := by
  refine WP.run hP_252 2 (c' := (116, [some (.ref 74), none, none, some (.int l3), some (.int l4)], [.int 23, .int l4], Wd f fl g gl hh v tx)) rfl ?_
  refine WP.br hP_252 (q := 23 ≤ l4) (t := 139) (f := 119) (L := [some (.ref 74), none, none, some (.int l3), some (.int l4)]) (st := []) (w := Wd f fl g gl hh v tx) rfl (fun c1 => ?_) (fun c1 => ?_)
  · have h2 := h.1 c1
    refine WP.run hP_252 2 (c' := (141, [some (.ref 74), none, none, some (.int l3), none], [.int 0, .ref 74], Wd f fl g gl hh v tx)) rfl ?_
    refine WP.call hP_252 hP_126 (as := [.ref 74, .int 0]) (pc' := 144) (L' := [some (.ref 74), none, none, some (.int l3), none]) (st' := []) (w1 := Wd f fl g gl hh v tx) rfl ⟨Nat.le_of_ble_eq_true rfl, Nat.le_of_ble_eq_true rfl⟩ rfl ?_
    exact h2
  · have h3 := h.2 c1
    refine WP.run hP_252 6 (c' := (131, [some (.ref 74), none, none, some (.int l3), some (.int l4)], [.int l4, .ref 76, .int l4, .ref 99], Wd f fl g gl hh v tx)) rfl ?_
    refine WP.of (fun _ _ => Ex.iald hP_252 rfl (Wa_76 _ _ _ _ _ _ _) h3.1) ?_
    have h4 := h3.2
    refine WP.of (fun _ _ => Ex.iast hP_252 (w2 := Wd f fl (va_up g 99 (upd (g 99) (l4.toNatClampNeg) ((g 76) l4.toNatClampNeg))) gl hh v tx) rfl (Wa_99 _ _ _ _ _ _ _) h4.1 (Ws_99 _ _ _ _ _ _ _ _)) ?_
    have h5 := h4.2
    refine WP.run hP_252 2 (c' := (112, [some (.ref 74), none, none, some (.int l3), some (.int (l4 + (1 : Int32)))], [], Wd f fl (va_up g 99 (upd (g 99) (l4.toNatClampNeg) ((g 76) l4.toNatClampNeg))) gl hh v tx)) rfl ?_
    exact h5

set_option maxRecDepth 20000 in
theorem b_m_months_93 (X : mm_X) (d : Nat) (f : Nat → Int32) (fl : Nat → Int64) (g : Nat → Nat → Int32) (gl : Nat → Nat → Int64) (hh : Nat → Nat → Option Nat) (v : Nat → Value) (tx : mm_W) (l2 : Int32) (l3 : Int32) (l4 : Int32) (s0 : Int32) (s1 : Int32)  (P : Option Value → mm_W → Prop)
    (h : ((s0 = 0) → WP X (d) 252 (69, [some (.ref 74), none, some (.int l2), some (.int (s1 + (0 : Int32))), some (.int (l4 + (1 : Int32)))], [], Wd f fl g gl hh v tx) P) ∧
    ((¬ s0 = 0) → WP X (d) 252 (69, [some (.ref 74), none, some (.int l2), some (.int (s1 + (1 : Int32))), some (.int (l4 + (1 : Int32)))], [], Wd f fl g gl hh v tx) P)) :
    WP X (d) 252 (93, [some (.ref 74), none, some (.int l2), some (.int l3), some (.int l4)], [.int s0, .int s1], Wd f fl g gl hh v tx) P := by
  refine WP.br hP_252 (q := s0 = 0) (t := 100) (f := 96) (L := [some (.ref 74), none, some (.int l2), some (.int l3), some (.int l4)]) (st := [.int s1]) (w := Wd f fl g gl hh v tx) rfl (fun c1 => ?_) (fun c1 => ?_)
  · have h2 := h.1 c1
    refine WP.run hP_252 1 (c' := (101, [some (.ref 74), none, some (.int l2), none, some (.int l4)], [.int 0, .int s1], Wd f fl g gl hh v tx)) rfl ?_
    refine WP.run hP_252 1 (c' := (102, [some (.ref 74), none, some (.int l2), none, some (.int l4)], [.int (s1 + (0 : Int32))], Wd f fl g gl hh v tx)) rfl ?_
    refine WP.run hP_252 1 (c' := (103, [some (.ref 74), none, some (.int l2), some (.int (s1 + (0 : Int32))), some (.int l4)], [], Wd f fl g gl hh v tx)) rfl ?_
    refine WP.run hP_252 2 (c' := (69, [some (.ref 74), none, some (.int l2), some (.int (s1 + (0 : Int32))), some (.int (l4 + (1 : Int32)))], [], Wd f fl g gl hh v tx)) rfl ?_
    exact h2
  · have h3 := h.2 c1
    refine WP.run hP_252 3 (c' := (102, [some (.ref 74), none, some (.int l2), none, some (.int l4)], [.int (s1 + (1 : Int32))], Wd f fl g gl hh v tx)) rfl ?_
    refine WP.run hP_252 1 (c' := (103, [some (.ref 74), none, some (.int l2), some (.int (s1 + (1 : Int32))), some (.int l4)], [], Wd f fl g gl hh v tx)) rfl ?_
    refine WP.run hP_252 2 (c' := (69, [some (.ref 74), none, some (.int l2), some (.int (s1 + (1 : Int32))), some (.int (l4 + (1 : Int32)))], [], Wd f fl g gl hh v tx)) rfl ?_
    exact h3

set_option maxRecDepth 20000 in
theorem b_m_months_144 (X : mm_X) (d : Nat) (f : Nat → Int32) (fl : Nat → Int64) (g : Nat → Nat → Int32) (gl : Nat → Nat → Int64) (hh : Nat → Nat → Option Nat) (v : Nat → Value) (tx : mm_W) (l3 : Int32)  (P : Option Value → mm_W → Prop)
    (h : P (some (.int l3)) (Wd (va_up f 4736 0) fl g gl hh v tx)) :
    WP X (d + 1) 252 (144, [some (.ref 74), none, none, some (.int l3), none], [], Wd f fl g gl hh v tx) P := by
  refine WP.run hP_252 2 (c' := (146, [some (.ref 74), none, none, some (.int l3), none], [.int l3, .ref 74], Wd f fl g gl hh v tx)) rfl ?_
  refine WP.call hP_252 hP_120 (as := [.ref 74, .int l3]) (pc' := 149) (L' := [some (.ref 74), none, none, some (.int l3), none]) (st' := []) (w1 := Wd f fl g gl hh v tx) rfl ⟨Nat.le_of_ble_eq_true rfl, Nat.le_of_ble_eq_true rfl⟩ rfl (b_m_good_0 X (d) f fl g gl hh v tx l3 _ ?_)
  exact WP.retI hP_252 rfl rfl h
