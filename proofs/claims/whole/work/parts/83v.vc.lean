set_option maxRecDepth 20000 in
theorem b_yst_copy_10_1_0 (X : mm_X) (d : Nat) (f : Nat → Int32) (fl : Nat → Int64) (g : Nat → Nat → Int32) (gl : Nat → Nat → Int64) (hh : Nat → Nat → Option Nat) (v : Nat → Value) (tx : mm_W)   (P : Option Value → mm_W → Prop)
    (h : WP X (d) 45 (169, [some (.ref 10), some (.ref 1), some (.int 0)], [], Wd (va_up (va_up (va_up (va_up (va_up (va_up (va_up (va_up f 640 (f 64)) 644 (f 68)) 646 (f 70)) 647 (f 71)) 648 (f 72)) 650 (f 74)) 652 (f 76)) 654 (f 78)) fl (va_up (va_up (va_up (va_up (va_up (va_up (va_up g 11 (va_cpy (g 2) (g 11) 0 0 8)) 12 (va_cpy (g 3) (g 12) 0 0 8)) 13 (va_cpy (g 4) (g 13) 0 0 8)) 14 (va_cpy (g 5) (g 14) 0 0 3)) 15 (va_cpy (g 6) (g 15) 0 0 6)) 17 (va_cpy (g 8) (g 17) 0 0 3)) 18 (va_cpy (g 9) (g 18) 0 0 16)) gl hh v tx) P) :
    WP X (d) 45 (0, [some (.ref 10), some (.ref 1), none], [], Wd f fl g gl hh v tx) P := by
  refine WP.run hP_45 39 (c' := (76, [some (.ref 10), some (.ref 1), none], [.int 8, .int 0, .ref 11, .int 0, .ref 2], Wd (va_up (va_up (va_up (va_up (va_up (va_up (va_up (va_up f 640 (f 64)) 644 (f 68)) 646 (f 70)) 647 (f 71)) 648 (f 72)) 650 (f 74)) 652 (f 76)) 654 (f 78)) fl g gl hh v tx)) rfl ?_
  refine WP.of (fun _ _ => Ex.acopy hP_45 (w2 := Wd (va_up (va_up (va_up (va_up (va_up (va_up (va_up (va_up f 640 (f 64)) 644 (f 68)) 646 (f 70)) 647 (f 71)) 648 (f 72)) 650 (f 74)) 652 (f 76)) 654 (f 78)) fl (va_up g 11 (va_cpy (g 2) (g 11) 0 0 8)) gl hh v tx) rfl rfl (Wa_2 _ _ _ _ _ _ _) (Wa_11 _ _ _ _ _ _ _) (by decide) (Ws_11 _ _ _ _ _ _ _ _)) ?_
  refine WP.run hP_45 7 (c' := (91, [some (.ref 10), some (.ref 1), none], [.int 8, .int 0, .ref 12, .int 0, .ref 3], Wd (va_up (va_up (va_up (va_up (va_up (va_up (va_up (va_up f 640 (f 64)) 644 (f 68)) 646 (f 70)) 647 (f 71)) 648 (f 72)) 650 (f 74)) 652 (f 76)) 654 (f 78)) fl (va_up g 11 (va_cpy (g 2) (g 11) 0 0 8)) gl hh v tx)) rfl ?_
  refine WP.of (fun _ _ => Ex.acopy hP_45 (w2 := Wd (va_up (va_up (va_up (va_up (va_up (va_up (va_up (va_up f 640 (f 64)) 644 (f 68)) 646 (f 70)) 647 (f 71)) 648 (f 72)) 650 (f 74)) 652 (f 76)) 654 (f 78)) fl (va_up (va_up g 11 (va_cpy (g 2) (g 11) 0 0 8)) 12 (va_cpy (g 3) (g 12) 0 0 8)) gl hh v tx) rfl rfl (Wa_3 _ _ _ _ _ _ _) (Wa_12 _ _ _ _ _ _ _) (by decide) (Ws_12 _ _ _ _ _ _ _ _)) ?_
  refine WP.run hP_45 7 (c' := (106, [some (.ref 10), some (.ref 1), none], [.int 8, .int 0, .ref 13, .int 0, .ref 4], Wd (va_up (va_up (va_up (va_up (va_up (va_up (va_up (va_up f 640 (f 64)) 644 (f 68)) 646 (f 70)) 647 (f 71)) 648 (f 72)) 650 (f 74)) 652 (f 76)) 654 (f 78)) fl (va_up (va_up g 11 (va_cpy (g 2) (g 11) 0 0 8)) 12 (va_cpy (g 3) (g 12) 0 0 8)) gl hh v tx)) rfl ?_
  refine WP.of (fun _ _ => Ex.acopy hP_45 (w2 := Wd (va_up (va_up (va_up (va_up (va_up (va_up (va_up (va_up f 640 (f 64)) 644 (f 68)) 646 (f 70)) 647 (f 71)) 648 (f 72)) 650 (f 74)) 652 (f 76)) 654 (f 78)) fl (va_up (va_up (va_up g 11 (va_cpy (g 2) (g 11) 0 0 8)) 12 (va_cpy (g 3) (g 12) 0 0 8)) 13 (va_cpy (g 4) (g 13) 0 0 8)) gl hh v tx) rfl rfl (Wa_4 _ _ _ _ _ _ _) (Wa_13 _ _ _ _ _ _ _) (by decide) (Ws_13 _ _ _ _ _ _ _ _)) ?_
  refine WP.run hP_45 7 (c' := (120, [some (.ref 10), some (.ref 1), none], [.int 3, .int 0, .ref 14, .int 0, .ref 5], Wd (va_up (va_up (va_up (va_up (va_up (va_up (va_up (va_up f 640 (f 64)) 644 (f 68)) 646 (f 70)) 647 (f 71)) 648 (f 72)) 650 (f 74)) 652 (f 76)) 654 (f 78)) fl (va_up (va_up (va_up g 11 (va_cpy (g 2) (g 11) 0 0 8)) 12 (va_cpy (g 3) (g 12) 0 0 8)) 13 (va_cpy (g 4) (g 13) 0 0 8)) gl hh v tx)) rfl ?_
  refine WP.of (fun _ _ => Ex.acopy hP_45 (w2 := Wd (va_up (va_up (va_up (va_up (va_up (va_up (va_up (va_up f 640 (f 64)) 644 (f 68)) 646 (f 70)) 647 (f 71)) 648 (f 72)) 650 (f 74)) 652 (f 76)) 654 (f 78)) fl (va_up (va_up (va_up (va_up g 11 (va_cpy (g 2) (g 11) 0 0 8)) 12 (va_cpy (g 3) (g 12) 0 0 8)) 13 (va_cpy (g 4) (g 13) 0 0 8)) 14 (va_cpy (g 5) (g 14) 0 0 3)) gl hh v tx) rfl rfl (Wa_5 _ _ _ _ _ _ _) (Wa_14 _ _ _ _ _ _ _) (by decide) (Ws_14 _ _ _ _ _ _ _ _)) ?_
  refine WP.run hP_45 7 (c' := (135, [some (.ref 10), some (.ref 1), none], [.int 6, .int 0, .ref 15, .int 0, .ref 6], Wd (va_up (va_up (va_up (va_up (va_up (va_up (va_up (va_up f 640 (f 64)) 644 (f 68)) 646 (f 70)) 647 (f 71)) 648 (f 72)) 650 (f 74)) 652 (f 76)) 654 (f 78)) fl (va_up (va_up (va_up (va_up g 11 (va_cpy (g 2) (g 11) 0 0 8)) 12 (va_cpy (g 3) (g 12) 0 0 8)) 13 (va_cpy (g 4) (g 13) 0 0 8)) 14 (va_cpy (g 5) (g 14) 0 0 3)) gl hh v tx)) rfl ?_
  refine WP.of (fun _ _ => Ex.acopy hP_45 (w2 := Wd (va_up (va_up (va_up (va_up (va_up (va_up (va_up (va_up f 640 (f 64)) 644 (f 68)) 646 (f 70)) 647 (f 71)) 648 (f 72)) 650 (f 74)) 652 (f 76)) 654 (f 78)) fl (va_up (va_up (va_up (va_up (va_up g 11 (va_cpy (g 2) (g 11) 0 0 8)) 12 (va_cpy (g 3) (g 12) 0 0 8)) 13 (va_cpy (g 4) (g 13) 0 0 8)) 14 (va_cpy (g 5) (g 14) 0 0 3)) 15 (va_cpy (g 6) (g 15) 0 0 6)) gl hh v tx) rfl rfl (Wa_6 _ _ _ _ _ _ _) (Wa_15 _ _ _ _ _ _ _) (by decide) (Ws_15 _ _ _ _ _ _ _ _)) ?_
  refine WP.run hP_45 7 (c' := (149, [some (.ref 10), some (.ref 1), none], [.int 3, .int 0, .ref 17, .int 0, .ref 8], Wd (va_up (va_up (va_up (va_up (va_up (va_up (va_up (va_up f 640 (f 64)) 644 (f 68)) 646 (f 70)) 647 (f 71)) 648 (f 72)) 650 (f 74)) 652 (f 76)) 654 (f 78)) fl (va_up (va_up (va_up (va_up (va_up g 11 (va_cpy (g 2) (g 11) 0 0 8)) 12 (va_cpy (g 3) (g 12) 0 0 8)) 13 (va_cpy (g 4) (g 13) 0 0 8)) 14 (va_cpy (g 5) (g 14) 0 0 3)) 15 (va_cpy (g 6) (g 15) 0 0 6)) gl hh v tx)) rfl ?_
  refine WP.of (fun _ _ => Ex.acopy hP_45 (w2 := Wd (va_up (va_up (va_up (va_up (va_up (va_up (va_up (va_up f 640 (f 64)) 644 (f 68)) 646 (f 70)) 647 (f 71)) 648 (f 72)) 650 (f 74)) 652 (f 76)) 654 (f 78)) fl (va_up (va_up (va_up (va_up (va_up (va_up g 11 (va_cpy (g 2) (g 11) 0 0 8)) 12 (va_cpy (g 3) (g 12) 0 0 8)) 13 (va_cpy (g 4) (g 13) 0 0 8)) 14 (va_cpy (g 5) (g 14) 0 0 3)) 15 (va_cpy (g 6) (g 15) 0 0 6)) 17 (va_cpy (g 8) (g 17) 0 0 3)) gl hh v tx) rfl rfl (Wa_8 _ _ _ _ _ _ _) (Wa_17 _ _ _ _ _ _ _) (by decide) (Ws_17 _ _ _ _ _ _ _ _)) ?_
  refine WP.run hP_45 7 (c' := (164, [some (.ref 10), some (.ref 1), none], [.int 16, .int 0, .ref 18, .int 0, .ref 9], Wd (va_up (va_up (va_up (va_up (va_up (va_up (va_up (va_up f 640 (f 64)) 644 (f 68)) 646 (f 70)) 647 (f 71)) 648 (f 72)) 650 (f 74)) 652 (f 76)) 654 (f 78)) fl (va_up (va_up (va_up (va_up (va_up (va_up g 11 (va_cpy (g 2) (g 11) 0 0 8)) 12 (va_cpy (g 3) (g 12) 0 0 8)) 13 (va_cpy (g 4) (g 13) 0 0 8)) 14 (va_cpy (g 5) (g 14) 0 0 3)) 15 (va_cpy (g 6) (g 15) 0 0 6)) 17 (va_cpy (g 8) (g 17) 0 0 3)) gl hh v tx)) rfl ?_
  refine WP.of (fun _ _ => Ex.acopy hP_45 (w2 := Wd (va_up (va_up (va_up (va_up (va_up (va_up (va_up (va_up f 640 (f 64)) 644 (f 68)) 646 (f 70)) 647 (f 71)) 648 (f 72)) 650 (f 74)) 652 (f 76)) 654 (f 78)) fl (va_up (va_up (va_up (va_up (va_up (va_up (va_up g 11 (va_cpy (g 2) (g 11) 0 0 8)) 12 (va_cpy (g 3) (g 12) 0 0 8)) 13 (va_cpy (g 4) (g 13) 0 0 8)) 14 (va_cpy (g 5) (g 14) 0 0 3)) 15 (va_cpy (g 6) (g 15) 0 0 6)) 17 (va_cpy (g 8) (g 17) 0 0 3)) 18 (va_cpy (g 9) (g 18) 0 0 16)) gl hh v tx) rfl rfl (Wa_9 _ _ _ _ _ _ _) (Wa_18 _ _ _ _ _ _ _) (by decide) (Ws_18 _ _ _ _ _ _ _ _)) ?_
  refine WP.run hP_45 2 (c' := (169, [some (.ref 10), some (.ref 1), some (.int 0)], [], Wd (va_up (va_up (va_up (va_up (va_up (va_up (va_up (va_up f 640 (f 64)) 644 (f 68)) 646 (f 70)) 647 (f 71)) 648 (f 72)) 650 (f 74)) 652 (f 76)) 654 (f 78)) fl (va_up (va_up (va_up (va_up (va_up (va_up (va_up g 11 (va_cpy (g 2) (g 11) 0 0 8)) 12 (va_cpy (g 3) (g 12) 0 0 8)) 13 (va_cpy (g 4) (g 13) 0 0 8)) 14 (va_cpy (g 5) (g 14) 0 0 3)) 15 (va_cpy (g 6) (g 15) 0 0 6)) 17 (va_cpy (g 8) (g 17) 0 0 3)) 18 (va_cpy (g 9) (g 18) 0 0 16)) gl hh v tx)) rfl ?_
  exact h

set_option maxRecDepth 20000 in
theorem b_yst_copy_10_1_169 (X : mm_X) (d : Nat) (f : Nat → Int32) (fl : Nat → Int64) (g : Nat → Nat → Int32) (gl : Nat → Nat → Int64) (hh : Nat → Nat → Option Nat) (v : Nat → Value) (tx : mm_W) (l2 : Int32)  (P : Option Value → mm_W → Prop)
    (h : ((6 ≤ l2) → P none (Wd f fl g gl hh v tx)) ∧
    ((¬ (6 ≤ l2)) → ((¬ (l2 < 0 ∨ 6 ≤ l2.toNatClampNeg)) ∧ ((¬ (l2 < 0 ∨ 6 ≤ l2.toNatClampNeg)) ∧ ((∀ o, ((hh 7) l2.toNatClampNeg) = some o → ∃ fs, (Wd f fl g gl hh v tx)[o]? = some (.inr (6, fs))) ∧ WP X (d) 45 (169, [some (.ref 10), some (.ref 1), some (.int (l2 + (1 : Int32)))], [], Wd f fl g gl (va_up hh 16 (va_up (hh 16) (l2.toNatClampNeg) ((hh 7) l2.toNatClampNeg))) v tx) P))))) :
    WP X (d) 45 (169, [some (.ref 10), some (.ref 1), some (.int l2)], [], Wd f fl g gl hh v tx) P := by
  refine WP.run hP_45 2 (c' := (172, [some (.ref 10), some (.ref 1), some (.int l2)], [.int 6, .int l2], Wd f fl g gl hh v tx)) rfl ?_
  refine WP.br hP_45 (q := 6 ≤ l2) (t := 193) (f := 175) (L := [some (.ref 10), some (.ref 1), some (.int l2)]) (st := []) (w := Wd f fl g gl hh v tx) rfl (fun c1 => ?_) (fun c1 => ?_)
  · have h2 := h.1 c1
    exact WP.ret hP_45 (r := none) (w' := Wd f fl g gl hh v tx) rfl h2
  · have h3 := h.2 c1
    refine WP.run hP_45 6 (c' := (185, [some (.ref 10), some (.ref 1), some (.int l2)], [.int l2, .ref 7, .int l2, .ref 16], Wd f fl g gl hh v tx)) rfl ?_
    refine WP.of (fun _ _ => Ex.aald4 hP_45 rfl (Wa_7 _ _ _ _ _ _ _) h3.1) ?_
    have h4 := h3.2
    refine WP.of (fun _ _ => Ex.aastV hP_45 (w2 := Wd f fl g gl (va_up hh 16 (va_up (hh 16) (l2.toNatClampNeg) ((hh 7) l2.toNatClampNeg))) v tx) rfl (Wa_16 _ _ _ _ _ _ _) h4.1 h4.2.1 (Ws_16 _ _ _ _ _ _ _ _)) ?_
    have h5 := h4.2
    have h6 := h5.2
    refine WP.run hP_45 2 (c' := (169, [some (.ref 10), some (.ref 1), some (.int (l2 + (1 : Int32)))], [], Wd f fl g gl (va_up hh 16 (va_up (hh 16) (l2.toNatClampNeg) ((hh 7) l2.toNatClampNeg))) v tx)) rfl ?_
    exact h6

set_option maxRecDepth 20000 in
theorem b_yst_copy_1_10_0 (X : mm_X) (d : Nat) (f : Nat → Int32) (fl : Nat → Int64) (g : Nat → Nat → Int32) (gl : Nat → Nat → Int64) (hh : Nat → Nat → Option Nat) (v : Nat → Value) (tx : mm_W)   (P : Option Value → mm_W → Prop)
    (h : WP X (d) 45 (169, [some (.ref 1), some (.ref 10), some (.int 0)], [], Wd (va_up (va_up (va_up (va_up (va_up (va_up (va_up (va_up f 64 (f 640)) 68 (f 644)) 70 (f 646)) 71 (f 647)) 72 (f 648)) 74 (f 650)) 76 (f 652)) 78 (f 654)) fl (va_up (va_up (va_up (va_up (va_up (va_up (va_up g 2 (va_cpy (g 11) (g 2) 0 0 8)) 3 (va_cpy (g 12) (g 3) 0 0 8)) 4 (va_cpy (g 13) (g 4) 0 0 8)) 5 (va_cpy (g 14) (g 5) 0 0 3)) 6 (va_cpy (g 15) (g 6) 0 0 6)) 8 (va_cpy (g 17) (g 8) 0 0 3)) 9 (va_cpy (g 18) (g 9) 0 0 16)) gl hh v tx) P) :
    WP X (d) 45 (0, [some (.ref 1), some (.ref 10), none], [], Wd f fl g gl hh v tx) P := by
  refine WP.run hP_45 39 (c' := (76, [some (.ref 1), some (.ref 10), none], [.int 8, .int 0, .ref 2, .int 0, .ref 11], Wd (va_up (va_up (va_up (va_up (va_up (va_up (va_up (va_up f 64 (f 640)) 68 (f 644)) 70 (f 646)) 71 (f 647)) 72 (f 648)) 74 (f 650)) 76 (f 652)) 78 (f 654)) fl g gl hh v tx)) rfl ?_
  refine WP.of (fun _ _ => Ex.acopy hP_45 (w2 := Wd (va_up (va_up (va_up (va_up (va_up (va_up (va_up (va_up f 64 (f 640)) 68 (f 644)) 70 (f 646)) 71 (f 647)) 72 (f 648)) 74 (f 650)) 76 (f 652)) 78 (f 654)) fl (va_up g 2 (va_cpy (g 11) (g 2) 0 0 8)) gl hh v tx) rfl rfl (Wa_11 _ _ _ _ _ _ _) (Wa_2 _ _ _ _ _ _ _) (by decide) (Ws_2 _ _ _ _ _ _ _ _)) ?_
  refine WP.run hP_45 7 (c' := (91, [some (.ref 1), some (.ref 10), none], [.int 8, .int 0, .ref 3, .int 0, .ref 12], Wd (va_up (va_up (va_up (va_up (va_up (va_up (va_up (va_up f 64 (f 640)) 68 (f 644)) 70 (f 646)) 71 (f 647)) 72 (f 648)) 74 (f 650)) 76 (f 652)) 78 (f 654)) fl (va_up g 2 (va_cpy (g 11) (g 2) 0 0 8)) gl hh v tx)) rfl ?_
  refine WP.of (fun _ _ => Ex.acopy hP_45 (w2 := Wd (va_up (va_up (va_up (va_up (va_up (va_up (va_up (va_up f 64 (f 640)) 68 (f 644)) 70 (f 646)) 71 (f 647)) 72 (f 648)) 74 (f 650)) 76 (f 652)) 78 (f 654)) fl (va_up (va_up g 2 (va_cpy (g 11) (g 2) 0 0 8)) 3 (va_cpy (g 12) (g 3) 0 0 8)) gl hh v tx) rfl rfl (Wa_12 _ _ _ _ _ _ _) (Wa_3 _ _ _ _ _ _ _) (by decide) (Ws_3 _ _ _ _ _ _ _ _)) ?_
  refine WP.run hP_45 7 (c' := (106, [some (.ref 1), some (.ref 10), none], [.int 8, .int 0, .ref 4, .int 0, .ref 13], Wd (va_up (va_up (va_up (va_up (va_up (va_up (va_up (va_up f 64 (f 640)) 68 (f 644)) 70 (f 646)) 71 (f 647)) 72 (f 648)) 74 (f 650)) 76 (f 652)) 78 (f 654)) fl (va_up (va_up g 2 (va_cpy (g 11) (g 2) 0 0 8)) 3 (va_cpy (g 12) (g 3) 0 0 8)) gl hh v tx)) rfl ?_
  refine WP.of (fun _ _ => Ex.acopy hP_45 (w2 := Wd (va_up (va_up (va_up (va_up (va_up (va_up (va_up (va_up f 64 (f 640)) 68 (f 644)) 70 (f 646)) 71 (f 647)) 72 (f 648)) 74 (f 650)) 76 (f 652)) 78 (f 654)) fl (va_up (va_up (va_up g 2 (va_cpy (g 11) (g 2) 0 0 8)) 3 (va_cpy (g 12) (g 3) 0 0 8)) 4 (va_cpy (g 13) (g 4) 0 0 8)) gl hh v tx) rfl rfl (Wa_13 _ _ _ _ _ _ _) (Wa_4 _ _ _ _ _ _ _) (by decide) (Ws_4 _ _ _ _ _ _ _ _)) ?_
  refine WP.run hP_45 7 (c' := (120, [some (.ref 1), some (.ref 10), none], [.int 3, .int 0, .ref 5, .int 0, .ref 14], Wd (va_up (va_up (va_up (va_up (va_up (va_up (va_up (va_up f 64 (f 640)) 68 (f 644)) 70 (f 646)) 71 (f 647)) 72 (f 648)) 74 (f 650)) 76 (f 652)) 78 (f 654)) fl (va_up (va_up (va_up g 2 (va_cpy (g 11) (g 2) 0 0 8)) 3 (va_cpy (g 12) (g 3) 0 0 8)) 4 (va_cpy (g 13) (g 4) 0 0 8)) gl hh v tx)) rfl ?_
  refine WP.of (fun _ _ => Ex.acopy hP_45 (w2 := Wd (va_up (va_up (va_up (va_up (va_up (va_up (va_up (va_up f 64 (f 640)) 68 (f 644)) 70 (f 646)) 71 (f 647)) 72 (f 648)) 74 (f 650)) 76 (f 652)) 78 (f 654)) fl (va_up (va_up (va_up (va_up g 2 (va_cpy (g 11) (g 2) 0 0 8)) 3 (va_cpy (g 12) (g 3) 0 0 8)) 4 (va_cpy (g 13) (g 4) 0 0 8)) 5 (va_cpy (g 14) (g 5) 0 0 3)) gl hh v tx) rfl rfl (Wa_14 _ _ _ _ _ _ _) (Wa_5 _ _ _ _ _ _ _) (by decide) (Ws_5 _ _ _ _ _ _ _ _)) ?_
  refine WP.run hP_45 7 (c' := (135, [some (.ref 1), some (.ref 10), none], [.int 6, .int 0, .ref 6, .int 0, .ref 15], Wd (va_up (va_up (va_up (va_up (va_up (va_up (va_up (va_up f 64 (f 640)) 68 (f 644)) 70 (f 646)) 71 (f 647)) 72 (f 648)) 74 (f 650)) 76 (f 652)) 78 (f 654)) fl (va_up (va_up (va_up (va_up g 2 (va_cpy (g 11) (g 2) 0 0 8)) 3 (va_cpy (g 12) (g 3) 0 0 8)) 4 (va_cpy (g 13) (g 4) 0 0 8)) 5 (va_cpy (g 14) (g 5) 0 0 3)) gl hh v tx)) rfl ?_
  refine WP.of (fun _ _ => Ex.acopy hP_45 (w2 := Wd (va_up (va_up (va_up (va_up (va_up (va_up (va_up (va_up f 64 (f 640)) 68 (f 644)) 70 (f 646)) 71 (f 647)) 72 (f 648)) 74 (f 650)) 76 (f 652)) 78 (f 654)) fl (va_up (va_up (va_up (va_up (va_up g 2 (va_cpy (g 11) (g 2) 0 0 8)) 3 (va_cpy (g 12) (g 3) 0 0 8)) 4 (va_cpy (g 13) (g 4) 0 0 8)) 5 (va_cpy (g 14) (g 5) 0 0 3)) 6 (va_cpy (g 15) (g 6) 0 0 6)) gl hh v tx) rfl rfl (Wa_15 _ _ _ _ _ _ _) (Wa_6 _ _ _ _ _ _ _) (by decide) (Ws_6 _ _ _ _ _ _ _ _)) ?_
  refine WP.run hP_45 7 (c' := (149, [some (.ref 1), some (.ref 10), none], [.int 3, .int 0, .ref 8, .int 0, .ref 17], Wd (va_up (va_up (va_up (va_up (va_up (va_up (va_up (va_up f 64 (f 640)) 68 (f 644)) 70 (f 646)) 71 (f 647)) 72 (f 648)) 74 (f 650)) 76 (f 652)) 78 (f 654)) fl (va_up (va_up (va_up (va_up (va_up g 2 (va_cpy (g 11) (g 2) 0 0 8)) 3 (va_cpy (g 12) (g 3) 0 0 8)) 4 (va_cpy (g 13) (g 4) 0 0 8)) 5 (va_cpy (g 14) (g 5) 0 0 3)) 6 (va_cpy (g 15) (g 6) 0 0 6)) gl hh v tx)) rfl ?_
  refine WP.of (fun _ _ => Ex.acopy hP_45 (w2 := Wd (va_up (va_up (va_up (va_up (va_up (va_up (va_up (va_up f 64 (f 640)) 68 (f 644)) 70 (f 646)) 71 (f 647)) 72 (f 648)) 74 (f 650)) 76 (f 652)) 78 (f 654)) fl (va_up (va_up (va_up (va_up (va_up (va_up g 2 (va_cpy (g 11) (g 2) 0 0 8)) 3 (va_cpy (g 12) (g 3) 0 0 8)) 4 (va_cpy (g 13) (g 4) 0 0 8)) 5 (va_cpy (g 14) (g 5) 0 0 3)) 6 (va_cpy (g 15) (g 6) 0 0 6)) 8 (va_cpy (g 17) (g 8) 0 0 3)) gl hh v tx) rfl rfl (Wa_17 _ _ _ _ _ _ _) (Wa_8 _ _ _ _ _ _ _) (by decide) (Ws_8 _ _ _ _ _ _ _ _)) ?_
  refine WP.run hP_45 7 (c' := (164, [some (.ref 1), some (.ref 10), none], [.int 16, .int 0, .ref 9, .int 0, .ref 18], Wd (va_up (va_up (va_up (va_up (va_up (va_up (va_up (va_up f 64 (f 640)) 68 (f 644)) 70 (f 646)) 71 (f 647)) 72 (f 648)) 74 (f 650)) 76 (f 652)) 78 (f 654)) fl (va_up (va_up (va_up (va_up (va_up (va_up g 2 (va_cpy (g 11) (g 2) 0 0 8)) 3 (va_cpy (g 12) (g 3) 0 0 8)) 4 (va_cpy (g 13) (g 4) 0 0 8)) 5 (va_cpy (g 14) (g 5) 0 0 3)) 6 (va_cpy (g 15) (g 6) 0 0 6)) 8 (va_cpy (g 17) (g 8) 0 0 3)) gl hh v tx)) rfl ?_
  refine WP.of (fun _ _ => Ex.acopy hP_45 (w2 := Wd (va_up (va_up (va_up (va_up (va_up (va_up (va_up (va_up f 64 (f 640)) 68 (f 644)) 70 (f 646)) 71 (f 647)) 72 (f 648)) 74 (f 650)) 76 (f 652)) 78 (f 654)) fl (va_up (va_up (va_up (va_up (va_up (va_up (va_up g 2 (va_cpy (g 11) (g 2) 0 0 8)) 3 (va_cpy (g 12) (g 3) 0 0 8)) 4 (va_cpy (g 13) (g 4) 0 0 8)) 5 (va_cpy (g 14) (g 5) 0 0 3)) 6 (va_cpy (g 15) (g 6) 0 0 6)) 8 (va_cpy (g 17) (g 8) 0 0 3)) 9 (va_cpy (g 18) (g 9) 0 0 16)) gl hh v tx) rfl rfl (Wa_18 _ _ _ _ _ _ _) (Wa_9 _ _ _ _ _ _ _) (by decide) (Ws_9 _ _ _ _ _ _ _ _)) ?_
  refine WP.run hP_45 2 (c' := (169, [some (.ref 1), some (.ref 10), some (.int 0)], [], Wd (va_up (va_up (va_up (va_up (va_up (va_up (va_up (va_up f 64 (f 640)) 68 (f 644)) 70 (f 646)) 71 (f 647)) 72 (f 648)) 74 (f 650)) 76 (f 652)) 78 (f 654)) fl (va_up (va_up (va_up (va_up (va_up (va_up (va_up g 2 (va_cpy (g 11) (g 2) 0 0 8)) 3 (va_cpy (g 12) (g 3) 0 0 8)) 4 (va_cpy (g 13) (g 4) 0 0 8)) 5 (va_cpy (g 14) (g 5) 0 0 3)) 6 (va_cpy (g 15) (g 6) 0 0 6)) 8 (va_cpy (g 17) (g 8) 0 0 3)) 9 (va_cpy (g 18) (g 9) 0 0 16)) gl hh v tx)) rfl ?_
  exact h

set_option maxRecDepth 20000 in
theorem b_yst_copy_1_10_169 (X : mm_X) (d : Nat) (f : Nat → Int32) (fl : Nat → Int64) (g : Nat → Nat → Int32) (gl : Nat → Nat → Int64) (hh : Nat → Nat → Option Nat) (v : Nat → Value) (tx : mm_W) (l2 : Int32)  (P : Option Value → mm_W → Prop)
    (h : ((6 ≤ l2) → P none (Wd f fl g gl hh v tx)) ∧
    ((¬ (6 ≤ l2)) → ((¬ (l2 < 0 ∨ 6 ≤ l2.toNatClampNeg)) ∧ ((¬ (l2 < 0 ∨ 6 ≤ l2.toNatClampNeg)) ∧ ((∀ o, ((hh 16) l2.toNatClampNeg) = some o → ∃ fs, (Wd f fl g gl hh v tx)[o]? = some (.inr (6, fs))) ∧ WP X (d) 45 (169, [some (.ref 1), some (.ref 10), some (.int (l2 + (1 : Int32)))], [], Wd f fl g gl (va_up hh 7 (va_up (hh 7) (l2.toNatClampNeg) ((hh 16) l2.toNatClampNeg))) v tx) P))))) :
    WP X (d) 45 (169, [some (.ref 1), some (.ref 10), some (.int l2)], [], Wd f fl g gl hh v tx) P := by
  refine WP.run hP_45 2 (c' := (172, [some (.ref 1), some (.ref 10), some (.int l2)], [.int 6, .int l2], Wd f fl g gl hh v tx)) rfl ?_
  refine WP.br hP_45 (q := 6 ≤ l2) (t := 193) (f := 175) (L := [some (.ref 1), some (.ref 10), some (.int l2)]) (st := []) (w := Wd f fl g gl hh v tx) rfl (fun c1 => ?_) (fun c1 => ?_)
  · have h2 := h.1 c1
    exact WP.ret hP_45 (r := none) (w' := Wd f fl g gl hh v tx) rfl h2
  · have h3 := h.2 c1
    refine WP.run hP_45 6 (c' := (185, [some (.ref 1), some (.ref 10), some (.int l2)], [.int l2, .ref 16, .int l2, .ref 7], Wd f fl g gl hh v tx)) rfl ?_
    refine WP.of (fun _ _ => Ex.aald4 hP_45 rfl (Wa_16 _ _ _ _ _ _ _) h3.1) ?_
    have h4 := h3.2
    refine WP.of (fun _ _ => Ex.aastV hP_45 (w2 := Wd f fl g gl (va_up hh 7 (va_up (hh 7) (l2.toNatClampNeg) ((hh 16) l2.toNatClampNeg))) v tx) rfl (Wa_7 _ _ _ _ _ _ _) h4.1 h4.2.1 (Ws_7 _ _ _ _ _ _ _ _)) ?_
    have h5 := h4.2
    have h6 := h5.2
    refine WP.run hP_45 2 (c' := (169, [some (.ref 1), some (.ref 10), some (.int (l2 + (1 : Int32)))], [], Wd f fl g gl (va_up hh 7 (va_up (hh 7) (l2.toNatClampNeg) ((hh 16) l2.toNatClampNeg))) v tx)) rfl ?_
    exact h6

set_option maxRecDepth 20000 in
theorem b_x_law_0 (X : mm_X) (d : Nat) (f : Nat → Int32) (fl : Nat → Int64) (g : Nat → Nat → Int32) (gl : Nat → Nat → Int64) (hh : Nat → Nat → Option Nat) (v : Nat → Value) (tx : mm_W)   (P : Option Value → mm_W → Prop)
    (h : (((f 74) < 6) → WP X (d + 1) 33 (0, [some (.ref 31), some (.ref 30), some (.int (f 6)), some (.int 0), none, none, none, none, none, none], [], Wd (va_up f 6 0) fl g gl hh v tx) (fun rv w2 => WP X (d + 2) 69 (42, [some (.ref 0), some (.int (f 6)), none], rv.toList ++ [], w2) P)) ∧
    ((¬ ((f 74) < 6)) → P (some (.int (-5))) (Wd (va_up (va_up f 6 0) 18 (-5 : Int32)) fl (va_up g 55 (upd (g 55) (5) (((g 55) 5) + (1 : Int32)))) gl hh v tx))) :
    WP X (d + 2) 69 (0, [some (.ref 0), none, none], [], Wd f fl g gl hh v tx) P := by
  refine WP.run hP_69 10 (c' := (19, [some (.ref 0), some (.int (f 6)), none], [.int 6, .int (f 74)], Wd (va_up f 6 0) fl g gl hh v tx)) rfl ?_
  refine WP.br hP_69 (q := (f 74) < 6) (t := 29) (f := 22) (L := [some (.ref 0), some (.int (f 6)), none]) (st := []) (w := Wd (va_up f 6 0) fl g gl hh v tx) rfl (fun c1 => ?_) (fun c1 => ?_)
  · have h2 := h.1 c1
    refine WP.run hP_69 6 (c' := (39, [some (.ref 0), some (.int (f 6)), none], [.int 0, .int (f 6), .ref 30, .ref 31], Wd (va_up f 6 0) fl g gl hh v tx)) rfl ?_
    refine WP.call hP_69 hP_33 (as := [.ref 31, .ref 30, .int (f 6), .int 0]) (pc' := 42) (L' := [some (.ref 0), some (.int (f 6)), none]) (st' := []) (w1 := Wd (va_up f 6 0) fl g gl hh v tx) rfl ⟨Nat.le_of_ble_eq_true rfl, Nat.le_of_ble_eq_true rfl⟩ rfl ?_
    exact h2
  · have h3 := h.2 c1
    refine WP.run hP_69 2 (c' := (25, [some (.ref 0), some (.int (f 6)), none], [.int (-5), .ref 0], Wd (va_up f 6 0) fl g gl hh v tx)) rfl ?_
    refine WP.call hP_69 hP_101 (as := [.ref 0, .int (-5)]) (pc' := 28) (L' := [some (.ref 0), some (.int (f 6)), none]) (st' := []) (w1 := Wd (va_up f 6 0) fl g gl hh v tx) rfl ⟨Nat.le_of_ble_eq_true rfl, Nat.le_of_ble_eq_true rfl⟩ rfl (b_x_refused_0 X (d) (va_up f 6 0) fl g gl hh v tx (-5) _ ?_)
    refine ⟨fun c4 => ?_, fun c => absurd c (by decide)⟩
    refine ⟨by decide, ?_⟩
    refine ⟨by decide, ?_⟩
    exact WP.retI hP_69 rfl rfl h3

set_option maxRecDepth 20000 in
theorem b_x_law_42 (X : mm_X) (d : Nat) (f : Nat → Int32) (fl : Nat → Int64) (g : Nat → Nat → Int32) (gl : Nat → Nat → Int64) (hh : Nat → Nat → Option Nat) (v : Nat → Value) (tx : mm_W) (l1 : Int32) (s0 : Int32)  (P : Option Value → mm_W → Prop)
    (h : ((¬ s0 = 0) → WP X (d + 1) 54 (0, [some (.ref 32), none], [], Wd (va_up f 14 (f 1985)) fl g gl hh v tx) (fun rv w2 => WP X (d + 2) 69 (89, [some (.ref 0), none, none], rv.toList ++ [.int (f 74), .ref 7], w2) P)) ∧
    ((s0 = 0) → P (some (.int (-6))) (Wd (va_up (va_up f 14 (f 1985)) 18 (-6 : Int32)) fl (va_up g 55 (upd (g 55) (6) (((g 55) 6) + (1 : Int32)))) gl hh v tx))) :
    WP X (d + 2) 69 (42, [some (.ref 0), some (.int l1), none], [.int s0], Wd f fl g gl hh v tx) P := by
  refine WP.run hP_69 7 (c' := (55, [some (.ref 0), some (.int l1), some (.int s0)], [.int s0], Wd (va_up f 14 (f 1985)) fl g gl hh v tx)) rfl ?_
  refine WP.br hP_69 (q := ¬ s0 = 0) (t := 65) (f := 58) (L := [some (.ref 0), some (.int l1), some (.int s0)]) (st := []) (w := Wd (va_up f 14 (f 1985)) fl g gl hh v tx) rfl (fun c1 => ?_) (fun c1 => ?_)
  · have h2 := h.1 c1
    refine WP.run hP_69 9 (c' := (86, [some (.ref 0), none, none], [.ref 32, .int (f 74), .ref 7], Wd (va_up f 14 (f 1985)) fl g gl hh v tx)) rfl ?_
    refine WP.call hP_69 hP_54 (as := [.ref 32]) (pc' := 89) (L' := [some (.ref 0), none, none]) (st' := [.int (f 74), .ref 7]) (w1 := Wd (va_up f 14 (f 1985)) fl g gl hh v tx) rfl ⟨Nat.le_of_ble_eq_true rfl, Nat.le_of_ble_eq_true rfl⟩ rfl ?_
    exact h2
  · have h3 := h.2 (Classical.not_not.mp c1)
    refine WP.run hP_69 2 (c' := (61, [some (.ref 0), some (.int l1), some (.int s0)], [.int (-6), .ref 0], Wd (va_up f 14 (f 1985)) fl g gl hh v tx)) rfl ?_
    refine WP.call hP_69 hP_101 (as := [.ref 0, .int (-6)]) (pc' := 64) (L' := [some (.ref 0), some (.int l1), some (.int s0)]) (st' := []) (w1 := Wd (va_up f 14 (f 1985)) fl g gl hh v tx) rfl ⟨Nat.le_of_ble_eq_true rfl, Nat.le_of_ble_eq_true rfl⟩ rfl (b_x_refused_0 X (d) (va_up f 14 (f 1985)) fl g gl hh v tx (-6) _ ?_)
    refine ⟨fun c4 => ?_, fun c => absurd c (by decide)⟩
    refine ⟨by decide, ?_⟩
    refine ⟨by decide, ?_⟩
    exact WP.retI hP_69 rfl rfl h3

set_option maxRecDepth 20000 in
theorem b_x_law_89 (X : mm_X) (d : Nat) (f : Nat → Int32) (fl : Nat → Int64) (g : Nat → Nat → Int32) (gl : Nat → Nat → Int64) (hh : Nat → Nat → Option Nat) (v : Nat → Value) (tx : mm_W) (s1 : Int32)  (P : Option Value → mm_W → Prop)
    (h : (¬ (s1 < 0 ∨ 6 ≤ s1.toNatClampNeg)) ∧ P (some (.int (((f 74) + (1 : Int32)) - (1 : Int32)))) (Wd (va_up (va_up f 74 ((f 74) + (1 : Int32))) 18 0) fl g gl (va_up hh 7 (va_up (hh 7) (s1.toNatClampNeg) none)) v tx)) :
    WP X (d + 1) 69 (89, [some (.ref 0), none, none], [.null, .int s1, .ref 7], Wd f fl g gl hh v tx) P := by
  refine WP.of (fun _ _ => Ex.aastN hP_69 (w2 := Wd f fl g gl (va_up hh 7 (va_up (hh 7) (s1.toNatClampNeg) none)) v tx) rfl (Wa_7 _ _ _ _ _ _ _) h.1 (Ws_7 _ _ _ _ _ _ _ _)) ?_
  have h1 := h.2
  refine WP.run hP_69 13 (c' := (113, [some (.ref 0), none, none], [.int (((f 74) + (1 : Int32)) - (1 : Int32)), .ref 0], Wd (va_up f 74 ((f 74) + (1 : Int32))) fl g gl (va_up hh 7 (va_up (hh 7) (s1.toNatClampNeg) none)) v tx)) rfl ?_
  refine WP.call hP_69 hP_100 (as := [.ref 0, .int (((f 74) + (1 : Int32)) - (1 : Int32))]) (pc' := 116) (L' := [some (.ref 0), none, none]) (st' := []) (w1 := Wd (va_up f 74 ((f 74) + (1 : Int32))) fl g gl (va_up hh 7 (va_up (hh 7) (s1.toNatClampNeg) none)) v tx) rfl ⟨Nat.le_of_ble_eq_true rfl, Nat.le_of_ble_eq_true rfl⟩ rfl (b_x_accepted_0 X (d) (va_up f 74 ((f 74) + (1 : Int32))) fl g gl (va_up hh 7 (va_up (hh 7) (s1.toNatClampNeg) none)) v tx (((f 74) + (1 : Int32)) - (1 : Int32)) _ ?_)
  exact WP.retI hP_69 rfl rfl h1

set_option maxRecDepth 20000 in
theorem b_x_law_89a (X : mm_X) (d : Nat) (f : Nat → Int32) (fl : Nat → Int64) (g : Nat → Nat → Int32) (gl : Nat → Nat → Int64) (hh : Nat → Nat → Option Nat) (v : Nat → Value) (tx : mm_W) (s0 : Nat) (s1 : Int32)  (P : Option Value → mm_W → Prop)
    (h : (¬ (s1 < 0 ∨ 6 ≤ s1.toNatClampNeg)) ∧ ((∃ fs, (Wd f fl g gl hh v tx)[s0]? = some (.inr (6, fs))) ∧ P (some (.int (((f 74) + (1 : Int32)) - (1 : Int32)))) (Wd (va_up (va_up f 74 ((f 74) + (1 : Int32))) 18 0) fl g gl (va_up hh 7 (va_up (hh 7) (s1.toNatClampNeg) (some s0))) v tx))) :
    WP X (d + 1) 69 (89, [some (.ref 0), none, none], [.ref s0, .int s1, .ref 7], Wd f fl g gl hh v tx) P := by
  refine WP.of (fun _ _ => Ex.aastR hP_69 (w2 := Wd f fl g gl (va_up hh 7 (va_up (hh 7) (s1.toNatClampNeg) (some s0))) v tx) rfl (Wa_7 _ _ _ _ _ _ _) h.1 h.2.1.choose_spec (Ws_7 _ _ _ _ _ _ _ _)) ?_
  have h1 := h.2
  have h2 := h1.2
  refine WP.run hP_69 13 (c' := (113, [some (.ref 0), none, none], [.int (((f 74) + (1 : Int32)) - (1 : Int32)), .ref 0], Wd (va_up f 74 ((f 74) + (1 : Int32))) fl g gl (va_up hh 7 (va_up (hh 7) (s1.toNatClampNeg) (some s0))) v tx)) rfl ?_
  refine WP.call hP_69 hP_100 (as := [.ref 0, .int (((f 74) + (1 : Int32)) - (1 : Int32))]) (pc' := 116) (L' := [some (.ref 0), none, none]) (st' := []) (w1 := Wd (va_up f 74 ((f 74) + (1 : Int32))) fl g gl (va_up hh 7 (va_up (hh 7) (s1.toNatClampNeg) (some s0))) v tx) rfl ⟨Nat.le_of_ble_eq_true rfl, Nat.le_of_ble_eq_true rfl⟩ rfl (b_x_accepted_0 X (d) (va_up f 74 ((f 74) + (1 : Int32))) fl g gl (va_up hh 7 (va_up (hh 7) (s1.toNatClampNeg) (some s0))) v tx (((f 74) + (1 : Int32)) - (1 : Int32)) _ ?_)
  exact WP.retI hP_69 rfl rfl h2

set_option maxRecDepth 20000 in
theorem b_x_look_0 (X : mm_X) (d : Nat) (f : Nat → Int32) (fl : Nat → Int64) (g : Nat → Nat → Int32) (gl : Nat → Nat → Int64) (hh : Nat → Nat → Option Nat) (v : Nat → Value) (tx : mm_W) (p0 : Int32) (p1 : Int32)  (P : Option Value → mm_W → Prop)
    (h : WP X (d) 12 (0, [some (.ref 38), some (.ref 1), some (.int 0), none, none], [], Wd f fl (va_up (va_up (va_up (va_up g 37 (upd (g 37) 0 ((g 8) 0))) 37 (upd (upd (g 37) 0 ((g 8) 0)) 1 p0)) 37 (upd (upd (upd (g 37) 0 ((g 8) 0)) 1 p0) 2 p1)) 37 (upd (upd (upd (upd (g 37) 0 ((g 8) 0)) 1 p0) 2 p1) 3 (f 70))) gl hh v tx) (fun rv w2 => WP X (d + 1) 104 (59, [some (.ref 0), some (.int p0), some (.int p1), none, none], rv.toList ++ [.int 4, .ref 37], w2) P)) :
    WP X (d + 1) 104 (0, [some (.ref 0), some (.int p0), some (.int p1), none, none], [], Wd f fl g gl hh v tx) P := by
  refine WP.run hP_104 7 (c' := (13, [some (.ref 0), some (.int p0), some (.int p1), none, none], [.int 0, .ref 8, .int 0, .ref 37], Wd f fl g gl hh v tx)) rfl ?_
  refine WP.of (fun _ _ => Ex.iald hP_104 rfl (Wa_8 _ _ _ _ _ _ _) (by decide)) ?_
  show WP X _ 104 (14, [some (.ref 0), some (.int p0), some (.int p1), none, none], [.int ((g 8) 0), .int 0, .ref 37], Wd f fl g gl hh v tx) P
  refine WP.of (fun _ _ => Ex.iast hP_104 (w2 := Wd f fl (va_up g 37 (upd (g 37) 0 ((g 8) 0))) gl hh v tx) rfl (Wa_37 _ _ _ _ _ _ _) (by decide) (Ws_37 _ _ _ _ _ _ _ _)) ?_
  refine WP.run hP_104 4 (c' := (21, [some (.ref 0), some (.int p0), some (.int p1), none, none], [.int p0, .int 1, .ref 37], Wd f fl (va_up g 37 (upd (g 37) 0 ((g 8) 0))) gl hh v tx)) rfl ?_
  refine WP.of (fun _ _ => Ex.iast hP_104 (w2 := Wd f fl (va_up (va_up g 37 (upd (g 37) 0 ((g 8) 0))) 37 (upd (upd (g 37) 0 ((g 8) 0)) 1 p0)) gl hh v tx) rfl (Wa_37 _ _ _ _ _ _ _) (by decide) (Ws_37 _ _ _ _ _ _ _ _)) ?_
  refine WP.run hP_104 4 (c' := (28, [some (.ref 0), some (.int p0), some (.int p1), none, none], [.int p1, .int 2, .ref 37], Wd f fl (va_up (va_up g 37 (upd (g 37) 0 ((g 8) 0))) 37 (upd (upd (g 37) 0 ((g 8) 0)) 1 p0)) gl hh v tx)) rfl ?_
  refine WP.of (fun _ _ => Ex.iast hP_104 (w2 := Wd f fl (va_up (va_up (va_up g 37 (upd (g 37) 0 ((g 8) 0))) 37 (upd (upd (g 37) 0 ((g 8) 0)) 1 p0)) 37 (upd (upd (upd (g 37) 0 ((g 8) 0)) 1 p0) 2 p1)) gl hh v tx) rfl (Wa_37 _ _ _ _ _ _ _) (by decide) (Ws_37 _ _ _ _ _ _ _ _)) ?_
  refine WP.run hP_104 6 (c' := (41, [some (.ref 0), some (.int p0), some (.int p1), none, none], [.int (f 70), .int 3, .ref 37], Wd f fl (va_up (va_up (va_up g 37 (upd (g 37) 0 ((g 8) 0))) 37 (upd (upd (g 37) 0 ((g 8) 0)) 1 p0)) 37 (upd (upd (upd (g 37) 0 ((g 8) 0)) 1 p0) 2 p1)) gl hh v tx)) rfl ?_
  refine WP.of (fun _ _ => Ex.iast hP_104 (w2 := Wd f fl (va_up (va_up (va_up (va_up g 37 (upd (g 37) 0 ((g 8) 0))) 37 (upd (upd (g 37) 0 ((g 8) 0)) 1 p0)) 37 (upd (upd (upd (g 37) 0 ((g 8) 0)) 1 p0) 2 p1)) 37 (upd (upd (upd (upd (g 37) 0 ((g 8) 0)) 1 p0) 2 p1) 3 (f 70))) gl hh v tx) rfl (Wa_37 _ _ _ _ _ _ _) (by decide) (Ws_37 _ _ _ _ _ _ _ _)) ?_
  refine WP.run hP_104 8 (c' := (56, [some (.ref 0), some (.int p0), some (.int p1), none, none], [.int 0, .ref 1, .ref 38, .int 4, .ref 37], Wd f fl (va_up (va_up (va_up (va_up g 37 (upd (g 37) 0 ((g 8) 0))) 37 (upd (upd (g 37) 0 ((g 8) 0)) 1 p0)) 37 (upd (upd (upd (g 37) 0 ((g 8) 0)) 1 p0) 2 p1)) 37 (upd (upd (upd (upd (g 37) 0 ((g 8) 0)) 1 p0) 2 p1) 3 (f 70))) gl hh v tx)) rfl ?_
  refine WP.call hP_104 hP_12 (as := [.ref 38, .ref 1, .int 0]) (pc' := 59) (L' := [some (.ref 0), some (.int p0), some (.int p1), none, none]) (st' := [.int 4, .ref 37]) (w1 := Wd f fl (va_up (va_up (va_up (va_up g 37 (upd (g 37) 0 ((g 8) 0))) 37 (upd (upd (g 37) 0 ((g 8) 0)) 1 p0)) 37 (upd (upd (upd (g 37) 0 ((g 8) 0)) 1 p0) 2 p1)) 37 (upd (upd (upd (upd (g 37) 0 ((g 8) 0)) 1 p0) 2 p1) 3 (f 70))) gl hh v tx) rfl ⟨Nat.le_of_ble_eq_true rfl, Nat.le_of_ble_eq_true rfl⟩ rfl ?_
  exact h

set_option maxRecDepth 20000 in
theorem b_x_look_59 (X : mm_X) (d : Nat) (f : Nat → Int32) (fl : Nat → Int64) (g : Nat → Nat → Int32) (gl : Nat → Nat → Int64) (hh : Nat → Nat → Option Nat) (v : Nat → Value) (tx : mm_W) (l1 : Int32) (l2 : Int32) (s0 : Int32) (s1 : Int32)  (P : Option Value → mm_W → Prop)
    (h : (¬ (s1 < 0 ∨ 11 ≤ s1.toNatClampNeg)) ∧ WP X (d) 104 (62, [some (.ref 0), none, none, some (.int 0), none], [], Wd f fl (va_up g 37 (upd (g 37) (s1.toNatClampNeg) s0)) gl hh v tx) P) :
    WP X (d) 104 (59, [some (.ref 0), some (.int l1), some (.int l2), none, none], [.int s0, .int s1, .ref 37], Wd f fl g gl hh v tx) P := by
  refine WP.of (fun _ _ => Ex.iast hP_104 (w2 := Wd f fl (va_up g 37 (upd (g 37) (s1.toNatClampNeg) s0)) gl hh v tx) rfl (Wa_37 _ _ _ _ _ _ _) h.1 (Ws_37 _ _ _ _ _ _ _ _)) ?_
  have h1 := h.2
  refine WP.run hP_104 2 (c' := (62, [some (.ref 0), some (.int l1), some (.int l2), some (.int 0), none], [], Wd f fl (va_up g 37 (upd (g 37) (s1.toNatClampNeg) s0)) gl hh v tx)) rfl ?_
  refine WP.clr hP_104 (pc := 62) rfl ?_
  exact h1

set_option maxRecDepth 20000 in
theorem b_x_look_62 (X : mm_X) (d : Nat) (f : Nat → Int32) (fl : Nat → Int64) (g : Nat → Nat → Int32) (gl : Nat → Nat → Int64) (hh : Nat → Nat → Option Nat) (v : Nat → Value) (tx : mm_W) (l3 : Int32)  (P : Option Value → mm_W → Prop)
    (h : ((3 ≤ l3) → P none (Wd f fl g gl hh v tx)) ∧
    ((¬ (3 ≤ l3)) → ((((f 68) ≤ l3) → ((¬ (((5 : Int32) + l3) < 0 ∨ 11 ≤ ((5 : Int32) + l3).toNatClampNeg)) ∧ ((¬ (((8 : Int32) + l3) < 0 ∨ 11 ≤ ((8 : Int32) + l3).toNatClampNeg)) ∧ WP X (d + 1) 104 (62, [some (.ref 0), none, none, some (.int (l3 + (1 : Int32))), none], [], Wd f fl (va_up (va_up g 37 (upd (g 37) (((5 : Int32) + l3).toNatClampNeg) (-1))) 37 (upd (upd (g 37) (((5 : Int32) + l3).toNatClampNeg) (-1)) (((8 : Int32) + l3).toNatClampNeg) (-1))) gl hh v tx) P))) ∧
      ((¬ ((f 68) ≤ l3)) → ((¬ (l3 < 0 ∨ 3 ≤ l3.toNatClampNeg)) ∧ ((¬ (((5 : Int32) + l3) < 0 ∨ 11 ≤ ((5 : Int32) + l3).toNatClampNeg)) ∧ ((¬ (l3 < 0 ∨ 3 ≤ l3.toNatClampNeg)) ∧ ((¬ (((8 : Int32) + l3) < 0 ∨ 11 ≤ ((8 : Int32) + l3).toNatClampNeg)) ∧ WP X (d + 1) 104 (62, [some (.ref 0), none, none, some (.int (l3 + (1 : Int32))), none], [], Wd f fl (va_up (va_up g 37 (upd (g 37) (((5 : Int32) + l3).toNatClampNeg) (((g 5) l3.toNatClampNeg) / (40 : Int32)))) 37 (upd (upd (g 37) (((5 : Int32) + l3).toNatClampNeg) (((g 5) l3.toNatClampNeg) / (40 : Int32))) (((8 : Int32) + l3).toNatClampNeg) (((g 5) l3.toNatClampNeg) - (((g 5) l3.toNatClampNeg) / (10 : Int32)) * (10 : Int32)))) gl hh v tx) P)))))))) :
    WP X (d + 1) 104 (62, [some (.ref 0), none, none, some (.int l3), none], [], Wd f fl g gl hh v tx) P := by
  refine WP.run hP_104 2 (c' := (64, [some (.ref 0), none, none, some (.int l3), none], [.int 3, .int l3], Wd f fl g gl hh v tx)) rfl ?_
  refine WP.br hP_104 (q := 3 ≤ l3) (t := 150) (f := 67) (L := [some (.ref 0), none, none, some (.int l3), none]) (st := []) (w := Wd f fl g gl hh v tx) rfl (fun c1 => ?_) (fun c1 => ?_)
  · have h2 := h.1 c1
    exact WP.ret hP_104 (r := none) (w' := Wd f fl g gl hh v tx) rfl h2
  · have h3 := h.2 c1
    refine WP.run hP_104 4 (c' := (75, [some (.ref 0), none, none, some (.int l3), none], [.int (f 68), .int l3], Wd f fl g gl hh v tx)) rfl ?_
    refine WP.br hP_104 (q := (f 68) ≤ l3) (t := 82) (f := 78) (L := [some (.ref 0), none, none, some (.int l3), none]) (st := []) (w := Wd f fl g gl hh v tx) rfl (fun c4 => ?_) (fun c4 => ?_)
    · have h5 := h3.1 c4
      refine WP.run hP_104 1 (c' := (83, [some (.ref 0), none, none, some (.int l3), none], [.int 0], Wd f fl g gl hh v tx)) rfl ?_
      refine WP.run hP_104 8 (c' := (112, [some (.ref 0), none, none, some (.int l3), some (.int 0)], [.int ((5 : Int32) + l3), .ref 37], Wd f fl g gl hh v tx)) rfl ?_
      refine WP.run hP_104 1 (c' := (113, [some (.ref 0), none, none, some (.int l3), some (.int 0)], [.int (-1), .int ((5 : Int32) + l3), .ref 37], Wd f fl g gl hh v tx)) rfl ?_
      refine WP.of (fun _ _ => Ex.iast hP_104 (w2 := Wd f fl (va_up g 37 (upd (g 37) (((5 : Int32) + l3).toNatClampNeg) (-1))) gl hh v tx) rfl (Wa_37 _ _ _ _ _ _ _) h5.1 (Ws_37 _ _ _ _ _ _ _ _)) ?_
      have h6 := h5.2
      refine WP.run hP_104 8 (c' := (143, [some (.ref 0), none, none, some (.int l3), none], [.int (-1), .int ((8 : Int32) + l3), .ref 37], Wd f fl (va_up g 37 (upd (g 37) (((5 : Int32) + l3).toNatClampNeg) (-1))) gl hh v tx)) rfl ?_
      refine WP.of (fun _ _ => Ex.iast hP_104 (w2 := Wd f fl (va_up (va_up g 37 (upd (g 37) (((5 : Int32) + l3).toNatClampNeg) (-1))) 37 (upd (upd (g 37) (((5 : Int32) + l3).toNatClampNeg) (-1)) (((8 : Int32) + l3).toNatClampNeg) (-1))) gl hh v tx) rfl (Wa_37 _ _ _ _ _ _ _) h6.1 (Ws_37 _ _ _ _ _ _ _ _)) ?_
      have h7 := h6.2
      refine WP.run hP_104 2 (c' := (62, [some (.ref 0), none, none, some (.int (l3 + (1 : Int32))), none], [], Wd f fl (va_up (va_up g 37 (upd (g 37) (((5 : Int32) + l3).toNatClampNeg) (-1))) 37 (upd (upd (g 37) (((5 : Int32) + l3).toNatClampNeg) (-1)) (((8 : Int32) + l3).toNatClampNeg) (-1))) gl hh v tx)) rfl ?_
      exact h7
    · have h8 := h3.2 c4
      refine WP.run hP_104 14 (c' := (105, [some (.ref 0), none, none, some (.int l3), some (.int 1)], [.int l3, .ref 5, .int ((5 : Int32) + l3), .ref 37], Wd f fl g gl hh v tx)) rfl ?_
      refine WP.of (fun _ _ => Ex.iald hP_104 rfl (Wa_5 _ _ _ _ _ _ _) h8.1) ?_
      have h9 := h8.2
      refine WP.call hP_104 hP_110 (as := [.int ((g 5) l3.toNatClampNeg)]) (pc' := 109) (L' := [some (.ref 0), none, none, some (.int l3), some (.int 1)]) (st' := [.int ((5 : Int32) + l3), .ref 37]) (w1 := Wd f fl g gl hh v tx) rfl ⟨Nat.le_of_ble_eq_true rfl, Nat.le_of_ble_eq_true rfl⟩ rfl (b_x_cellOf_0 X (d) f fl g gl hh v tx ((g 5) l3.toNatClampNeg) _ ?_)
      refine WP.run hP_104 1 (c' := (113, [some (.ref 0), none, none, some (.int l3), some (.int 1)], [.int (((g 5) l3.toNatClampNeg) / (40 : Int32)), .int ((5 : Int32) + l3), .ref 37], Wd f fl g gl hh v tx)) rfl ?_
      refine WP.of (fun _ _ => Ex.iast hP_104 (w2 := Wd f fl (va_up g 37 (upd (g 37) (((5 : Int32) + l3).toNatClampNeg) (((g 5) l3.toNatClampNeg) / (40 : Int32)))) gl hh v tx) rfl (Wa_37 _ _ _ _ _ _ _) h9.1 (Ws_37 _ _ _ _ _ _ _ _)) ?_
      have h10 := h9.2
      refine WP.run hP_104 11 (c' := (135, [some (.ref 0), none, none, some (.int l3), some (.int 1)], [.int l3, .ref 5, .int ((8 : Int32) + l3), .ref 37], Wd f fl (va_up g 37 (upd (g 37) (((5 : Int32) + l3).toNatClampNeg) (((g 5) l3.toNatClampNeg) / (40 : Int32)))) gl hh v tx)) rfl ?_
      refine WP.of (fun _ _ => Ex.iald hP_104 rfl (Wa_5 _ _ _ _ _ _ _) h10.1) ?_
      have h11 := h10.2
      refine WP.call hP_104 hP_112 (as := [.int ((g 5) l3.toNatClampNeg)]) (pc' := 139) (L' := [some (.ref 0), none, none, some (.int l3), some (.int 1)]) (st' := [.int ((8 : Int32) + l3), .ref 37]) (w1 := Wd f fl (va_up g 37 (upd (g 37) (((5 : Int32) + l3).toNatClampNeg) (((g 5) l3.toNatClampNeg) / (40 : Int32)))) gl hh v tx) rfl ⟨Nat.le_of_ble_eq_true rfl, Nat.le_of_ble_eq_true rfl⟩ rfl (b_x_powderOf_0 X (d) f fl (va_up g 37 (upd (g 37) (((5 : Int32) + l3).toNatClampNeg) (((g 5) l3.toNatClampNeg) / (40 : Int32)))) gl hh v tx ((g 5) l3.toNatClampNeg) _ ?_)
      refine WP.run hP_104 1 (c' := (143, [some (.ref 0), none, none, some (.int l3), some (.int 1)], [.int (((g 5) l3.toNatClampNeg) - (((g 5) l3.toNatClampNeg) / (10 : Int32)) * (10 : Int32)), .int ((8 : Int32) + l3), .ref 37], Wd f fl (va_up g 37 (upd (g 37) (((5 : Int32) + l3).toNatClampNeg) (((g 5) l3.toNatClampNeg) / (40 : Int32)))) gl hh v tx)) rfl ?_
      refine WP.of (fun _ _ => Ex.iast hP_104 (w2 := Wd f fl (va_up (va_up g 37 (upd (g 37) (((5 : Int32) + l3).toNatClampNeg) (((g 5) l3.toNatClampNeg) / (40 : Int32)))) 37 (upd (upd (g 37) (((5 : Int32) + l3).toNatClampNeg) (((g 5) l3.toNatClampNeg) / (40 : Int32))) (((8 : Int32) + l3).toNatClampNeg) (((g 5) l3.toNatClampNeg) - (((g 5) l3.toNatClampNeg) / (10 : Int32)) * (10 : Int32)))) gl hh v tx) rfl (Wa_37 _ _ _ _ _ _ _) h11.1 (Ws_37 _ _ _ _ _ _ _ _)) ?_
      have h12 := h11.2
      refine WP.run hP_104 2 (c' := (62, [some (.ref 0), none, none, some (.int (l3 + (1 : Int32))), none], [], Wd f fl (va_up (va_up g 37 (upd (g 37) (((5 : Int32) + l3).toNatClampNeg) (((g 5) l3.toNatClampNeg) / (40 : Int32)))) 37 (upd (upd (g 37) (((5 : Int32) + l3).toNatClampNeg) (((g 5) l3.toNatClampNeg) / (40 : Int32))) (((8 : Int32) + l3).toNatClampNeg) (((g 5) l3.toNatClampNeg) - (((g 5) l3.toNatClampNeg) / (10 : Int32)) * (10 : Int32)))) gl hh v tx)) rfl ?_
      exact h12

set_option maxRecDepth 20000 in
theorem b_x_orders_0 (X : mm_X) (d : Nat) (f : Nat → Int32) (fl : Nat → Int64) (g : Nat → Nat → Int32) (gl : Nat → Nat → Int64) (hh : Nat → Nat → Option Nat) (v : Nat → Value) (tx : mm_W)   (P : Option Value → mm_W → Prop)
    (h : WP X (d) 33 (0, [some (.ref 31), some (.ref 30), some (.int (f 6)), some (.int 1), none, none, none, none, none, none], [], Wd (va_up (va_up f 6 0) 16 (-1)) fl g gl hh v tx) (fun rv w2 => WP X (d + 1) 70 (28, [some (.ref 0), some (.int (f 6)), none, none, none, none, none, none, none, none, none, none, none], rv.toList ++ [], w2) P)) :
    WP X (d + 1) 70 (0, [some (.ref 0), none, none, none, none, none, none, none, none, none, none, none, none], [], Wd f fl g gl hh v tx) P := by
  refine WP.run hP_70 15 (c' := (25, [some (.ref 0), some (.int (f 6)), none, none, none, none, none, none, none, none, none, none, none], [.int 1, .int (f 6), .ref 30, .ref 31], Wd (va_up (va_up f 6 0) 16 (-1)) fl g gl hh v tx)) rfl ?_
  refine WP.call hP_70 hP_33 (as := [.ref 31, .ref 30, .int (f 6), .int 1]) (pc' := 28) (L' := [some (.ref 0), some (.int (f 6)), none, none, none, none, none, none, none, none, none, none, none]) (st' := []) (w1 := Wd (va_up (va_up f 6 0) 16 (-1)) fl g gl hh v tx) rfl ⟨Nat.le_of_ble_eq_true rfl, Nat.le_of_ble_eq_true rfl⟩ rfl ?_
  exact h

set_option maxRecDepth 20000 in
theorem b_x_orders_28 (X : mm_X) (d : Nat) (f : Nat → Int32) (fl : Nat → Int64) (g : Nat → Nat → Int32) (gl : Nat → Nat → Int64) (hh : Nat → Nat → Option Nat) (v : Nat → Value) (tx : mm_W) (l1 : Int32) (s0 : Int32)  (P : Option Value → mm_W → Prop)
    (h : ((¬ s0 = 0) → WP X (d + 1) 45 (0, [some (.ref 10), some (.ref 1), none], [], Wd (va_up f 14 (f 1985)) fl g gl hh v tx) (fun rv w2 => WP X (d + 2) 70 (62, [some (.ref 0), none, none, none, none, none, none, none, none, none, none, none, none], rv.toList ++ [], w2) P)) ∧
    ((s0 = 0) → P (some (.int (-6))) (Wd (va_up (va_up f 14 (f 1985)) 18 (-6 : Int32)) fl (va_up g 55 (upd (g 55) (6) (((g 55) 6) + (1 : Int32)))) gl hh v tx))) :
    WP X (d + 2) 70 (28, [some (.ref 0), some (.int l1), none, none, none, none, none, none, none, none, none, none, none], [.int s0], Wd f fl g gl hh v tx) P := by
  refine WP.run hP_70 7 (c' := (41, [some (.ref 0), some (.int l1), some (.int s0), none, none, none, none, none, none, none, none, none, none], [.int s0], Wd (va_up f 14 (f 1985)) fl g gl hh v tx)) rfl ?_
  refine WP.br hP_70 (q := ¬ s0 = 0) (t := 51) (f := 44) (L := [some (.ref 0), some (.int l1), some (.int s0), none, none, none, none, none, none, none, none, none, none]) (st := []) (w := Wd (va_up f 14 (f 1985)) fl g gl hh v tx) rfl (fun c1 => ?_) (fun c1 => ?_)
  · have h2 := h.1 c1
    refine WP.run hP_70 4 (c' := (59, [some (.ref 0), none, none, none, none, none, none, none, none, none, none, none, none], [.ref 1, .ref 10], Wd (va_up f 14 (f 1985)) fl g gl hh v tx)) rfl ?_
    refine WP.call hP_70 hP_45 (as := [.ref 10, .ref 1]) (pc' := 62) (L' := [some (.ref 0), none, none, none, none, none, none, none, none, none, none, none, none]) (st' := []) (w1 := Wd (va_up f 14 (f 1985)) fl g gl hh v tx) rfl ⟨Nat.le_of_ble_eq_true rfl, Nat.le_of_ble_eq_true rfl⟩ rfl ?_
    exact h2
  · have h3 := h.2 (Classical.not_not.mp c1)
    refine WP.run hP_70 2 (c' := (47, [some (.ref 0), some (.int l1), some (.int s0), none, none, none, none, none, none, none, none, none, none], [.int (-6), .ref 0], Wd (va_up f 14 (f 1985)) fl g gl hh v tx)) rfl ?_
    refine WP.call hP_70 hP_101 (as := [.ref 0, .int (-6)]) (pc' := 50) (L' := [some (.ref 0), some (.int l1), some (.int s0), none, none, none, none, none, none, none, none, none, none]) (st' := []) (w1 := Wd (va_up f 14 (f 1985)) fl g gl hh v tx) rfl ⟨Nat.le_of_ble_eq_true rfl, Nat.le_of_ble_eq_true rfl⟩ rfl (b_x_refused_0 X (d) (va_up f 14 (f 1985)) fl g gl hh v tx (-6) _ ?_)
    refine ⟨fun c4 => ?_, fun c => absurd c (by decide)⟩
    refine ⟨by decide, ?_⟩
    refine ⟨by decide, ?_⟩
    exact WP.retI hP_70 rfl rfl h3

set_option maxRecDepth 20000 in
theorem b_x_orders_62 (X : mm_X) (d : Nat) (f : Nat → Int32) (fl : Nat → Int64) (g : Nat → Nat → Int32) (gl : Nat → Nat → Int64) (hh : Nat → Nat → Option Nat) (v : Nat → Value) (tx : mm_W)   (P : Option Value → mm_W → Prop)
    (h : WP X (d) 70 (79, [some (.ref 0), none, none, some (.ref 32), some (.int 0), some (.int (-1)), some (.int 0), none, none, none, none, none, none], [], Wd f fl g gl hh v tx) P) :
    WP X (d) 70 (62, [some (.ref 0), none, none, none, none, none, none, none, none, none, none, none, none], [], Wd f fl g gl hh v tx) P := by
  refine WP.run hP_70 5 (c' := (71, [some (.ref 0), none, none, some (.ref 32), none, none, none, none, none, none, none, none, none], [.int 0], Wd f fl g gl hh v tx)) rfl ?_
  refine WP.run hP_70 2 (c' := (74, [some (.ref 0), none, none, some (.ref 32), some (.int 0), none, none, none, none, none, none, none, none], [.int (-1)], Wd f fl g gl hh v tx)) rfl ?_
  refine WP.run hP_70 2 (c' := (77, [some (.ref 0), none, none, some (.ref 32), some (.int 0), some (.int (-1)), none, none, none, none, none, none, none], [.int 0], Wd f fl g gl hh v tx)) rfl ?_
  refine WP.run hP_70 1 (c' := (79, [some (.ref 0), none, none, some (.ref 32), some (.int 0), some (.int (-1)), some (.int 0), none, none, none, none, none, none], [], Wd f fl g gl hh v tx)) rfl ?_
  exact h

set_option maxRecDepth 20000 in
theorem b_x_orders_79 (X : mm_X) (d : Nat) (f : Nat → Int32) (fl : Nat → Int64) (g : Nat → Nat → Int32) (gl : Nat → Nat → Int64) (hh : Nat → Nat → Option Nat) (v : Nat → Value) (tx : mm_W) (l4 : Int32) (l5 : Int32) (l6 : Int32)  (P : Option Value → mm_W → Prop)
    (h : (((f 2048) ≤ l6) → P (some (.int l4)) (Wd (va_up f 18 0) fl g gl hh v tx)) ∧
    ((¬ ((f 2048) ≤ l6)) → (((((l6 * (5 : Int32)) + (0 : Int32)) < 0) → (((((l6 * (5 : Int32)) + (1 : Int32)) < 0) → WP X (d + 1) 70 (109, [some (.ref 0), none, none, some (.ref 32), some (.int l4), some (.int l5), some (.int l6), some (.int 0), some (.int 0), some (.int 0), none, none, none], [], Wd f fl g gl hh v tx) P) ∧
        ((¬ (((l6 * (5 : Int32)) + (1 : Int32)) < 0)) → (((60 ≤ ((l6 * (5 : Int32)) + (1 : Int32))) → WP X (d + 1) 70 (109, [some (.ref 0), none, none, some (.ref 32), some (.int l4), some (.int l5), some (.int l6), some (.int 0), some (.int 0), some (.int 0), none, none, none], [], Wd f fl g gl hh v tx) P) ∧
          ((¬ (60 ≤ ((l6 * (5 : Int32)) + (1 : Int32)))) → ((¬ (((l6 * (5 : Int32)) + (1 : Int32)) < 0 ∨ 60 ≤ ((l6 * (5 : Int32)) + (1 : Int32)).toNatClampNeg)) ∧ WP X (d + 1) 70 (109, [some (.ref 0), none, none, some (.ref 32), some (.int l4), some (.int l5), some (.int l6), some (.int 0), some (.int ((g 33) ((l6 * (5 : Int32)) + (1 : Int32)).toNatClampNeg)), some (.int 0), none, none, none], [], Wd f fl g gl hh v tx) P)))))) ∧
      ((¬ (((l6 * (5 : Int32)) + (0 : Int32)) < 0)) → (((60 ≤ ((l6 * (5 : Int32)) + (0 : Int32))) → (((((l6 * (5 : Int32)) + (1 : Int32)) < 0) → WP X (d + 1) 70 (109, [some (.ref 0), none, none, some (.ref 32), some (.int l4), some (.int l5), some (.int l6), some (.int 0), some (.int 0), some (.int 0), none, none, none], [], Wd f fl g gl hh v tx) P) ∧
          ((¬ (((l6 * (5 : Int32)) + (1 : Int32)) < 0)) → (((60 ≤ ((l6 * (5 : Int32)) + (1 : Int32))) → WP X (d + 1) 70 (109, [some (.ref 0), none, none, some (.ref 32), some (.int l4), some (.int l5), some (.int l6), some (.int 0), some (.int 0), some (.int 0), none, none, none], [], Wd f fl g gl hh v tx) P) ∧
            ((¬ (60 ≤ ((l6 * (5 : Int32)) + (1 : Int32)))) → ((¬ (((l6 * (5 : Int32)) + (1 : Int32)) < 0 ∨ 60 ≤ ((l6 * (5 : Int32)) + (1 : Int32)).toNatClampNeg)) ∧ WP X (d + 1) 70 (109, [some (.ref 0), none, none, some (.ref 32), some (.int l4), some (.int l5), some (.int l6), some (.int 0), some (.int ((g 33) ((l6 * (5 : Int32)) + (1 : Int32)).toNatClampNeg)), some (.int 0), none, none, none], [], Wd f fl g gl hh v tx) P)))))) ∧
        ((¬ (60 ≤ ((l6 * (5 : Int32)) + (0 : Int32)))) → ((¬ (((l6 * (5 : Int32)) + (0 : Int32)) < 0 ∨ 60 ≤ ((l6 * (5 : Int32)) + (0 : Int32)).toNatClampNeg)) ∧ (((((l6 * (5 : Int32)) + (1 : Int32)) < 0) → WP X (d + 1) 70 (109, [some (.ref 0), none, none, some (.ref 32), some (.int l4), some (.int l5), some (.int l6), some (.int ((g 33) ((l6 * (5 : Int32)) + (0 : Int32)).toNatClampNeg)), some (.int 0), some (.int 0), none, none, none], [], Wd f fl g gl hh v tx) P) ∧
          ((¬ (((l6 * (5 : Int32)) + (1 : Int32)) < 0)) → (((60 ≤ ((l6 * (5 : Int32)) + (1 : Int32))) → WP X (d + 1) 70 (109, [some (.ref 0), none, none, some (.ref 32), some (.int l4), some (.int l5), some (.int l6), some (.int ((g 33) ((l6 * (5 : Int32)) + (0 : Int32)).toNatClampNeg)), some (.int 0), some (.int 0), none, none, none], [], Wd f fl g gl hh v tx) P) ∧
            ((¬ (60 ≤ ((l6 * (5 : Int32)) + (1 : Int32)))) → ((¬ (((l6 * (5 : Int32)) + (1 : Int32)) < 0 ∨ 60 ≤ ((l6 * (5 : Int32)) + (1 : Int32)).toNatClampNeg)) ∧ WP X (d + 1) 70 (109, [some (.ref 0), none, none, some (.ref 32), some (.int l4), some (.int l5), some (.int l6), some (.int ((g 33) ((l6 * (5 : Int32)) + (0 : Int32)).toNatClampNeg)), some (.int ((g 33) ((l6 * (5 : Int32)) + (1 : Int32)).toNatClampNeg)), some (.int 0), none, none, none], [], Wd f fl g gl hh v tx) P)))))))))))) :
    WP X (d + 1) 70 (79, [some (.ref 0), none, none, some (.ref 32), some (.int l4), some (.int l5), some (.int l6), none, none, none, none, none, none], [], Wd f fl g gl hh v tx) P := by
  refine WP.run hP_70 3 (c' := (85, [some (.ref 0), none, none, some (.ref 32), some (.int l4), some (.int l5), some (.int l6), none, none, none, none, none, none], [.int (f 2048), .int l6], Wd f fl g gl hh v tx)) rfl ?_
  refine WP.br hP_70 (q := (f 2048) ≤ l6) (t := 271) (f := 88) (L := [some (.ref 0), none, none, some (.ref 32), some (.int l4), some (.int l5), some (.int l6), none, none, none, none, none, none]) (st := []) (w := Wd f fl g gl hh v tx) rfl (fun c1 => ?_) (fun c1 => ?_)
  · have h2 := h.1 c1
    refine WP.run hP_70 2 (c' := (274, [some (.ref 0), none, none, none, some (.int l4), none, none, none, none, none, none, none, none], [.int l4, .ref 0], Wd f fl g gl hh v tx)) rfl ?_
    refine WP.call hP_70 hP_100 (as := [.ref 0, .int l4]) (pc' := 277) (L' := [some (.ref 0), none, none, none, some (.int l4), none, none, none, none, none, none, none, none]) (st' := []) (w1 := Wd f fl g gl hh v tx) rfl ⟨Nat.le_of_ble_eq_true rfl, Nat.le_of_ble_eq_true rfl⟩ rfl (b_x_accepted_0 X (d) f fl g gl hh v tx l4 _ ?_)
    exact WP.retI hP_70 rfl rfl h2
  · have h3 := h.2 c1
    refine WP.run hP_70 3 (c' := (92, [some (.ref 0), none, none, some (.ref 32), some (.int l4), some (.int l5), some (.int l6), none, none, none, none, none, none], [.int 0, .int l6, .ref 32], Wd f fl g gl hh v tx)) rfl ?_
    refine WP.call hP_70 hP_56 (as := [.ref 32, .int l6, .int 0]) (pc' := 95) (L' := [some (.ref 0), none, none, some (.ref 32), some (.int l4), some (.int l5), some (.int l6), none, none, none, none, none, none]) (st' := []) (w1 := Wd f fl g gl hh v tx) rfl ⟨Nat.le_of_ble_eq_true rfl, Nat.le_of_ble_eq_true rfl⟩ rfl (b_yte_head_32_0 X (d) f fl g gl hh v tx l6 0 _ ?_)
    refine ⟨fun c4 => ?_, fun c4 => ?_⟩
    · have h5 := h3.1 c4
      refine WP.run hP_70 4 (c' := (101, [some (.ref 0), none, none, some (.ref 32), some (.int l4), some (.int l5), some (.int l6), some (.int 0), none, none, none, none, none], [.int 1, .int l6, .ref 32], Wd f fl g gl hh v tx)) rfl ?_
      refine WP.call hP_70 hP_56 (as := [.ref 32, .int l6, .int 1]) (pc' := 104) (L' := [some (.ref 0), none, none, some (.ref 32), some (.int l4), some (.int l5), some (.int l6), some (.int 0), none, none, none, none, none]) (st' := []) (w1 := Wd f fl g gl hh v tx) rfl ⟨Nat.le_of_ble_eq_true rfl, Nat.le_of_ble_eq_true rfl⟩ rfl (b_yte_head_32_0 X (d) f fl g gl hh v tx l6 1 _ ?_)
      refine ⟨fun c6 => ?_, fun c6 => ?_⟩
      · have h7 := h5.1 c6
        refine WP.run hP_70 2 (c' := (107, [some (.ref 0), none, none, some (.ref 32), some (.int l4), some (.int l5), some (.int l6), some (.int 0), some (.int 0), none, none, none, none], [.int 0], Wd f fl g gl hh v tx)) rfl ?_
        refine WP.run hP_70 1 (c' := (109, [some (.ref 0), none, none, some (.ref 32), some (.int l4), some (.int l5), some (.int l6), some (.int 0), some (.int 0), some (.int 0), none, none, none], [], Wd f fl g gl hh v tx)) rfl ?_
        exact h7
      · have h8 := h5.2 c6
        refine ⟨fun c9 => ?_, fun c9 => ?_⟩
        · have h10 := h8.1 c9
          refine WP.run hP_70 2 (c' := (107, [some (.ref 0), none, none, some (.ref 32), some (.int l4), some (.int l5), some (.int l6), some (.int 0), some (.int 0), none, none, none, none], [.int 0], Wd f fl g gl hh v tx)) rfl ?_
          refine WP.run hP_70 1 (c' := (109, [some (.ref 0), none, none, some (.ref 32), some (.int l4), some (.int l5), some (.int l6), some (.int 0), some (.int 0), some (.int 0), none, none, none], [], Wd f fl g gl hh v tx)) rfl ?_
          exact h10
        · have h11 := h8.2 c9
          refine ⟨h11.1, ?_⟩
          have h12 := h11.2
          refine WP.run hP_70 2 (c' := (107, [some (.ref 0), none, none, some (.ref 32), some (.int l4), some (.int l5), some (.int l6), some (.int 0), some (.int ((g 33) ((l6 * (5 : Int32)) + (1 : Int32)).toNatClampNeg)), none, none, none, none], [.int 0], Wd f fl g gl hh v tx)) rfl ?_
          refine WP.run hP_70 1 (c' := (109, [some (.ref 0), none, none, some (.ref 32), some (.int l4), some (.int l5), some (.int l6), some (.int 0), some (.int ((g 33) ((l6 * (5 : Int32)) + (1 : Int32)).toNatClampNeg)), some (.int 0), none, none, none], [], Wd f fl g gl hh v tx)) rfl ?_
          exact h12
    · have h13 := h3.2 c4
      refine ⟨fun c14 => ?_, fun c14 => ?_⟩
      · have h15 := h13.1 c14
        refine WP.run hP_70 4 (c' := (101, [some (.ref 0), none, none, some (.ref 32), some (.int l4), some (.int l5), some (.int l6), some (.int 0), none, none, none, none, none], [.int 1, .int l6, .ref 32], Wd f fl g gl hh v tx)) rfl ?_
        refine WP.call hP_70 hP_56 (as := [.ref 32, .int l6, .int 1]) (pc' := 104) (L' := [some (.ref 0), none, none, some (.ref 32), some (.int l4), some (.int l5), some (.int l6), some (.int 0), none, none, none, none, none]) (st' := []) (w1 := Wd f fl g gl hh v tx) rfl ⟨Nat.le_of_ble_eq_true rfl, Nat.le_of_ble_eq_true rfl⟩ rfl (b_yte_head_32_0 X (d) f fl g gl hh v tx l6 1 _ ?_)
        refine ⟨fun c16 => ?_, fun c16 => ?_⟩
        · have h17 := h15.1 c16
          refine WP.run hP_70 2 (c' := (107, [some (.ref 0), none, none, some (.ref 32), some (.int l4), some (.int l5), some (.int l6), some (.int 0), some (.int 0), none, none, none, none], [.int 0], Wd f fl g gl hh v tx)) rfl ?_
          refine WP.run hP_70 1 (c' := (109, [some (.ref 0), none, none, some (.ref 32), some (.int l4), some (.int l5), some (.int l6), some (.int 0), some (.int 0), some (.int 0), none, none, none], [], Wd f fl g gl hh v tx)) rfl ?_
          exact h17
        · have h18 := h15.2 c16
          refine ⟨fun c19 => ?_, fun c19 => ?_⟩
          · have h20 := h18.1 c19
            refine WP.run hP_70 2 (c' := (107, [some (.ref 0), none, none, some (.ref 32), some (.int l4), some (.int l5), some (.int l6), some (.int 0), some (.int 0), none, none, none, none], [.int 0], Wd f fl g gl hh v tx)) rfl ?_
            refine WP.run hP_70 1 (c' := (109, [some (.ref 0), none, none, some (.ref 32), some (.int l4), some (.int l5), some (.int l6), some (.int 0), some (.int 0), some (.int 0), none, none, none], [], Wd f fl g gl hh v tx)) rfl ?_
            exact h20
          · have h21 := h18.2 c19
            refine ⟨h21.1, ?_⟩
            have h22 := h21.2
            refine WP.run hP_70 2 (c' := (107, [some (.ref 0), none, none, some (.ref 32), some (.int l4), some (.int l5), some (.int l6), some (.int 0), some (.int ((g 33) ((l6 * (5 : Int32)) + (1 : Int32)).toNatClampNeg)), none, none, none, none], [.int 0], Wd f fl g gl hh v tx)) rfl ?_
            refine WP.run hP_70 1 (c' := (109, [some (.ref 0), none, none, some (.ref 32), some (.int l4), some (.int l5), some (.int l6), some (.int 0), some (.int ((g 33) ((l6 * (5 : Int32)) + (1 : Int32)).toNatClampNeg)), some (.int 0), none, none, none], [], Wd f fl g gl hh v tx)) rfl ?_
            exact h22
      · have h23 := h13.2 c14
        refine ⟨h23.1, ?_⟩
        have h24 := h23.2
        refine WP.run hP_70 4 (c' := (101, [some (.ref 0), none, none, some (.ref 32), some (.int l4), some (.int l5), some (.int l6), some (.int ((g 33) ((l6 * (5 : Int32)) + (0 : Int32)).toNatClampNeg)), none, none, none, none, none], [.int 1, .int l6, .ref 32], Wd f fl g gl hh v tx)) rfl ?_
        refine WP.call hP_70 hP_56 (as := [.ref 32, .int l6, .int 1]) (pc' := 104) (L' := [some (.ref 0), none, none, some (.ref 32), some (.int l4), some (.int l5), some (.int l6), some (.int ((g 33) ((l6 * (5 : Int32)) + (0 : Int32)).toNatClampNeg)), none, none, none, none, none]) (st' := []) (w1 := Wd f fl g gl hh v tx) rfl ⟨Nat.le_of_ble_eq_true rfl, Nat.le_of_ble_eq_true rfl⟩ rfl (b_yte_head_32_0 X (d) f fl g gl hh v tx l6 1 _ ?_)
        refine ⟨fun c25 => ?_, fun c25 => ?_⟩
        · have h26 := h24.1 c25
          refine WP.run hP_70 2 (c' := (107, [some (.ref 0), none, none, some (.ref 32), some (.int l4), some (.int l5), some (.int l6), some (.int ((g 33) ((l6 * (5 : Int32)) + (0 : Int32)).toNatClampNeg)), some (.int 0), none, none, none, none], [.int 0], Wd f fl g gl hh v tx)) rfl ?_
          refine WP.run hP_70 1 (c' := (109, [some (.ref 0), none, none, some (.ref 32), some (.int l4), some (.int l5), some (.int l6), some (.int ((g 33) ((l6 * (5 : Int32)) + (0 : Int32)).toNatClampNeg)), some (.int 0), some (.int 0), none, none, none], [], Wd f fl g gl hh v tx)) rfl ?_
          exact h26
        · have h27 := h24.2 c25
          refine ⟨fun c28 => ?_, fun c28 => ?_⟩
          · have h29 := h27.1 c28
            refine WP.run hP_70 2 (c' := (107, [some (.ref 0), none, none, some (.ref 32), some (.int l4), some (.int l5), some (.int l6), some (.int ((g 33) ((l6 * (5 : Int32)) + (0 : Int32)).toNatClampNeg)), some (.int 0), none, none, none, none], [.int 0], Wd f fl g gl hh v tx)) rfl ?_
            refine WP.run hP_70 1 (c' := (109, [some (.ref 0), none, none, some (.ref 32), some (.int l4), some (.int l5), some (.int l6), some (.int ((g 33) ((l6 * (5 : Int32)) + (0 : Int32)).toNatClampNeg)), some (.int 0), some (.int 0), none, none, none], [], Wd f fl g gl hh v tx)) rfl ?_
            exact h29
          · have h30 := h27.2 c28
            refine ⟨h30.1, ?_⟩
            have h31 := h30.2
            refine WP.run hP_70 2 (c' := (107, [some (.ref 0), none, none, some (.ref 32), some (.int l4), some (.int l5), some (.int l6), some (.int ((g 33) ((l6 * (5 : Int32)) + (0 : Int32)).toNatClampNeg)), some (.int ((g 33) ((l6 * (5 : Int32)) + (1 : Int32)).toNatClampNeg)), none, none, none, none], [.int 0], Wd f fl g gl hh v tx)) rfl ?_
            refine WP.run hP_70 1 (c' := (109, [some (.ref 0), none, none, some (.ref 32), some (.int l4), some (.int l5), some (.int l6), some (.int ((g 33) ((l6 * (5 : Int32)) + (0 : Int32)).toNatClampNeg)), some (.int ((g 33) ((l6 * (5 : Int32)) + (1 : Int32)).toNatClampNeg)), some (.int 0), none, none, none], [], Wd f fl g gl hh v tx)) rfl ?_
            exact h31

set_option maxRecDepth 20000 in
theorem b_x_orders_109 (X : mm_X) (d : Nat) (f : Nat → Int32) (fl : Nat → Int64) (g : Nat → Nat → Int32) (gl : Nat → Nat → Int64) (hh : Nat → Nat → Option Nat) (v : Nat → Value) (tx : mm_W) (l4 : Int32) (l5 : Int32) (l6 : Int32) (l7 : Int32) (l8 : Int32) (l9 : Int32)  (P : Option Value → mm_W → Prop)
    (h : ((l8 ≤ l9) → WP X (d + 1) 70 (79, [some (.ref 0), none, none, some (.ref 32), some (.int l4), some (.int l5), some (.int (l6 + (1 : Int32))), none, none, none, none, none, none], [], Wd f fl g gl hh v tx) P) ∧
    ((¬ (l8 ≤ l9)) → WP X (d) 104 (0, [some (.ref 0), some (.int l4), some (.int l5), none, none], [], Wd f fl g gl hh v tx) (fun rv w2 => WP X (d + 1) 70 (124, [some (.ref 0), none, none, some (.ref 32), some (.int l4), some (.int l5), some (.int l6), some (.int l7), some (.int l8), some (.int l9), none, none, none], rv.toList ++ [], w2) P))) :
    WP X (d + 1) 70 (109, [some (.ref 0), none, none, some (.ref 32), some (.int l4), some (.int l5), some (.int l6), some (.int l7), some (.int l8), some (.int l9), none, none, none], [], Wd f fl g gl hh v tx) P := by
  refine WP.run hP_70 2 (c' := (113, [some (.ref 0), none, none, some (.ref 32), some (.int l4), some (.int l5), some (.int l6), some (.int l7), some (.int l8), some (.int l9), none, none, none], [.int l8, .int l9], Wd f fl g gl hh v tx)) rfl ?_
  refine WP.br hP_70 (q := l8 ≤ l9) (t := 265) (f := 116) (L := [some (.ref 0), none, none, some (.ref 32), some (.int l4), some (.int l5), some (.int l6), some (.int l7), some (.int l8), some (.int l9), none, none, none]) (st := []) (w := Wd f fl g gl hh v tx) rfl (fun c1 => ?_) (fun c1 => ?_)
  · have h2 := h.1 c1
    refine WP.run hP_70 2 (c' := (79, [some (.ref 0), none, none, some (.ref 32), some (.int l4), some (.int l5), some (.int (l6 + (1 : Int32))), none, none, none, none, none, none], [], Wd f fl g gl hh v tx)) rfl ?_
    exact h2
  · have h3 := h.2 c1
    refine WP.run hP_70 3 (c' := (121, [some (.ref 0), none, none, some (.ref 32), some (.int l4), some (.int l5), some (.int l6), some (.int l7), some (.int l8), some (.int l9), none, none, none], [.int l5, .int l4, .ref 0], Wd f fl g gl hh v tx)) rfl ?_
    refine WP.call hP_70 hP_104 (as := [.ref 0, .int l4, .int l5]) (pc' := 124) (L' := [some (.ref 0), none, none, some (.ref 32), some (.int l4), some (.int l5), some (.int l6), some (.int l7), some (.int l8), some (.int l9), none, none, none]) (st' := []) (w1 := Wd f fl g gl hh v tx) rfl ⟨Nat.le_of_ble_eq_true rfl, Nat.le_of_ble_eq_true rfl⟩ rfl ?_
    exact h3

set_option maxRecDepth 20000 in
theorem b_x_orders_124 (X : mm_X) (d : Nat) (f : Nat → Int32) (fl : Nat → Int64) (g : Nat → Nat → Int32) (gl : Nat → Nat → Int64) (hh : Nat → Nat → Option Nat) (v : Nat → Value) (tx : mm_W) (l4 : Int32) (l5 : Int32) (l6 : Int32) (l7 : Int32) (l8 : Int32) (l9 : Int32)  (P : Option Value → mm_W → Prop)
    (h : WP X (d) 30 (0, [some (.ref 35), some (.ref 32), some (.int l6), some (.int 3), some (.ref 37), none, none, none, none, none, none, none, none], [], Wd f fl g gl hh v tx) (fun rv w2 => WP X (d + 1) 70 (139, [some (.ref 0), none, none, some (.ref 32), some (.int l4), some (.int l5), some (.int l6), some (.int l7), some (.int l8), some (.int l9), none, none, none], rv.toList ++ [], w2) P)) :
    WP X (d + 1) 70 (124, [some (.ref 0), none, none, some (.ref 32), some (.int l4), some (.int l5), some (.int l6), some (.int l7), some (.int l8), some (.int l9), none, none, none], [], Wd f fl g gl hh v tx) P := by
  refine WP.run hP_70 7 (c' := (136, [some (.ref 0), none, none, some (.ref 32), some (.int l4), some (.int l5), some (.int l6), some (.int l7), some (.int l8), some (.int l9), none, none, none], [.ref 37, .int 3, .int l6, .ref 32, .ref 35], Wd f fl g gl hh v tx)) rfl ?_
  refine WP.call hP_70 hP_30 (as := [.ref 35, .ref 32, .int l6, .int 3, .ref 37]) (pc' := 139) (L' := [some (.ref 0), none, none, some (.ref 32), some (.int l4), some (.int l5), some (.int l6), some (.int l7), some (.int l8), some (.int l9), none, none, none]) (st' := []) (w1 := Wd f fl g gl hh v tx) rfl ⟨Nat.le_of_ble_eq_true rfl, Nat.le_of_ble_eq_true rfl⟩ rfl ?_
  exact h

set_option maxRecDepth 20000 in
theorem b_x_orders_139 (X : mm_X) (d : Nat) (f : Nat → Int32) (fl : Nat → Int64) (g : Nat → Nat → Int32) (gl : Nat → Nat → Int64) (hh : Nat → Nat → Option Nat) (v : Nat → Value) (tx : mm_W) (l4 : Int32) (l5 : Int32) (l6 : Int32) (l7 : Int32) (l8 : Int32) (l9 : Int32) (s0 : Int64)  (P : Option Value → mm_W → Prop)
    (h : (((lg_cmp s0 1) = 0) → WP X (d) 30 (0, [some (.ref 35), some (.ref 32), some (.int l6), some (.int 2), some (.ref 37), none, none, none, none, none, none, none, none], [], Wd f fl g gl hh v tx) (fun rv w2 => WP X (d + 1) 70 (162, [some (.ref 0), none, none, some (.ref 32), some (.int l4), some (.int l5), some (.int l6), some (.int l7), some (.int l8), some (.int l9), none, none, none], rv.toList ++ [], w2) P)) ∧
    ((¬ (lg_cmp s0 1) = 0) → WP X (d + 1) 70 (109, [some (.ref 0), none, none, some (.ref 32), some (.int l4), some (.int l5), some (.int l6), some (.int l7), some (.int l8), some (.int (l9 + (1 : Int32))), none, none, none], [], Wd f fl g gl hh v tx) P)) :
    WP X (d + 1) 70 (139, [some (.ref 0), none, none, some (.ref 32), some (.int l4), some (.int l5), some (.int l6), some (.int l7), some (.int l8), some (.int l9), none, none, none], [.long s0], Wd f fl g gl hh v tx) P := by
  refine WP.run hP_70 2 (c' := (141, [some (.ref 0), none, none, some (.ref 32), some (.int l4), some (.int l5), some (.int l6), some (.int l7), some (.int l8), some (.int l9), none, none, none], [.int (lg_cmp s0 1)], Wd f fl g gl hh v tx)) rfl ?_
  refine WP.br hP_70 (q := (lg_cmp s0 1) = 0) (t := 147) (f := 144) (L := [some (.ref 0), none, none, some (.ref 32), some (.int l4), some (.int l5), some (.int l6), some (.int l7), some (.int l8), some (.int l9), none, none, none]) (st := []) (w := Wd f fl g gl hh v tx) rfl (fun c1 => ?_) (fun c1 => ?_)
  · have h2 := h.1 c1
    refine WP.run hP_70 7 (c' := (159, [some (.ref 0), none, none, some (.ref 32), some (.int l4), some (.int l5), some (.int l6), some (.int l7), some (.int l8), some (.int l9), none, none, none], [.ref 37, .int 2, .int l6, .ref 32, .ref 35], Wd f fl g gl hh v tx)) rfl ?_
    refine WP.call hP_70 hP_30 (as := [.ref 35, .ref 32, .int l6, .int 2, .ref 37]) (pc' := 162) (L' := [some (.ref 0), none, none, some (.ref 32), some (.int l4), some (.int l5), some (.int l6), some (.int l7), some (.int l8), some (.int l9), none, none, none]) (st' := []) (w1 := Wd f fl g gl hh v tx) rfl ⟨Nat.le_of_ble_eq_true rfl, Nat.le_of_ble_eq_true rfl⟩ rfl ?_
    exact h2
  · have h3 := h.2 c1
    refine WP.run hP_70 3 (c' := (109, [some (.ref 0), none, none, some (.ref 32), some (.int l4), some (.int l5), some (.int l6), some (.int l7), some (.int l8), some (.int (l9 + (1 : Int32))), none, none, none], [], Wd f fl g gl hh v tx)) rfl ?_
    exact h3

set_option maxRecDepth 20000 in
theorem b_x_orders_162 (X : mm_X) (d : Nat) (f : Nat → Int32) (fl : Nat → Int64) (g : Nat → Nat → Int32) (gl : Nat → Nat → Int64) (hh : Nat → Nat → Option Nat) (v : Nat → Value) (tx : mm_W) (l4 : Int32) (l5 : Int32) (l6 : Int32) (l7 : Int32) (l8 : Int32) (l9 : Int32) (s0 : Int64)  (P : Option Value → mm_W → Prop)
    (h : ((¬ l7 = 0) → (((¬ l7 = 1) → (((¬ l7 = 2) → WP X (d) 108 (0, [some (.ref 0)], [], Wd f fl g gl hh v tx) (fun rv w2 => WP X (d + 1) 70 (210, [some (.ref 0), none, none, some (.ref 32), some (.int l4), some (.int l5), some (.int l6), some (.int l7), some (.int l8), some (.int l9), none, none, none], rv.toList ++ [], w2) P)) ∧
        ((l7 = 2) → WP X (d) 107 (0, [some (.ref 0), some (.long s0), none, none], [], Wd f fl g gl hh v tx) (fun rv w2 => WP X (d + 1) 70 (203, [some (.ref 0), none, none, some (.ref 32), some (.int l4), some (.int l5), some (.int l6), some (.int l7), some (.int l8), some (.int l9), some (.long s0), none, none], rv.toList ++ [], w2) P)))) ∧
      ((l7 = 1) → WP X (d) 106 (0, [some (.ref 0), none], [], Wd f fl g gl hh v tx) (fun rv w2 => WP X (d + 1) 70 (188, [some (.ref 0), none, none, some (.ref 32), some (.int l4), some (.int l5), some (.int l6), some (.int l7), some (.int l8), some (.int l9), some (.long s0), none, none], rv.toList ++ [], w2) P)))) ∧
    ((l7 = 0) → WP X (d) 105 (0, [some (.ref 0), some (.long s0), none], [], Wd f fl g gl hh v tx) (fun rv w2 => WP X (d + 1) 70 (175, [some (.ref 0), none, none, some (.ref 32), some (.int l4), some (.int l5), some (.int l6), some (.int l7), some (.int l8), some (.int l9), some (.long s0), none, none], rv.toList ++ [], w2) P))) :
    WP X (d + 1) 70 (162, [some (.ref 0), none, none, some (.ref 32), some (.int l4), some (.int l5), some (.int l6), some (.int l7), some (.int l8), some (.int l9), none, none, none], [.long s0], Wd f fl g gl hh v tx) P := by
  refine WP.run hP_70 2 (c' := (166, [some (.ref 0), none, none, some (.ref 32), some (.int l4), some (.int l5), some (.int l6), some (.int l7), some (.int l8), some (.int l9), some (.long s0), none, none], [.int l7], Wd f fl g gl hh v tx)) rfl ?_
  refine WP.br hP_70 (q := ¬ l7 = 0) (t := 178) (f := 169) (L := [some (.ref 0), none, none, some (.ref 32), some (.int l4), some (.int l5), some (.int l6), some (.int l7), some (.int l8), some (.int l9), some (.long s0), none, none]) (st := []) (w := Wd f fl g gl hh v tx) rfl (fun c1 => ?_) (fun c1 => ?_)
  · have h2 := h.1 c1
    refine WP.run hP_70 2 (c' := (181, [some (.ref 0), none, none, some (.ref 32), some (.int l4), some (.int l5), some (.int l6), some (.int l7), some (.int l8), some (.int l9), some (.long s0), none, none], [.int 1, .int l7], Wd f fl g gl hh v tx)) rfl ?_
    refine WP.br hP_70 (q := ¬ l7 = 1) (t := 191) (f := 184) (L := [some (.ref 0), none, none, some (.ref 32), some (.int l4), some (.int l5), some (.int l6), some (.int l7), some (.int l8), some (.int l9), some (.long s0), none, none]) (st := []) (w := Wd f fl g gl hh v tx) rfl (fun c3 => ?_) (fun c3 => ?_)
    · have h4 := h2.1 c3
      refine WP.run hP_70 2 (c' := (194, [some (.ref 0), none, none, some (.ref 32), some (.int l4), some (.int l5), some (.int l6), some (.int l7), some (.int l8), some (.int l9), some (.long s0), none, none], [.int 2, .int l7], Wd f fl g gl hh v tx)) rfl ?_
      refine WP.br hP_70 (q := ¬ l7 = 2) (t := 206) (f := 197) (L := [some (.ref 0), none, none, some (.ref 32), some (.int l4), some (.int l5), some (.int l6), some (.int l7), some (.int l8), some (.int l9), some (.long s0), none, none]) (st := []) (w := Wd f fl g gl hh v tx) rfl (fun c5 => ?_) (fun c5 => ?_)
      · have h6 := h4.1 c5
        refine WP.run hP_70 1 (c' := (207, [some (.ref 0), none, none, some (.ref 32), some (.int l4), some (.int l5), some (.int l6), some (.int l7), some (.int l8), some (.int l9), none, none, none], [.ref 0], Wd f fl g gl hh v tx)) rfl ?_
        refine WP.call hP_70 hP_108 (as := [.ref 0]) (pc' := 210) (L' := [some (.ref 0), none, none, some (.ref 32), some (.int l4), some (.int l5), some (.int l6), some (.int l7), some (.int l8), some (.int l9), none, none, none]) (st' := []) (w1 := Wd f fl g gl hh v tx) rfl ⟨Nat.le_of_ble_eq_true rfl, Nat.le_of_ble_eq_true rfl⟩ rfl ?_
        exact h6
      · have h7 := h4.2 (Classical.not_not.mp c5)
        refine WP.run hP_70 2 (c' := (200, [some (.ref 0), none, none, some (.ref 32), some (.int l4), some (.int l5), some (.int l6), some (.int l7), some (.int l8), some (.int l9), some (.long s0), none, none], [.long s0, .ref 0], Wd f fl g gl hh v tx)) rfl ?_
        refine WP.call hP_70 hP_107 (as := [.ref 0, .long s0]) (pc' := 203) (L' := [some (.ref 0), none, none, some (.ref 32), some (.int l4), some (.int l5), some (.int l6), some (.int l7), some (.int l8), some (.int l9), some (.long s0), none, none]) (st' := []) (w1 := Wd f fl g gl hh v tx) rfl ⟨Nat.le_of_ble_eq_true rfl, Nat.le_of_ble_eq_true rfl⟩ rfl ?_
        exact h7
    · have h8 := h2.2 (Classical.not_not.mp c3)
      refine WP.run hP_70 1 (c' := (185, [some (.ref 0), none, none, some (.ref 32), some (.int l4), some (.int l5), some (.int l6), some (.int l7), some (.int l8), some (.int l9), some (.long s0), none, none], [.ref 0], Wd f fl g gl hh v tx)) rfl ?_
      refine WP.call hP_70 hP_106 (as := [.ref 0]) (pc' := 188) (L' := [some (.ref 0), none, none, some (.ref 32), some (.int l4), some (.int l5), some (.int l6), some (.int l7), some (.int l8), some (.int l9), some (.long s0), none, none]) (st' := []) (w1 := Wd f fl g gl hh v tx) rfl ⟨Nat.le_of_ble_eq_true rfl, Nat.le_of_ble_eq_true rfl⟩ rfl ?_
      exact h8
  · have h9 := h.2 (Classical.not_not.mp c1)
    refine WP.run hP_70 2 (c' := (172, [some (.ref 0), none, none, some (.ref 32), some (.int l4), some (.int l5), some (.int l6), some (.int l7), some (.int l8), some (.int l9), some (.long s0), none, none], [.long s0, .ref 0], Wd f fl g gl hh v tx)) rfl ?_
    refine WP.call hP_70 hP_105 (as := [.ref 0, .long s0]) (pc' := 175) (L' := [some (.ref 0), none, none, some (.ref 32), some (.int l4), some (.int l5), some (.int l6), some (.int l7), some (.int l8), some (.int l9), some (.long s0), none, none]) (st' := []) (w1 := Wd f fl g gl hh v tx) rfl ⟨Nat.le_of_ble_eq_true rfl, Nat.le_of_ble_eq_true rfl⟩ rfl ?_
    exact h9

set_option maxRecDepth 20000 in
theorem b_x_orders_210 (X : mm_X) (d : Nat) (f : Nat → Int32) (fl : Nat → Int64) (g : Nat → Nat → Int32) (gl : Nat → Nat → Int64) (hh : Nat → Nat → Option Nat) (v : Nat → Value) (tx : mm_W) (l4 : Int32) (l5 : Int32) (l6 : Int32) (l7 : Int32) (l8 : Int32) (l9 : Int32) (s0 : Int32)  (P : Option Value → mm_W → Prop)
    (h : ((0 ≤ s0) → (((¬ l7 = 2) → WP X (d + 1) 70 (109, [some (.ref 0), none, none, some (.ref 32), some (.int (l4 + (1 : Int32))), some (.int l5), some (.int l6), some (.int l7), some (.int l8), some (.int (l9 + (1 : Int32))), none, none, none], [], Wd f fl g gl hh v tx) P) ∧
      ((l7 = 2) → WP X (d + 1) 70 (109, [some (.ref 0), none, none, some (.ref 32), some (.int (l4 + (1 : Int32))), some (.int s0), some (.int l6), some (.int l7), some (.int l8), some (.int (l9 + (1 : Int32))), none, none, none], [], Wd f fl g gl hh v tx) P))) ∧
    ((¬ (0 ≤ s0)) → WP X (d) 45 (0, [some (.ref 1), some (.ref 10), none], [], Wd f fl g gl hh v tx) (fun rv w2 => WP X (d + 1) 70 (228, [some (.ref 0), none, none, some (.ref 32), some (.int l4), some (.int l5), some (.int l6), some (.int l7), some (.int l8), some (.int l9), none, none, some (.int s0)], rv.toList ++ [], w2) P))) :
    WP X (d + 1) 70 (210, [some (.ref 0), none, none, some (.ref 32), some (.int l4), some (.int l5), some (.int l6), some (.int l7), some (.int l8), some (.int l9), none, none, none], [.int s0], Wd f fl g gl hh v tx) P := by
  refine WP.run hP_70 2 (c' := (214, [some (.ref 0), none, none, some (.ref 32), some (.int l4), some (.int l5), some (.int l6), some (.int l7), some (.int l8), some (.int l9), none, none, some (.int s0)], [.int s0], Wd f fl g gl hh v tx)) rfl ?_
  refine WP.br hP_70 (q := 0 ≤ s0) (t := 241) (f := 217) (L := [some (.ref 0), none, none, some (.ref 32), some (.int l4), some (.int l5), some (.int l6), some (.int l7), some (.int l8), some (.int l9), none, none, some (.int s0)]) (st := []) (w := Wd f fl g gl hh v tx) rfl (fun c1 => ?_) (fun c1 => ?_)
  · have h2 := h.1 c1
    refine WP.run hP_70 3 (c' := (247, [some (.ref 0), none, none, some (.ref 32), some (.int (l4 + (1 : Int32))), some (.int l5), some (.int l6), some (.int l7), some (.int l8), some (.int l9), none, none, some (.int s0)], [.int 2, .int l7], Wd f fl g gl hh v tx)) rfl ?_
    refine WP.br hP_70 (q := ¬ l7 = 2) (t := 255) (f := 250) (L := [some (.ref 0), none, none, some (.ref 32), some (.int (l4 + (1 : Int32))), some (.int l5), some (.int l6), some (.int l7), some (.int l8), some (.int l9), none, none, some (.int s0)]) (st := []) (w := Wd f fl g gl hh v tx) rfl (fun c3 => ?_) (fun c3 => ?_)
    · have h4 := h2.1 c3
      refine WP.run hP_70 1 (c' := (257, [some (.ref 0), none, none, some (.ref 32), some (.int (l4 + (1 : Int32))), some (.int l5), some (.int l6), some (.int l7), some (.int l8), some (.int l9), none, none, none], [.int l5], Wd f fl g gl hh v tx)) rfl ?_
      refine WP.run hP_70 1 (c' := (259, [some (.ref 0), none, none, some (.ref 32), some (.int (l4 + (1 : Int32))), some (.int l5), some (.int l6), some (.int l7), some (.int l8), some (.int l9), none, none, none], [], Wd f fl g gl hh v tx)) rfl ?_
      refine WP.run hP_70 2 (c' := (109, [some (.ref 0), none, none, some (.ref 32), some (.int (l4 + (1 : Int32))), some (.int l5), some (.int l6), some (.int l7), some (.int l8), some (.int (l9 + (1 : Int32))), none, none, none], [], Wd f fl g gl hh v tx)) rfl ?_
      exact h4
    · have h5 := h2.2 (Classical.not_not.mp c3)
      refine WP.run hP_70 3 (c' := (259, [some (.ref 0), none, none, some (.ref 32), some (.int (l4 + (1 : Int32))), some (.int s0), some (.int l6), some (.int l7), some (.int l8), some (.int l9), none, none, none], [], Wd f fl g gl hh v tx)) rfl ?_
      refine WP.run hP_70 2 (c' := (109, [some (.ref 0), none, none, some (.ref 32), some (.int (l4 + (1 : Int32))), some (.int s0), some (.int l6), some (.int l7), some (.int l8), some (.int (l9 + (1 : Int32))), none, none, none], [], Wd f fl g gl hh v tx)) rfl ?_
      exact h5
  · have h6 := h.2 c1
    refine WP.run hP_70 4 (c' := (225, [some (.ref 0), none, none, some (.ref 32), some (.int l4), some (.int l5), some (.int l6), some (.int l7), some (.int l8), some (.int l9), none, none, some (.int s0)], [.ref 10, .ref 1], Wd f fl g gl hh v tx)) rfl ?_
    refine WP.call hP_70 hP_45 (as := [.ref 1, .ref 10]) (pc' := 228) (L' := [some (.ref 0), none, none, some (.ref 32), some (.int l4), some (.int l5), some (.int l6), some (.int l7), some (.int l8), some (.int l9), none, none, some (.int s0)]) (st' := []) (w1 := Wd f fl g gl hh v tx) rfl ⟨Nat.le_of_ble_eq_true rfl, Nat.le_of_ble_eq_true rfl⟩ rfl ?_
    exact h6

set_option maxRecDepth 20000 in
theorem b_x_orders_203 (X : mm_X) (d : Nat) (f : Nat → Int32) (fl : Nat → Int64) (g : Nat → Nat → Int32) (gl : Nat → Nat → Int64) (hh : Nat → Nat → Option Nat) (v : Nat → Value) (tx : mm_W) (l4 : Int32) (l5 : Int32) (l6 : Int32) (l7 : Int32) (l8 : Int32) (l9 : Int32) (l10 : Int64) (s0 : Int32)  (P : Option Value → mm_W → Prop)
    (h : WP X (d) 70 (210, [some (.ref 0), none, none, some (.ref 32), some (.int l4), some (.int l5), some (.int l6), some (.int l7), some (.int l8), some (.int l9), none, none, none], [.int s0], Wd f fl g gl hh v tx) P) :
    WP X (d) 70 (203, [some (.ref 0), none, none, some (.ref 32), some (.int l4), some (.int l5), some (.int l6), some (.int l7), some (.int l8), some (.int l9), some (.long l10), none, none], [.int s0], Wd f fl g gl hh v tx) P := by
  refine WP.run hP_70 1 (c' := (210, [some (.ref 0), none, none, some (.ref 32), some (.int l4), some (.int l5), some (.int l6), some (.int l7), some (.int l8), some (.int l9), some (.long l10), none, none], [.int s0], Wd f fl g gl hh v tx)) rfl ?_
  refine WP.clr hP_70 (pc := 210) rfl ?_
  exact h

set_option maxRecDepth 20000 in
theorem b_x_orders_188 (X : mm_X) (d : Nat) (f : Nat → Int32) (fl : Nat → Int64) (g : Nat → Nat → Int32) (gl : Nat → Nat → Int64) (hh : Nat → Nat → Option Nat) (v : Nat → Value) (tx : mm_W) (l4 : Int32) (l5 : Int32) (l6 : Int32) (l7 : Int32) (l8 : Int32) (l9 : Int32) (l10 : Int64) (s0 : Int32)  (P : Option Value → mm_W → Prop)
    (h : WP X (d) 70 (210, [some (.ref 0), none, none, some (.ref 32), some (.int l4), some (.int l5), some (.int l6), some (.int l7), some (.int l8), some (.int l9), none, none, none], [.int s0], Wd f fl g gl hh v tx) P) :
    WP X (d) 70 (188, [some (.ref 0), none, none, some (.ref 32), some (.int l4), some (.int l5), some (.int l6), some (.int l7), some (.int l8), some (.int l9), some (.long l10), none, none], [.int s0], Wd f fl g gl hh v tx) P := by
  refine WP.run hP_70 1 (c' := (210, [some (.ref 0), none, none, some (.ref 32), some (.int l4), some (.int l5), some (.int l6), some (.int l7), some (.int l8), some (.int l9), some (.long l10), none, none], [.int s0], Wd f fl g gl hh v tx)) rfl ?_
  refine WP.clr hP_70 (pc := 210) rfl ?_
  exact h

set_option maxRecDepth 20000 in
theorem b_x_orders_175 (X : mm_X) (d : Nat) (f : Nat → Int32) (fl : Nat → Int64) (g : Nat → Nat → Int32) (gl : Nat → Nat → Int64) (hh : Nat → Nat → Option Nat) (v : Nat → Value) (tx : mm_W) (l4 : Int32) (l5 : Int32) (l6 : Int32) (l7 : Int32) (l8 : Int32) (l9 : Int32) (l10 : Int64) (s0 : Int32)  (P : Option Value → mm_W → Prop)
    (h : WP X (d) 70 (210, [some (.ref 0), none, none, some (.ref 32), some (.int l4), some (.int l5), some (.int l6), some (.int l7), some (.int l8), some (.int l9), none, none, none], [.int s0], Wd f fl g gl hh v tx) P) :
    WP X (d) 70 (175, [some (.ref 0), none, none, some (.ref 32), some (.int l4), some (.int l5), some (.int l6), some (.int l7), some (.int l8), some (.int l9), some (.long l10), none, none], [.int s0], Wd f fl g gl hh v tx) P := by
  refine WP.run hP_70 1 (c' := (210, [some (.ref 0), none, none, some (.ref 32), some (.int l4), some (.int l5), some (.int l6), some (.int l7), some (.int l8), some (.int l9), some (.long l10), none, none], [.int s0], Wd f fl g gl hh v tx)) rfl ?_
  refine WP.clr hP_70 (pc := 210) rfl ?_
  exact h

set_option maxRecDepth 20000 in
theorem b_x_orders_228 (X : mm_X) (d : Nat) (f : Nat → Int32) (fl : Nat → Int64) (g : Nat → Nat → Int32) (gl : Nat → Nat → Int64) (hh : Nat → Nat → Option Nat) (v : Nat → Value) (tx : mm_W) (l4 : Int32) (l5 : Int32) (l6 : Int32) (l7 : Int32) (l8 : Int32) (l9 : Int32) (l12 : Int32)  (P : Option Value → mm_W → Prop)
    (h : P (some (.int (-3))) (Wd (va_up (va_up f 16 l6) 18 (-3 : Int32)) fl (va_up g 55 (upd (g 55) (3) (((g 55) 3) + (1 : Int32)))) gl hh v tx)) :
    WP X (d + 2) 70 (228, [some (.ref 0), none, none, some (.ref 32), some (.int l4), some (.int l5), some (.int l6), some (.int l7), some (.int l8), some (.int l9), none, none, some (.int l12)], [], Wd f fl g gl hh v tx) P := by
  refine WP.run hP_70 5 (c' := (237, [some (.ref 0), none, none, some (.ref 32), some (.int l4), some (.int l5), some (.int l6), some (.int l7), some (.int l8), some (.int l9), none, none, some (.int l12)], [.int (-3), .ref 0], Wd (va_up f 16 l6) fl g gl hh v tx)) rfl ?_
  refine WP.call hP_70 hP_101 (as := [.ref 0, .int (-3)]) (pc' := 240) (L' := [some (.ref 0), none, none, some (.ref 32), some (.int l4), some (.int l5), some (.int l6), some (.int l7), some (.int l8), some (.int l9), none, none, some (.int l12)]) (st' := []) (w1 := Wd (va_up f 16 l6) fl g gl hh v tx) rfl ⟨Nat.le_of_ble_eq_true rfl, Nat.le_of_ble_eq_true rfl⟩ rfl (b_x_refused_0 X (d) (va_up f 16 l6) fl g gl hh v tx (-3) _ ?_)
  refine ⟨fun c1 => ?_, fun c => absurd c (by decide)⟩
  refine ⟨by decide, ?_⟩
  refine ⟨by decide, ?_⟩
  exact WP.retI hP_70 rfl rfl h

set_option maxRecDepth 20000 in
theorem b_m_goesAlong_0 (X : mm_X) (d : Nat) (f : Nat → Int32) (fl : Nat → Int64) (g : Nat → Nat → Int32) (gl : Nat → Nat → Int64) (hh : Nat → Nat → Option Nat) (v : Nat → Value) (tx : mm_W) (p0 : Int32) (p1 : Int32)  (P : Option Value → mm_W → Prop)
    (h : WP X (d) 178 (0, [some (.ref 74), some (.int (f 4779))], [], Wd (va_up (va_up (va_up f 4761 1) 4759 p0) 4758 (f 4779)) fl g gl hh v tx) (fun rv w2 => WP X (d + 1) 246 (27, [some (.ref 74), some (.int p0), some (.int p1)], rv.toList ++ [.ref 74], w2) P)) :
    WP X (d + 1) 246 (0, [some (.ref 74), some (.int p0), some (.int p1)], [], Wd f fl g gl hh v tx) P := by
  refine WP.run hP_246 14 (c' := (24, [some (.ref 74), some (.int p0), some (.int p1)], [.int (f 4779), .ref 74, .ref 74], Wd (va_up (va_up (va_up f 4761 1) 4759 p0) 4758 (f 4779)) fl g gl hh v tx)) rfl ?_
  refine WP.call hP_246 hP_178 (as := [.ref 74, .int (f 4779)]) (pc' := 27) (L' := [some (.ref 74), some (.int p0), some (.int p1)]) (st' := [.ref 74]) (w1 := Wd (va_up (va_up (va_up f 4761 1) 4759 p0) 4758 (f 4779)) fl g gl hh v tx) rfl ⟨Nat.le_of_ble_eq_true rfl, Nat.le_of_ble_eq_true rfl⟩ rfl ?_
  exact h

set_option maxRecDepth 20000 in
theorem b_m_goesAlong_27 (X : mm_X) (d : Nat) (f : Nat → Int32) (fl : Nat → Int64) (g : Nat → Nat → Int32) (gl : Nat → Nat → Int64) (hh : Nat → Nat → Option Nat) (v : Nat → Value) (tx : mm_W) (l1 : Int32) (l2 : Int32) (s0 : Int32)  (P : Option Value → mm_W → Prop)
    (h : ((s0 = 20) → WP X (d) 181 (0, [some (.ref 74), some (.int l2), none, none, none, none, none], [], Wd (va_up (va_up (va_up f 4781 s0) 4758 ((f 4758) + (1 : Int32))) 4760 0) fl g gl hh v tx) (fun rv w2 => WP X (d + 1) 246 (69, [some (.ref 74), none, some (.int l2)], rv.toList ++ [.ref 74], w2) P)) ∧
    ((¬ s0 = 20) → (((¬ s0 = 22) → WP X (d) 179 (0, [some (.ref 74), some (.int 24), none], [], Wd (va_up (va_up (va_up (va_up (va_up f 4781 s0) 4758 ((f 4758) + (1 : Int32))) 4760 0) 4782 1) 4780 1) (va_up fl 4784 0) g gl hh v tx) (fun rv w2 => WP X (d + 1) 246 (103, [some (.ref 74), none, some (.int l2)], rv.toList ++ [], w2) P)) ∧
      ((s0 = 22) → WP X (d) 181 (0, [some (.ref 74), some (.int l2), none, none, none, none, none], [], Wd (va_up (va_up (va_up f 4781 s0) 4758 ((f 4758) + (1 : Int32))) 4760 0) fl g gl hh v tx) (fun rv w2 => WP X (d + 1) 246 (69, [some (.ref 74), none, some (.int l2)], rv.toList ++ [.ref 74], w2) P))))) :
    WP X (d + 1) 246 (27, [some (.ref 74), some (.int l1), some (.int l2)], [.int s0, .ref 74], Wd f fl g gl hh v tx) P := by
  refine WP.run hP_246 14 (c' := (52, [some (.ref 74), some (.int l1), some (.int l2)], [.int 20, .int s0, .ref 74], Wd (va_up (va_up (va_up f 4781 s0) 4758 ((f 4758) + (1 : Int32))) 4760 0) fl g gl hh v tx)) rfl ?_
  refine WP.br hP_246 (q := s0 = 20) (t := 64) (f := 55) (L := [some (.ref 74), some (.int l1), some (.int l2)]) (st := [.ref 74]) (w := Wd (va_up (va_up (va_up f 4781 s0) 4758 ((f 4758) + (1 : Int32))) 4760 0) fl g gl hh v tx) rfl (fun c1 => ?_) (fun c1 => ?_)
  · have h2 := h.1 c1
    refine WP.run hP_246 2 (c' := (66, [some (.ref 74), none, some (.int l2)], [.int l2, .ref 74, .ref 74], Wd (va_up (va_up (va_up f 4781 s0) 4758 ((f 4758) + (1 : Int32))) 4760 0) fl g gl hh v tx)) rfl ?_
    refine WP.call hP_246 hP_181 (as := [.ref 74, .int l2]) (pc' := 69) (L' := [some (.ref 74), none, some (.int l2)]) (st' := [.ref 74]) (w1 := Wd (va_up (va_up (va_up f 4781 s0) 4758 ((f 4758) + (1 : Int32))) 4760 0) fl g gl hh v tx) rfl ⟨Nat.le_of_ble_eq_true rfl, Nat.le_of_ble_eq_true rfl⟩ rfl ?_
    exact h2
  · have h3 := h.2 c1
    refine WP.run hP_246 3 (c' := (61, [some (.ref 74), some (.int l1), some (.int l2)], [.int 22, .int s0, .ref 74], Wd (va_up (va_up (va_up f 4781 s0) 4758 ((f 4758) + (1 : Int32))) 4760 0) fl g gl hh v tx)) rfl ?_
    refine WP.br hP_246 (q := ¬ s0 = 22) (t := 72) (f := 64) (L := [some (.ref 74), some (.int l1), some (.int l2)]) (st := [.ref 74]) (w := Wd (va_up (va_up (va_up f 4781 s0) 4758 ((f 4758) + (1 : Int32))) 4760 0) fl g gl hh v tx) rfl (fun c4 => ?_) (fun c4 => ?_)
    · have h5 := h3.1 c4
      refine WP.run hP_246 1 (c' := (73, [some (.ref 74), none, some (.int l2)], [.long 0, .ref 74], Wd (va_up (va_up (va_up f 4781 s0) 4758 ((f 4758) + (1 : Int32))) 4760 0) fl g gl hh v tx)) rfl ?_
      refine WP.run hP_246 7 (c' := (89, [some (.ref 74), none, some (.int l2)], [.int 1, .ref 74], Wd (va_up (va_up (va_up f 4781 s0) 4758 ((f 4758) + (1 : Int32))) 4760 0) (va_up fl 4784 0) g gl hh v tx)) rfl ?_
      refine WP.run hP_246 6 (c' := (100, [some (.ref 74), none, some (.int l2)], [.int 24, .ref 74], Wd (va_up (va_up (va_up (va_up (va_up f 4781 s0) 4758 ((f 4758) + (1 : Int32))) 4760 0) 4782 1) 4780 1) (va_up fl 4784 0) g gl hh v tx)) rfl ?_
      refine WP.call hP_246 hP_179 (as := [.ref 74, .int 24]) (pc' := 103) (L' := [some (.ref 74), none, some (.int l2)]) (st' := []) (w1 := Wd (va_up (va_up (va_up (va_up (va_up f 4781 s0) 4758 ((f 4758) + (1 : Int32))) 4760 0) 4782 1) 4780 1) (va_up fl 4784 0) g gl hh v tx) rfl ⟨Nat.le_of_ble_eq_true rfl, Nat.le_of_ble_eq_true rfl⟩ rfl ?_
      exact h5
    · have h6 := h3.2 (Classical.not_not.mp c4)
      refine WP.run hP_246 2 (c' := (66, [some (.ref 74), none, some (.int l2)], [.int l2, .ref 74, .ref 74], Wd (va_up (va_up (va_up f 4781 s0) 4758 ((f 4758) + (1 : Int32))) 4760 0) fl g gl hh v tx)) rfl ?_
      refine WP.call hP_246 hP_181 (as := [.ref 74, .int l2]) (pc' := 69) (L' := [some (.ref 74), none, some (.int l2)]) (st' := [.ref 74]) (w1 := Wd (va_up (va_up (va_up f 4781 s0) 4758 ((f 4758) + (1 : Int32))) 4760 0) fl g gl hh v tx) rfl ⟨Nat.le_of_ble_eq_true rfl, Nat.le_of_ble_eq_true rfl⟩ rfl ?_
      exact h6

set_option maxRecDepth 20000 in
theorem b_m_goesAlong_69 (X : mm_X) (d : Nat) (f : Nat → Int32) (fl : Nat → Int64) (g : Nat → Nat → Int32) (gl : Nat → Nat → Int64) (hh : Nat → Nat → Option Nat) (v : Nat → Value) (tx : mm_W) (l2 : Int32) (s0 : Int64)  (P : Option Value → mm_W → Prop)
    (h : ((¬ (f 4760) = 0) → WP X (d) 179 (0, [some (.ref 74), some (.int 24), none], [], Wd (va_up (va_up f 4782 0) 4780 1) (va_up fl 4784 s0) g gl hh v tx) (fun rv w2 => WP X (d + 1) 246 (103, [some (.ref 74), none, some (.int l2)], rv.toList ++ [], w2) P)) ∧
    (((f 4760) = 0) → WP X (d) 179 (0, [some (.ref 74), some (.int 24), none], [], Wd (va_up (va_up f 4782 1) 4780 1) (va_up fl 4784 s0) g gl hh v tx) (fun rv w2 => WP X (d + 1) 246 (103, [some (.ref 74), none, some (.int l2)], rv.toList ++ [], w2) P))) :
    WP X (d + 1) 246 (69, [some (.ref 74), none, some (.int l2)], [.long s0, .ref 74], Wd f fl g gl hh v tx) P := by
  refine WP.run hP_246 5 (c' := (81, [some (.ref 74), none, some (.int l2)], [.int (f 4760), .ref 74], Wd f (va_up fl 4784 s0) g gl hh v tx)) rfl ?_
  refine WP.br hP_246 (q := ¬ (f 4760) = 0) (t := 88) (f := 84) (L := [some (.ref 74), none, some (.int l2)]) (st := [.ref 74]) (w := Wd f (va_up fl 4784 s0) g gl hh v tx) rfl (fun c1 => ?_) (fun c1 => ?_)
  · have h2 := h.1 c1
    refine WP.run hP_246 1 (c' := (89, [some (.ref 74), none, some (.int l2)], [.int 0, .ref 74], Wd f (va_up fl 4784 s0) g gl hh v tx)) rfl ?_
    refine WP.run hP_246 6 (c' := (100, [some (.ref 74), none, some (.int l2)], [.int 24, .ref 74], Wd (va_up (va_up f 4782 0) 4780 1) (va_up fl 4784 s0) g gl hh v tx)) rfl ?_
    refine WP.call hP_246 hP_179 (as := [.ref 74, .int 24]) (pc' := 103) (L' := [some (.ref 74), none, some (.int l2)]) (st' := []) (w1 := Wd (va_up (va_up f 4782 0) 4780 1) (va_up fl 4784 s0) g gl hh v tx) rfl ⟨Nat.le_of_ble_eq_true rfl, Nat.le_of_ble_eq_true rfl⟩ rfl ?_
    exact h2
  · have h3 := h.2 (Classical.not_not.mp c1)
    refine WP.run hP_246 8 (c' := (100, [some (.ref 74), none, some (.int l2)], [.int 24, .ref 74], Wd (va_up (va_up f 4782 1) 4780 1) (va_up fl 4784 s0) g gl hh v tx)) rfl ?_
    refine WP.call hP_246 hP_179 (as := [.ref 74, .int 24]) (pc' := 103) (L' := [some (.ref 74), none, some (.int l2)]) (st' := []) (w1 := Wd (va_up (va_up f 4782 1) 4780 1) (va_up fl 4784 s0) g gl hh v tx) rfl ⟨Nat.le_of_ble_eq_true rfl, Nat.le_of_ble_eq_true rfl⟩ rfl ?_
    exact h3

set_option maxRecDepth 20000 in
theorem b_m_goesAlong_103 (X : mm_X) (d : Nat) (f : Nat → Int32) (fl : Nat → Int64) (g : Nat → Nat → Int32) (gl : Nat → Nat → Int64) (hh : Nat → Nat → Option Nat) (v : Nat → Value) (tx : mm_W) (l2 : Int32) (s0 : Int32)  (P : Option Value → mm_W → Prop)
    (h : ((s0 = 0) → WP X (d) 179 (0, [some (.ref 74), some (.int 4), none], [], Wd (va_up f 4760 0) fl g gl hh v tx) (fun rv w2 => WP X (d + 1) 246 (144, [some (.ref 74), none, some (.int l2)], rv.toList ++ [.ref 74], w2) P)) ∧
    ((¬ s0 = 0) → ((¬ (((2867 : Int32) + (f 4758)) < 0 ∨ 5667 ≤ ((2867 : Int32) + (f 4758)).toNatClampNeg)) ∧ WP X (d) 179 (0, [some (.ref 74), some (.int 4), none], [], Wd (va_up (va_up (va_up f 4780 ((g 76) ((2867 : Int32) + (f 4758)).toNatClampNeg)) 4758 ((f 4758) + (1 : Int32))) 4760 0) fl g gl hh v tx) (fun rv w2 => WP X (d + 1) 246 (144, [some (.ref 74), none, some (.int l2)], rv.toList ++ [.ref 74], w2) P)))) :
    WP X (d + 1) 246 (103, [some (.ref 74), none, some (.int l2)], [.int s0], Wd f fl g gl hh v tx) P := by
  refine WP.br hP_246 (q := s0 = 0) (t := 133) (f := 106) (L := [some (.ref 74), none, some (.int l2)]) (st := []) (w := Wd f fl g gl hh v tx) rfl (fun c1 => ?_) (fun c1 => ?_)
  · have h2 := h.1 c1
    refine WP.run hP_246 6 (c' := (141, [some (.ref 74), none, some (.int l2)], [.int 4, .ref 74, .ref 74], Wd (va_up f 4760 0) fl g gl hh v tx)) rfl ?_
    refine WP.call hP_246 hP_179 (as := [.ref 74, .int 4]) (pc' := 144) (L' := [some (.ref 74), none, some (.int l2)]) (st' := [.ref 74]) (w1 := Wd (va_up f 4760 0) fl g gl hh v tx) rfl ⟨Nat.le_of_ble_eq_true rfl, Nat.le_of_ble_eq_true rfl⟩ rfl ?_
    exact h2
  · have h3 := h.2 c1
    refine WP.run hP_246 7 (c' := (119, [some (.ref 74), none, some (.int l2)], [.int ((2867 : Int32) + (f 4758)), .ref 76, .ref 74], Wd f fl g gl hh v tx)) rfl ?_
    refine WP.of (fun _ _ => Ex.iald hP_246 rfl (Wa_76 _ _ _ _ _ _ _) h3.1) ?_
    have h4 := h3.2
    refine WP.run hP_246 13 (c' := (141, [some (.ref 74), none, some (.int l2)], [.int 4, .ref 74, .ref 74], Wd (va_up (va_up (va_up f 4780 ((g 76) ((2867 : Int32) + (f 4758)).toNatClampNeg)) 4758 ((f 4758) + (1 : Int32))) 4760 0) fl g gl hh v tx)) rfl ?_
    refine WP.call hP_246 hP_179 (as := [.ref 74, .int 4]) (pc' := 144) (L' := [some (.ref 74), none, some (.int l2)]) (st' := [.ref 74]) (w1 := Wd (va_up (va_up (va_up f 4780 ((g 76) ((2867 : Int32) + (f 4758)).toNatClampNeg)) 4758 ((f 4758) + (1 : Int32))) 4760 0) fl g gl hh v tx) rfl ⟨Nat.le_of_ble_eq_true rfl, Nat.le_of_ble_eq_true rfl⟩ rfl ?_
    exact h4

set_option maxRecDepth 20000 in
theorem b_m_goesAlong_144 (X : mm_X) (d : Nat) (f : Nat → Int32) (fl : Nat → Int64) (g : Nat → Nat → Int32) (gl : Nat → Nat → Int64) (hh : Nat → Nat → Option Nat) (v : Nat → Value) (tx : mm_W) (l2 : Int32) (s0 : Int32)  (P : Option Value → mm_W → Prop)
    (h : ((s0 = 0) → (((¬ (f 4760) = 0) → P none (Wd (va_up (va_up f 4783 0) 4758 ((f 4758) + (1 : Int32))) fl g gl hh v tx)) ∧
      (((f 4760) = 0) → P none (Wd (va_up (va_up f 4783 1) 4758 ((f 4758) + (1 : Int32))) fl g gl hh v tx)))) ∧
    ((¬ s0 = 0) → WP X (d) 185 (0, [some (.ref 74), some (.int l2), none, none], [], Wd f fl g gl hh v tx) (fun rv w2 => WP X (d + 1) 246 (152, [some (.ref 74), none, some (.int l2)], rv.toList ++ [.ref 74], w2) P))) :
    WP X (d + 1) 246 (144, [some (.ref 74), none, some (.int l2)], [.int s0, .ref 74], Wd f fl g gl hh v tx) P := by
  refine WP.br hP_246 (q := s0 = 0) (t := 155) (f := 147) (L := [some (.ref 74), none, some (.int l2)]) (st := [.ref 74]) (w := Wd f fl g gl hh v tx) rfl (fun c1 => ?_) (fun c1 => ?_)
  · have h2 := h.1 c1
    refine WP.run hP_246 2 (c' := (160, [some (.ref 74), none, none], [.int 1, .ref 74], Wd f fl g gl hh v tx)) rfl ?_
    refine WP.run hP_246 7 (c' := (175, [some (.ref 74), none, none], [.int (f 4760), .ref 74], Wd (va_up f 4783 1) fl g gl hh v tx)) rfl ?_
    refine WP.br hP_246 (q := ¬ (f 4760) = 0) (t := 182) (f := 178) (L := [some (.ref 74), none, none]) (st := [.ref 74]) (w := Wd (va_up f 4783 1) fl g gl hh v tx) rfl (fun c3 => ?_) (fun c3 => ?_)
    · have h4 := h2.1 c3
      refine WP.run hP_246 1 (c' := (183, [some (.ref 74), none, none], [.int 0, .ref 74], Wd (va_up f 4783 1) fl g gl hh v tx)) rfl ?_
      refine WP.run hP_246 7 (c' := (196, [some (.ref 74), none, none], [], Wd (va_up (va_up f 4783 0) 4758 ((f 4758) + (1 : Int32))) fl g gl hh v tx)) rfl ?_
      exact WP.ret hP_246 (r := none) (w' := Wd (va_up (va_up f 4783 0) 4758 ((f 4758) + (1 : Int32))) fl g gl hh v tx) rfl h4
    · have h5 := h2.2 (Classical.not_not.mp c3)
      refine WP.run hP_246 9 (c' := (196, [some (.ref 74), none, none], [], Wd (va_up (va_up f 4783 1) 4758 ((f 4758) + (1 : Int32))) fl g gl hh v tx)) rfl ?_
      exact WP.ret hP_246 (r := none) (w' := Wd (va_up (va_up f 4783 1) 4758 ((f 4758) + (1 : Int32))) fl g gl hh v tx) rfl h5
  · have h6 := h.2 c1
    refine WP.run hP_246 2 (c' := (149, [some (.ref 74), none, some (.int l2)], [.int l2, .ref 74, .ref 74], Wd f fl g gl hh v tx)) rfl ?_
    refine WP.call hP_246 hP_185 (as := [.ref 74, .int l2]) (pc' := 152) (L' := [some (.ref 74), none, some (.int l2)]) (st' := [.ref 74]) (w1 := Wd f fl g gl hh v tx) rfl ⟨Nat.le_of_ble_eq_true rfl, Nat.le_of_ble_eq_true rfl⟩ rfl ?_
    exact h6

set_option maxRecDepth 20000 in
theorem b_m_goesAlong_152 (X : mm_X) (d : Nat) (f : Nat → Int32) (fl : Nat → Int64) (g : Nat → Nat → Int32) (gl : Nat → Nat → Int64) (hh : Nat → Nat → Option Nat) (v : Nat → Value) (tx : mm_W) (l2 : Int32) (s0 : Int32)  (P : Option Value → mm_W → Prop)
    (h : ((s0 = 0) → P none (Wd (va_up (va_up f 4783 0) 4758 ((f 4758) + (1 : Int32))) fl g gl hh v tx)) ∧
    ((¬ s0 = 0) → (((¬ (f 4760) = 0) → P none (Wd (va_up (va_up f 4783 0) 4758 ((f 4758) + (1 : Int32))) fl g gl hh v tx)) ∧
      (((f 4760) = 0) → P none (Wd (va_up (va_up f 4783 1) 4758 ((f 4758) + (1 : Int32))) fl g gl hh v tx))))) :
    WP X (d) 246 (152, [some (.ref 74), none, some (.int l2)], [.int s0, .ref 74], Wd f fl g gl hh v tx) P := by
  refine WP.br hP_246 (q := s0 = 0) (t := 159) (f := 155) (L := [some (.ref 74), none, some (.int l2)]) (st := [.ref 74]) (w := Wd f fl g gl hh v tx) rfl (fun c1 => ?_) (fun c1 => ?_)
  · have h2 := h.1 c1
    refine WP.run hP_246 1 (c' := (160, [some (.ref 74), none, none], [.int 0, .ref 74], Wd f fl g gl hh v tx)) rfl ?_
    refine WP.run hP_246 5 (c' := (182, [some (.ref 74), none, none], [.ref 74], Wd (va_up f 4783 0) fl g gl hh v tx)) rfl ?_
    refine WP.run hP_246 1 (c' := (183, [some (.ref 74), none, none], [.int 0, .ref 74], Wd (va_up f 4783 0) fl g gl hh v tx)) rfl ?_
    refine WP.run hP_246 7 (c' := (196, [some (.ref 74), none, none], [], Wd (va_up (va_up f 4783 0) 4758 ((f 4758) + (1 : Int32))) fl g gl hh v tx)) rfl ?_
    exact WP.ret hP_246 (r := none) (w' := Wd (va_up (va_up f 4783 0) 4758 ((f 4758) + (1 : Int32))) fl g gl hh v tx) rfl h2
  · have h3 := h.2 c1
    refine WP.run hP_246 2 (c' := (160, [some (.ref 74), none, none], [.int 1, .ref 74], Wd f fl g gl hh v tx)) rfl ?_
    refine WP.run hP_246 7 (c' := (175, [some (.ref 74), none, none], [.int (f 4760), .ref 74], Wd (va_up f 4783 1) fl g gl hh v tx)) rfl ?_
    refine WP.br hP_246 (q := ¬ (f 4760) = 0) (t := 182) (f := 178) (L := [some (.ref 74), none, none]) (st := [.ref 74]) (w := Wd (va_up f 4783 1) fl g gl hh v tx) rfl (fun c4 => ?_) (fun c4 => ?_)
    · have h5 := h3.1 c4
      refine WP.run hP_246 1 (c' := (183, [some (.ref 74), none, none], [.int 0, .ref 74], Wd (va_up f 4783 1) fl g gl hh v tx)) rfl ?_
      refine WP.run hP_246 7 (c' := (196, [some (.ref 74), none, none], [], Wd (va_up (va_up f 4783 0) 4758 ((f 4758) + (1 : Int32))) fl g gl hh v tx)) rfl ?_
      exact WP.ret hP_246 (r := none) (w' := Wd (va_up (va_up f 4783 0) 4758 ((f 4758) + (1 : Int32))) fl g gl hh v tx) rfl h5
    · have h6 := h3.2 (Classical.not_not.mp c4)
      refine WP.run hP_246 9 (c' := (196, [some (.ref 74), none, none], [], Wd (va_up (va_up f 4783 1) 4758 ((f 4758) + (1 : Int32))) fl g gl hh v tx)) rfl ?_
      exact WP.ret hP_246 (r := none) (w' := Wd (va_up (va_up f 4783 1) 4758 ((f 4758) + (1 : Int32))) fl g gl hh v tx) rfl h6

set_option maxRecDepth 20000 in
theorem b_m_small_0 (X : mm_X) (d : Nat) (f : Nat → Int32) (fl : Nat → Int64) (g : Nat → Nat → Int32) (gl : Nat → Nat → Int64) (hh : Nat → Nat → Option Nat) (v : Nat → Value) (tx : mm_W) (p0 : Int64)  (P : Option Value → mm_W → Prop)
    (h : (((lg_cmp p0 0) < 0) → P (some (.int (-1))) (Wd f fl g gl hh v tx)) ∧
    ((¬ ((lg_cmp p0 0) < 0)) → ((((lg_cmp p0 1000000) ≤ 0) → P (some (.int ((p0 : Int64).toInt32))) (Wd f fl g gl hh v tx)) ∧
      ((¬ ((lg_cmp p0 1000000) ≤ 0)) → P (some (.int (-1))) (Wd f fl g gl hh v tx))))) :
    WP X (d) 247 (0, [some (.long p0), none], [], Wd f fl g gl hh v tx) P := by
  refine WP.run hP_247 3 (c' := (3, [some (.long p0), none], [.int (lg_cmp p0 0)], Wd f fl g gl hh v tx)) rfl ?_
  refine WP.br hP_247 (q := (lg_cmp p0 0) < 0) (t := 14) (f := 6) (L := [some (.long p0), none]) (st := []) (w := Wd f fl g gl hh v tx) rfl (fun c1 => ?_) (fun c1 => ?_)
  · have h2 := h.1 c1
    refine WP.run hP_247 2 (c' := (20, [none, none], [.int (-1)], Wd f fl g gl hh v tx)) rfl ?_
    exact WP.retI hP_247 rfl rfl h2
  · have h3 := h.2 c1
    refine WP.run hP_247 3 (c' := (11, [some (.long p0), none], [.int (lg_cmp p0 1000000)], Wd f fl g gl hh v tx)) rfl ?_
    refine WP.br hP_247 (q := (lg_cmp p0 1000000) ≤ 0) (t := 18) (f := 14) (L := [some (.long p0), none]) (st := []) (w := Wd f fl g gl hh v tx) rfl (fun c4 => ?_) (fun c4 => ?_)
    · have h5 := h3.1 c4
      refine WP.run hP_247 2 (c' := (20, [some (.long p0), none], [.int ((p0 : Int64).toInt32)], Wd f fl g gl hh v tx)) rfl ?_
      exact WP.retI hP_247 rfl rfl h5
    · have h6 := h3.2 c4
      refine WP.run hP_247 2 (c' := (20, [none, none], [.int (-1)], Wd f fl g gl hh v tx)) rfl ?_
      exact WP.retI hP_247 rfl rfl h6

set_option maxRecDepth 20000 in
theorem b_m_obeys_0 (X : mm_X) (d : Nat) (f : Nat → Int32) (fl : Nat → Int64) (g : Nat → Nat → Int32) (gl : Nat → Nat → Int64) (hh : Nat → Nat → Option Nat) (v : Nat → Value) (tx : mm_W)   (P : Option Value → mm_W → Prop)
    (h : (((f 4781) = 21) → WP X (d) 237 (0, [some (.ref 74)], [], Wd f fl g gl hh v tx) (fun rv w2 => WP X (d + 1) 248 (36, [some (.ref 74), none], rv.toList ++ [], w2) P)) ∧
    ((¬ (f 4781) = 21) → ((((f 4781) = 22) → ((((lg_cmp (fl 4784) 0) < 0) → WP X (d) 238 (0, [some (.ref 74), some (.int (-1)), none], [], Wd f fl g gl hh v tx) (fun rv w2 => WP X (d + 1) 248 (48, [some (.ref 74), none], rv.toList ++ [], w2) P)) ∧
        ((¬ ((lg_cmp (fl 4784) 0) < 0)) → ((((lg_cmp (fl 4784) 1000000) ≤ 0) → WP X (d) 238 (0, [some (.ref 74), some (.int (((fl 4784) : Int64).toInt32)), none], [], Wd f fl g gl hh v tx) (fun rv w2 => WP X (d + 1) 248 (48, [some (.ref 74), none], rv.toList ++ [], w2) P)) ∧
          ((¬ ((lg_cmp (fl 4784) 1000000) ≤ 0)) → WP X (d) 238 (0, [some (.ref 74), some (.int (-1)), none], [], Wd f fl g gl hh v tx) (fun rv w2 => WP X (d + 1) 248 (48, [some (.ref 74), none], rv.toList ++ [], w2) P)))))) ∧
      ((¬ (f 4781) = 22) → ((((f 4781) = 23) → WP X (d) 239 (0, [some (.ref 74)], [], Wd f fl g gl hh v tx) (fun rv w2 => WP X (d + 1) 248 (71, [some (.ref 74), none], rv.toList ++ [], w2) P)) ∧
        ((¬ (f 4781) = 23) → ((((lg_cmp (fl 4784) 0) < 0) → WP X (d) 236 (0, [some (.ref 74), some (.int (-1))], [], Wd f fl g gl hh v tx) (fun rv w2 => WP X (d + 1) 248 (83, [some (.ref 74), none], rv.toList ++ [], w2) P)) ∧
          ((¬ ((lg_cmp (fl 4784) 0) < 0)) → ((((lg_cmp (fl 4784) 1000000) ≤ 0) → WP X (d) 236 (0, [some (.ref 74), some (.int (((fl 4784) : Int64).toInt32))], [], Wd f fl g gl hh v tx) (fun rv w2 => WP X (d + 1) 248 (83, [some (.ref 74), none], rv.toList ++ [], w2) P)) ∧
            ((¬ ((lg_cmp (fl 4784) 1000000) ≤ 0)) → WP X (d) 236 (0, [some (.ref 74), some (.int (-1))], [], Wd f fl g gl hh v tx) (fun rv w2 => WP X (d + 1) 248 (83, [some (.ref 74), none], rv.toList ++ [], w2) P))))))))))) :
    WP X (d + 1) 248 (0, [some (.ref 74), none], [], Wd f fl g gl hh v tx) P := by
  refine WP.run hP_248 2 (c' := (4, [some (.ref 74), none], [.int (f 4781)], Wd f fl g gl hh v tx)) rfl ?_
  refine WP.run hP_248 1 (c' := (mm_sw (f 4781) 21 [32, 37, 67] 72, [some (.ref 74), none], [], Wd f fl g gl hh v tx)) rfl ?_
  refine WP.sw (lo' := 22) rfl (fun c1 => ?_) (fun c1 => ?_)
  · have h2 := h.1 c1
    refine WP.run hP_248 1 (c' := (33, [some (.ref 74), none], [.ref 74], Wd f fl g gl hh v tx)) rfl ?_
    refine WP.call hP_248 hP_237 (as := [.ref 74]) (pc' := 36) (L' := [some (.ref 74), none]) (st' := []) (w1 := Wd f fl g gl hh v tx) rfl ⟨Nat.le_of_ble_eq_true rfl, Nat.le_of_ble_eq_true rfl⟩ rfl ?_
    exact h2
  · have h3 := h.2 c1
    refine WP.sw (lo' := 23) rfl (fun c4 => ?_) (fun c4 => ?_)
    · have h5 := h3.1 c4
      refine WP.run hP_248 3 (c' := (42, [some (.ref 74), none], [.long (fl 4784), .ref 74], Wd f fl g gl hh v tx)) rfl ?_
      refine WP.call hP_248 hP_247 (as := [.long (fl 4784)]) (pc' := 45) (L' := [some (.ref 74), none]) (st' := [.ref 74]) (w1 := Wd f fl g gl hh v tx) rfl ⟨Nat.le_of_ble_eq_true rfl, Nat.le_of_ble_eq_true rfl⟩ rfl (b_m_small_0 X (d) f fl g gl hh v tx (fl 4784) _ ?_)
      refine ⟨fun c6 => ?_, fun c6 => ?_⟩
      · have h7 := h5.1 c6
        refine WP.call hP_248 hP_238 (as := [.ref 74, .int (-1)]) (pc' := 48) (L' := [some (.ref 74), none]) (st' := []) (w1 := Wd f fl g gl hh v tx) rfl ⟨Nat.le_of_ble_eq_true rfl, Nat.le_of_ble_eq_true rfl⟩ rfl ?_
        exact h7
      · have h8 := h5.2 c6
        refine ⟨fun c9 => ?_, fun c9 => ?_⟩
        · have h10 := h8.1 c9
          refine WP.call hP_248 hP_238 (as := [.ref 74, .int (((fl 4784) : Int64).toInt32)]) (pc' := 48) (L' := [some (.ref 74), none]) (st' := []) (w1 := Wd f fl g gl hh v tx) rfl ⟨Nat.le_of_ble_eq_true rfl, Nat.le_of_ble_eq_true rfl⟩ rfl ?_
          exact h10
        · have h11 := h8.2 c9
          refine WP.call hP_248 hP_238 (as := [.ref 74, .int (-1)]) (pc' := 48) (L' := [some (.ref 74), none]) (st' := []) (w1 := Wd f fl g gl hh v tx) rfl ⟨Nat.le_of_ble_eq_true rfl, Nat.le_of_ble_eq_true rfl⟩ rfl ?_
          exact h11
    · have h12 := h3.2 c4
      refine WP.sw (lo' := 24) rfl (fun c13 => ?_) (fun c13 => ?_)
      · have h14 := h12.1 c13
        refine WP.run hP_248 1 (c' := (68, [some (.ref 74), none], [.ref 74], Wd f fl g gl hh v tx)) rfl ?_
        refine WP.call hP_248 hP_239 (as := [.ref 74]) (pc' := 71) (L' := [some (.ref 74), none]) (st' := []) (w1 := Wd f fl g gl hh v tx) rfl ⟨Nat.le_of_ble_eq_true rfl, Nat.le_of_ble_eq_true rfl⟩ rfl ?_
        exact h14
      · have h15 := h12.2 c13
        show WP X _ 248 (72, [some (.ref 74), none], [], Wd f fl g gl hh v tx) P
        refine WP.run hP_248 3 (c' := (77, [some (.ref 74), none], [.long (fl 4784), .ref 74], Wd f fl g gl hh v tx)) rfl ?_
        refine WP.call hP_248 hP_247 (as := [.long (fl 4784)]) (pc' := 80) (L' := [some (.ref 74), none]) (st' := [.ref 74]) (w1 := Wd f fl g gl hh v tx) rfl ⟨Nat.le_of_ble_eq_true rfl, Nat.le_of_ble_eq_true rfl⟩ rfl (b_m_small_0 X (d) f fl g gl hh v tx (fl 4784) _ ?_)
        refine ⟨fun c16 => ?_, fun c16 => ?_⟩
        · have h17 := h15.1 c16
          refine WP.call hP_248 hP_236 (as := [.ref 74, .int (-1)]) (pc' := 83) (L' := [some (.ref 74), none]) (st' := []) (w1 := Wd f fl g gl hh v tx) rfl ⟨Nat.le_of_ble_eq_true rfl, Nat.le_of_ble_eq_true rfl⟩ rfl ?_
          exact h17
        · have h18 := h15.2 c16
          refine ⟨fun c19 => ?_, fun c19 => ?_⟩
          · have h20 := h18.1 c19
            refine WP.call hP_248 hP_236 (as := [.ref 74, .int (((fl 4784) : Int64).toInt32)]) (pc' := 83) (L' := [some (.ref 74), none]) (st' := []) (w1 := Wd f fl g gl hh v tx) rfl ⟨Nat.le_of_ble_eq_true rfl, Nat.le_of_ble_eq_true rfl⟩ rfl ?_
            exact h20
          · have h21 := h18.2 c19
            refine WP.call hP_248 hP_236 (as := [.ref 74, .int (-1)]) (pc' := 83) (L' := [some (.ref 74), none]) (st' := []) (w1 := Wd f fl g gl hh v tx) rfl ⟨Nat.le_of_ble_eq_true rfl, Nat.le_of_ble_eq_true rfl⟩ rfl ?_
            exact h21

set_option maxRecDepth 20000 in
theorem b_m_obeys_36 (X : mm_X) (d : Nat) (f : Nat → Int32) (fl : Nat → Int64) (g : Nat → Nat → Int32) (gl : Nat → Nat → Int64) (hh : Nat → Nat → Option Nat) (v : Nat → Value) (tx : mm_W) (s0 : Int32)  (P : Option Value → mm_W → Prop)
    (h : P (some (.int s0)) (Wd f fl g gl hh v tx)) :
    WP X (d) 248 (36, [some (.ref 74), none], [.int s0], Wd f fl g gl hh v tx) P := by
  exact WP.retI hP_248 rfl rfl h

set_option maxRecDepth 20000 in
theorem b_m_obeys_48 (X : mm_X) (d : Nat) (f : Nat → Int32) (fl : Nat → Int64) (g : Nat → Nat → Int32) (gl : Nat → Nat → Int64) (hh : Nat → Nat → Option Nat) (v : Nat → Value) (tx : mm_W) (s0 : Int32)  (P : Option Value → mm_W → Prop)
    (h : ((0 ≤ s0) → P (some (.int s0)) (Wd (va_up f 4764 s0) fl g gl hh v tx)) ∧
    ((¬ (0 ≤ s0)) → P (some (.int s0)) (Wd (va_up f 4764 (f 4764)) fl g gl hh v tx))) :
    WP X (d) 248 (48, [some (.ref 74), none], [.int s0], Wd f fl g gl hh v tx) P := by
  refine WP.run hP_248 3 (c' := (51, [some (.ref 74), some (.int s0)], [.int s0, .ref 74], Wd f fl g gl hh v tx)) rfl ?_
  refine WP.br hP_248 (q := 0 ≤ s0) (t := 61) (f := 54) (L := [some (.ref 74), some (.int s0)]) (st := [.ref 74]) (w := Wd f fl g gl hh v tx) rfl (fun c1 => ?_) (fun c1 => ?_)
  · have h2 := h.1 c1
    refine WP.run hP_248 1 (c' := (62, [none, some (.int s0)], [.int s0, .ref 74], Wd f fl g gl hh v tx)) rfl ?_
    refine WP.run hP_248 2 (c' := (66, [none, some (.int s0)], [.int s0], Wd (va_up f 4764 s0) fl g gl hh v tx)) rfl ?_
    exact WP.retI hP_248 rfl rfl h2
  · have h3 := h.2 c1
    refine WP.run hP_248 5 (c' := (66, [none, some (.int s0)], [.int s0], Wd (va_up f 4764 (f 4764)) fl g gl hh v tx)) rfl ?_
    exact WP.retI hP_248 rfl rfl h3

set_option maxRecDepth 20000 in
theorem b_m_obeys_71 (X : mm_X) (d : Nat) (f : Nat → Int32) (fl : Nat → Int64) (g : Nat → Nat → Int32) (gl : Nat → Nat → Int64) (hh : Nat → Nat → Option Nat) (v : Nat → Value) (tx : mm_W) (s0 : Int32)  (P : Option Value → mm_W → Prop)
    (h : P (some (.int s0)) (Wd f fl g gl hh v tx)) :
    WP X (d) 248 (71, [some (.ref 74), none], [.int s0], Wd f fl g gl hh v tx) P := by
  exact WP.retI hP_248 rfl rfl h

set_option maxRecDepth 20000 in
theorem b_m_obeys_83 (X : mm_X) (d : Nat) (f : Nat → Int32) (fl : Nat → Int64) (g : Nat → Nat → Int32) (gl : Nat → Nat → Int64) (hh : Nat → Nat → Option Nat) (v : Nat → Value) (tx : mm_W) (s0 : Int32)  (P : Option Value → mm_W → Prop)
    (h : P (some (.int s0)) (Wd f fl g gl hh v tx)) :
    WP X (d) 248 (83, [some (.ref 74), none], [.int s0], Wd f fl g gl hh v tx) P := by
  exact WP.retI hP_248 rfl rfl h

set_option maxRecDepth 20000 in
theorem b_m_runs_0 (X : mm_X) (d : Nat) (f : Nat → Int32) (fl : Nat → Int64) (g : Nat → Nat → Int32) (gl : Nat → Nat → Int64) (hh : Nat → Nat → Option Nat) (v : Nat → Value) (tx : mm_W) (p0 : Int32)  (P : Option Value → mm_W → Prop)
    (h : WP X (d) 246 (0, [some (.ref 74), some (.int p0), some (.int 0)], [], Wd f fl g gl hh v tx) (fun rv w2 => WP X (d + 1) 249 (6, [some (.ref 74), some (.int p0), none, none, none], rv.toList ++ [], w2) P)) :
    WP X (d + 1) 249 (0, [some (.ref 74), some (.int p0), none, none, none], [], Wd f fl g gl hh v tx) P := by
  refine WP.run hP_249 3 (c' := (3, [some (.ref 74), some (.int p0), none, none, none], [.int 0, .int p0, .ref 74], Wd f fl g gl hh v tx)) rfl ?_
  refine WP.call hP_249 hP_246 (as := [.ref 74, .int p0, .int 0]) (pc' := 6) (L' := [some (.ref 74), some (.int p0), none, none, none]) (st' := []) (w1 := Wd f fl g gl hh v tx) rfl ⟨Nat.le_of_ble_eq_true rfl, Nat.le_of_ble_eq_true rfl⟩ rfl ?_
  exact h

set_option maxRecDepth 20000 in
theorem b_m_runs_6 (X : mm_X) (d : Nat) (f : Nat → Int32) (fl : Nat → Int64) (g : Nat → Nat → Int32) (gl : Nat → Nat → Int64) (hh : Nat → Nat → Option Nat) (v : Nat → Value) (tx : mm_W) (l1 : Int32)  (P : Option Value → mm_W → Prop)
    (h : WP X (d) 249 (19, [some (.ref 74), some (.int l1), some (.int (f 4780)), some (.int (f 4758)), some (.int 0)], [], Wd f fl g gl hh v tx) P) :
    WP X (d) 249 (6, [some (.ref 74), some (.int l1), none, none, none], [], Wd f fl g gl hh v tx) P := by
  refine WP.run hP_249 5 (c' := (15, [some (.ref 74), some (.int l1), some (.int (f 4780)), none, none], [.int (f 4758)], Wd f fl g gl hh v tx)) rfl ?_
  refine WP.run hP_249 2 (c' := (17, [some (.ref 74), some (.int l1), some (.int (f 4780)), some (.int (f 4758)), none], [.int 0], Wd f fl g gl hh v tx)) rfl ?_
  refine WP.run hP_249 1 (c' := (19, [some (.ref 74), some (.int l1), some (.int (f 4780)), some (.int (f 4758)), some (.int 0)], [], Wd f fl g gl hh v tx)) rfl ?_
  exact h

set_option maxRecDepth 20000 in
theorem b_m_runs_19 (X : mm_X) (d : Nat) (f : Nat → Int32) (fl : Nat → Int64) (g : Nat → Nat → Int32) (gl : Nat → Nat → Int64) (hh : Nat → Nat → Option Nat) (v : Nat → Value) (tx : mm_W) (l1 : Int32) (l2 : Int32) (l3 : Int32) (l4 : Int32)  (P : Option Value → mm_W → Prop)
    (h : ((l2 ≤ l4) → P (some (.int 1)) (Wd (va_up f 4779 l3) fl g gl hh v tx)) ∧
    ((¬ (l2 ≤ l4)) → WP X (d) 246 (0, [some (.ref 74), some (.int l1), some (.int 1)], [], Wd f fl g gl hh v tx) (fun rv w2 => WP X (d + 1) 249 (31, [some (.ref 74), some (.int l1), some (.int l2), some (.int l3), some (.int l4)], rv.toList ++ [], w2) P))) :
    WP X (d + 1) 249 (19, [some (.ref 74), some (.int l1), some (.int l2), some (.int l3), some (.int l4)], [], Wd f fl g gl hh v tx) P := by
  refine WP.run hP_249 2 (c' := (22, [some (.ref 74), some (.int l1), some (.int l2), some (.int l3), some (.int l4)], [.int l2, .int l4], Wd f fl g gl hh v tx)) rfl ?_
  refine WP.br hP_249 (q := l2 ≤ l4) (t := 73) (f := 25) (L := [some (.ref 74), some (.int l1), some (.int l2), some (.int l3), some (.int l4)]) (st := []) (w := Wd f fl g gl hh v tx) rfl (fun c1 => ?_) (fun c1 => ?_)
  · have h2 := h.1 c1
    refine WP.run hP_249 4 (c' := (79, [some (.ref 74), none, none, some (.int l3), none], [.int 1], Wd (va_up f 4779 l3) fl g gl hh v tx)) rfl ?_
    exact WP.ret hP_249 (r := some (.int 1)) (w' := Wd (va_up f 4779 l3) fl g gl hh v tx) rfl h2
  · have h3 := h.2 c1
    refine WP.run hP_249 3 (c' := (28, [some (.ref 74), some (.int l1), some (.int l2), some (.int l3), some (.int l4)], [.int 1, .int l1, .ref 74], Wd f fl g gl hh v tx)) rfl ?_
    refine WP.call hP_249 hP_246 (as := [.ref 74, .int l1, .int 1]) (pc' := 31) (L' := [some (.ref 74), some (.int l1), some (.int l2), some (.int l3), some (.int l4)]) (st' := []) (w1 := Wd f fl g gl hh v tx) rfl ⟨Nat.le_of_ble_eq_true rfl, Nat.le_of_ble_eq_true rfl⟩ rfl ?_
    exact h3

set_option maxRecDepth 20000 in
theorem b_m_runs_31 (X : mm_X) (d : Nat) (f : Nat → Int32) (fl : Nat → Int64) (g : Nat → Nat → Int32) (gl : Nat → Nat → Int64) (hh : Nat → Nat → Option Nat) (v : Nat → Value) (tx : mm_W) (l1 : Int32) (l2 : Int32) (l3 : Int32) (l4 : Int32)  (P : Option Value → mm_W → Prop)
    (h : ((¬ (f 4783) = 0) → ((((f 4782) = 0) → P (some (.int 0)) (Wd f fl g gl hh v tx)) ∧
      ((¬ (f 4782) = 0) → WP X (d) 248 (0, [some (.ref 74), none], [], Wd f fl g gl hh v tx) (fun rv w2 => WP X (d + 1) 249 (52, [some (.ref 74), some (.int l1), some (.int l2), some (.int l3), some (.int l4)], rv.toList ++ [], w2) P)))) ∧
    (((f 4783) = 0) → WP X (d + 1) 249 (19, [some (.ref 74), some (.int l1), some (.int l2), some (.int l3), some (.int (l4 + (1 : Int32)))], [], Wd f fl g gl hh v tx) P)) :
    WP X (d + 1) 249 (31, [some (.ref 74), some (.int l1), some (.int l2), some (.int l3), some (.int l4)], [], Wd f fl g gl hh v tx) P := by
  refine WP.run hP_249 2 (c' := (35, [some (.ref 74), some (.int l1), some (.int l2), some (.int l3), some (.int l4)], [.int (f 4783)], Wd f fl g gl hh v tx)) rfl ?_
  refine WP.br hP_249 (q := ¬ (f 4783) = 0) (t := 41) (f := 38) (L := [some (.ref 74), some (.int l1), some (.int l2), some (.int l3), some (.int l4)]) (st := []) (w := Wd f fl g gl hh v tx) rfl (fun c1 => ?_) (fun c1 => ?_)
  · have h2 := h.1 c1
    refine WP.run hP_249 2 (c' := (45, [some (.ref 74), some (.int l1), some (.int l2), some (.int l3), some (.int l4)], [.int (f 4782)], Wd f fl g gl hh v tx)) rfl ?_
    refine WP.br hP_249 (q := (f 4782) = 0) (t := 55) (f := 48) (L := [some (.ref 74), some (.int l1), some (.int l2), some (.int l3), some (.int l4)]) (st := []) (w := Wd f fl g gl hh v tx) rfl (fun c3 => ?_) (fun c3 => ?_)
    · have h4 := h2.1 c3
      refine WP.run hP_249 1 (c' := (56, [none, none, none, none, none], [.int 0], Wd f fl g gl hh v tx)) rfl ?_
      exact WP.ret hP_249 (r := some (.int 0)) (w' := Wd f fl g gl hh v tx) rfl h4
    · have h5 := h2.2 c3
      refine WP.run hP_249 1 (c' := (49, [some (.ref 74), some (.int l1), some (.int l2), some (.int l3), some (.int l4)], [.ref 74], Wd f fl g gl hh v tx)) rfl ?_
      refine WP.call hP_249 hP_248 (as := [.ref 74]) (pc' := 52) (L' := [some (.ref 74), some (.int l1), some (.int l2), some (.int l3), some (.int l4)]) (st' := []) (w1 := Wd f fl g gl hh v tx) rfl ⟨Nat.le_of_ble_eq_true rfl, Nat.le_of_ble_eq_true rfl⟩ rfl ?_
      exact h5
  · have h6 := h.2 (Classical.not_not.mp c1)
    refine WP.run hP_249 3 (c' := (19, [some (.ref 74), some (.int l1), some (.int l2), some (.int l3), some (.int (l4 + (1 : Int32)))], [], Wd f fl g gl hh v tx)) rfl ?_
    exact h6

set_option maxRecDepth 20000 in
theorem b_m_runs_52 (X : mm_X) (d : Nat) (f : Nat → Int32) (fl : Nat → Int64) (g : Nat → Nat → Int32) (gl : Nat → Nat → Int64) (hh : Nat → Nat → Option Nat) (v : Nat → Value) (tx : mm_W) (l1 : Int32) (l2 : Int32) (l3 : Int32) (l4 : Int32) (s0 : Int32)  (P : Option Value → mm_W → Prop)
    (h : ((0 ≤ s0) → WP X (d) 249 (19, [some (.ref 74), some (.int l1), some (.int l2), some (.int l3), some (.int (l4 + (1 : Int32)))], [], Wd (va_up f 4763 ((f 4763) + (1 : Int32))) fl g gl hh v tx) P) ∧
    ((¬ (0 ≤ s0)) → P (some (.int 0)) (Wd f fl g gl hh v tx))) :
    WP X (d) 249 (52, [some (.ref 74), some (.int l1), some (.int l2), some (.int l3), some (.int l4)], [.int s0], Wd f fl g gl hh v tx) P := by
  refine WP.br hP_249 (q := 0 ≤ s0) (t := 57) (f := 55) (L := [some (.ref 74), some (.int l1), some (.int l2), some (.int l3), some (.int l4)]) (st := []) (w := Wd f fl g gl hh v tx) rfl (fun c1 => ?_) (fun c1 => ?_)
  · have h2 := h.1 c1
    refine WP.run hP_249 8 (c' := (19, [some (.ref 74), some (.int l1), some (.int l2), some (.int l3), some (.int (l4 + (1 : Int32)))], [], Wd (va_up f 4763 ((f 4763) + (1 : Int32))) fl g gl hh v tx)) rfl ?_
    exact h2
  · have h3 := h.2 c1
    refine WP.run hP_249 1 (c' := (56, [none, none, none, none, none], [.int 0], Wd f fl g gl hh v tx)) rfl ?_
    exact WP.ret hP_249 (r := some (.int 0)) (w' := Wd f fl g gl hh v tx) rfl h3

set_option maxRecDepth 20000 in
theorem b_m_orders_0 (X : mm_X) (d : Nat) (f : Nat → Int32) (fl : Nat → Int64) (g : Nat → Nat → Int32) (gl : Nat → Nat → Int64) (hh : Nat → Nat → Option Nat) (v : Nat → Value) (tx : mm_W)   (P : Option Value → mm_W → Prop)
    (h : WP X (d) 172 (0, [some (.ref 74), some (.int 1)], [], Wd (va_up f 4778 (-1)) fl g gl hh v tx) (fun rv w2 => WP X (d + 1) 245 (10, [some (.ref 74), none, none, none, none], rv.toList ++ [], w2) P)) :
    WP X (d + 1) 245 (0, [some (.ref 74), none, none, none, none], [], Wd f fl g gl hh v tx) P := by
  refine WP.run hP_245 5 (c' := (7, [some (.ref 74), none, none, none, none], [.int 1, .ref 74], Wd (va_up f 4778 (-1)) fl g gl hh v tx)) rfl ?_
  refine WP.call hP_245 hP_172 (as := [.ref 74, .int 1]) (pc' := 10) (L' := [some (.ref 74), none, none, none, none]) (st' := []) (w1 := Wd (va_up f 4778 (-1)) fl g gl hh v tx) rfl ⟨Nat.le_of_ble_eq_true rfl, Nat.le_of_ble_eq_true rfl⟩ rfl ?_
  exact h

set_option maxRecDepth 20000 in
theorem b_m_orders_10 (X : mm_X) (d : Nat) (f : Nat → Int32) (fl : Nat → Int64) (g : Nat → Nat → Int32) (gl : Nat → Nat → Int64) (hh : Nat → Nat → Option Nat) (v : Nat → Value) (tx : mm_W) (s0 : Int32)  (P : Option Value → mm_W → Prop)
    (h : ((¬ s0 = 0) → WP X (d) 125 (0, [some (.ref 74), some (.int 1), none], [], Wd f fl g gl hh v tx) (fun rv w2 => WP X (d + 1) 245 (25, [some (.ref 74), none, none, none, none], rv.toList ++ [], w2) P)) ∧
    ((s0 = 0) → P (some (.int (-6))) (Wd (va_up f 4736 (-6 : Int32)) fl (va_up g 75 (upd (g 75) (6) (((g 75) 6) + (1 : Int32)))) gl hh v tx))) :
    WP X (d + 1) 245 (10, [some (.ref 74), none, none, none, none], [.int s0], Wd f fl g gl hh v tx) P := by
  refine WP.br hP_245 (q := ¬ s0 = 0) (t := 20) (f := 13) (L := [some (.ref 74), none, none, none, none]) (st := []) (w := Wd f fl g gl hh v tx) rfl (fun c1 => ?_) (fun c1 => ?_)
  · have h2 := h.1 c1
    refine WP.run hP_245 2 (c' := (22, [some (.ref 74), none, none, none, none], [.int 1, .ref 74], Wd f fl g gl hh v tx)) rfl ?_
    refine WP.call hP_245 hP_125 (as := [.ref 74, .int 1]) (pc' := 25) (L' := [some (.ref 74), none, none, none, none]) (st' := []) (w1 := Wd f fl g gl hh v tx) rfl ⟨Nat.le_of_ble_eq_true rfl, Nat.le_of_ble_eq_true rfl⟩ rfl ?_
    exact h2
  · have h3 := h.2 (Classical.not_not.mp c1)
    refine WP.run hP_245 2 (c' := (16, [some (.ref 74), none, none, none, none], [.int (-6), .ref 74], Wd f fl g gl hh v tx)) rfl ?_
    refine WP.call hP_245 hP_119 (as := [.ref 74, .int (-6)]) (pc' := 19) (L' := [some (.ref 74), none, none, none, none]) (st' := []) (w1 := Wd f fl g gl hh v tx) rfl ⟨Nat.le_of_ble_eq_true rfl, Nat.le_of_ble_eq_true rfl⟩ rfl (b_m_refuses_0 X (d) f fl g gl hh v tx (-6) _ ?_)
    refine ⟨by decide, ?_⟩
    refine ⟨by decide, ?_⟩
    exact WP.retI hP_245 rfl rfl h3

set_option maxRecDepth 20000 in
theorem b_m_orders_25 (X : mm_X) (d : Nat) (f : Nat → Int32) (fl : Nat → Int64) (g : Nat → Nat → Int32) (gl : Nat → Nat → Int64) (hh : Nat → Nat → Option Nat) (v : Nat → Value) (tx : mm_W)   (P : Option Value → mm_W → Prop)
    (h : WP X (d) 245 (27, [some (.ref 74), some (.int 0), none, none, none], [], Wd f fl g gl hh v tx) P) :
    WP X (d) 245 (25, [some (.ref 74), none, none, none, none], [], Wd f fl g gl hh v tx) P := by
  refine WP.run hP_245 2 (c' := (27, [some (.ref 74), some (.int 0), none, none, none], [], Wd f fl g gl hh v tx)) rfl ?_
  exact h

set_option maxRecDepth 20000 in
theorem b_m_orders_27 (X : mm_X) (d : Nat) (f : Nat → Int32) (fl : Nat → Int64) (g : Nat → Nat → Int32) (gl : Nat → Nat → Int64) (hh : Nat → Nat → Option Nat) (v : Nat → Value) (tx : mm_W) (l1 : Int32)  (P : Option Value → mm_W → Prop)
    (h : ((384 ≤ l1) → WP X (d) 173 (0, [some (.ref 74), some (.int 6), none], [], Wd f fl g gl hh v tx) (fun rv w2 => WP X (d + 1) 245 (63, [some (.ref 74), some (.int (f 4777)), none, none, none], rv.toList ++ [], w2) P)) ∧
    ((¬ (384 ≤ l1)) → ((¬ (l1 < 0 ∨ 384 ≤ l1.toNatClampNeg)) ∧ ((¬ (l1 < 0 ∨ 384 ≤ l1.toNatClampNeg)) ∧ WP X (d + 1) 245 (27, [some (.ref 74), some (.int (l1 + (1 : Int32))), none, none, none], [], Wd f fl (va_up g 98 (upd (g 98) (l1.toNatClampNeg) ((g 97) l1.toNatClampNeg))) gl hh v tx) P)))) :
    WP X (d + 1) 245 (27, [some (.ref 74), some (.int l1), none, none, none], [], Wd f fl g gl hh v tx) P := by
  refine WP.run hP_245 2 (c' := (31, [some (.ref 74), some (.int l1), none, none, none], [.int 384, .int l1], Wd f fl g gl hh v tx)) rfl ?_
  refine WP.br hP_245 (q := 384 ≤ l1) (t := 52) (f := 34) (L := [some (.ref 74), some (.int l1), none, none, none]) (st := []) (w := Wd f fl g gl hh v tx) rfl (fun c1 => ?_) (fun c1 => ?_)
  · have h2 := h.1 c1
    refine WP.run hP_245 2 (c' := (56, [some (.ref 74), none, none, none, none], [.int (f 4777)], Wd f fl g gl hh v tx)) rfl ?_
    refine WP.run hP_245 3 (c' := (60, [some (.ref 74), some (.int (f 4777)), none, none, none], [.int 6, .ref 74], Wd f fl g gl hh v tx)) rfl ?_
    refine WP.call hP_245 hP_173 (as := [.ref 74, .int 6]) (pc' := 63) (L' := [some (.ref 74), some (.int (f 4777)), none, none, none]) (st' := []) (w1 := Wd f fl g gl hh v tx) rfl ⟨Nat.le_of_ble_eq_true rfl, Nat.le_of_ble_eq_true rfl⟩ rfl ?_
    exact h2
  · have h3 := h.2 c1
    refine WP.run hP_245 6 (c' := (44, [some (.ref 74), some (.int l1), none, none, none], [.int l1, .ref 97, .int l1, .ref 98], Wd f fl g gl hh v tx)) rfl ?_
    refine WP.of (fun _ _ => Ex.iald hP_245 rfl (Wa_97 _ _ _ _ _ _ _) h3.1) ?_
    have h4 := h3.2
    refine WP.of (fun _ _ => Ex.iast hP_245 (w2 := Wd f fl (va_up g 98 (upd (g 98) (l1.toNatClampNeg) ((g 97) l1.toNatClampNeg))) gl hh v tx) rfl (Wa_98 _ _ _ _ _ _ _) h4.1 (Ws_98 _ _ _ _ _ _ _ _)) ?_
    have h5 := h4.2
    refine WP.run hP_245 2 (c' := (27, [some (.ref 74), some (.int (l1 + (1 : Int32))), none, none, none], [], Wd f fl (va_up g 98 (upd (g 98) (l1.toNatClampNeg) ((g 97) l1.toNatClampNeg))) gl hh v tx)) rfl ?_
    exact h5

set_option maxRecDepth 20000 in
theorem b_m_orders_63 (X : mm_X) (d : Nat) (f : Nat → Int32) (fl : Nat → Int64) (g : Nat → Nat → Int32) (gl : Nat → Nat → Int64) (hh : Nat → Nat → Option Nat) (v : Nat → Value) (tx : mm_W) (l1 : Int32)  (P : Option Value → mm_W → Prop)
    (h : WP X (d) 245 (95, [some (.ref 74), some (.int l1), some (.int ((2400 : Int32) + ((g 76) 66))), some (.int 0), none], [], Wd (va_up (va_up (va_up f 4763 0) 4764 (-1)) 4779 2400) fl g gl hh v tx) P) :
    WP X (d) 245 (63, [some (.ref 74), some (.int l1), none, none, none], [], Wd f fl g gl hh v tx) P := by
  refine WP.run hP_245 14 (c' := (90, [some (.ref 74), some (.int l1), none, none, none], [.int 66, .ref 76, .int 2400], Wd (va_up (va_up (va_up f 4763 0) 4764 (-1)) 4779 2400) fl g gl hh v tx)) rfl ?_
  refine WP.of (fun _ _ => Ex.iald hP_245 rfl (Wa_76 _ _ _ _ _ _ _) (by decide)) ?_
  show WP X _ 245 (91, [some (.ref 74), some (.int l1), none, none, none], [.int ((g 76) 66), .int 2400], Wd (va_up (va_up (va_up f 4763 0) 4764 (-1)) 4779 2400) fl g gl hh v tx) P
  refine WP.run hP_245 3 (c' := (94, [some (.ref 74), some (.int l1), some (.int ((2400 : Int32) + ((g 76) 66))), none, none], [.int 0], Wd (va_up (va_up (va_up f 4763 0) 4764 (-1)) 4779 2400) fl g gl hh v tx)) rfl ?_
  refine WP.run hP_245 1 (c' := (95, [some (.ref 74), some (.int l1), some (.int ((2400 : Int32) + ((g 76) 66))), some (.int 0), none], [], Wd (va_up (va_up (va_up f 4763 0) 4764 (-1)) 4779 2400) fl g gl hh v tx)) rfl ?_
  exact h

set_option maxRecDepth 20000 in
theorem b_m_orders_95 (X : mm_X) (d : Nat) (f : Nat → Int32) (fl : Nat → Int64) (g : Nat → Nat → Int32) (gl : Nat → Nat → Int64) (hh : Nat → Nat → Option Nat) (v : Nat → Value) (tx : mm_W) (l1 : Int32) (l2 : Int32) (l3 : Int32)  (P : Option Value → mm_W → Prop)
    (h : ((l2 ≤ (f 4779)) → P (some (.int (f 4763))) (Wd (va_up f 4736 0) fl g gl hh v tx)) ∧
    ((¬ (l2 ≤ (f 4779))) → WP X (d) 249 (0, [some (.ref 74), some (.int l2), none, none, none], [], Wd f fl g gl hh v tx) (fun rv w2 => WP X (d + 1) 245 (108, [some (.ref 74), some (.int l1), some (.int l2), some (.int l3), none], rv.toList ++ [], w2) P))) :
    WP X (d + 1) 245 (95, [some (.ref 74), some (.int l1), some (.int l2), some (.int l3), none], [], Wd f fl g gl hh v tx) P := by
  refine WP.run hP_245 3 (c' := (100, [some (.ref 74), some (.int l1), some (.int l2), some (.int l3), none], [.int l2, .int (f 4779)], Wd f fl g gl hh v tx)) rfl ?_
  refine WP.br hP_245 (q := l2 ≤ (f 4779)) (t := 173) (f := 103) (L := [some (.ref 74), some (.int l1), some (.int l2), some (.int l3), none]) (st := []) (w := Wd f fl g gl hh v tx) rfl (fun c1 => ?_) (fun c1 => ?_)
  · have h2 := h.1 c1
    refine WP.run hP_245 3 (c' := (178, [some (.ref 74), none, none, none, none], [.int (f 4763), .ref 74], Wd f fl g gl hh v tx)) rfl ?_
    refine WP.call hP_245 hP_120 (as := [.ref 74, .int (f 4763)]) (pc' := 181) (L' := [some (.ref 74), none, none, none, none]) (st' := []) (w1 := Wd f fl g gl hh v tx) rfl ⟨Nat.le_of_ble_eq_true rfl, Nat.le_of_ble_eq_true rfl⟩ rfl (b_m_good_0 X (d) f fl g gl hh v tx (f 4763) _ ?_)
    exact WP.retI hP_245 rfl rfl h2
  · have h3 := h.2 c1
    refine WP.run hP_245 2 (c' := (105, [some (.ref 74), some (.int l1), some (.int l2), some (.int l3), none], [.int l2, .ref 74], Wd f fl g gl hh v tx)) rfl ?_
    refine WP.call hP_245 hP_249 (as := [.ref 74, .int l2]) (pc' := 108) (L' := [some (.ref 74), some (.int l1), some (.int l2), some (.int l3), none]) (st' := []) (w1 := Wd f fl g gl hh v tx) rfl ⟨Nat.le_of_ble_eq_true rfl, Nat.le_of_ble_eq_true rfl⟩ rfl ?_
    exact h3

set_option maxRecDepth 20000 in
theorem b_m_orders_108 (X : mm_X) (d : Nat) (f : Nat → Int32) (fl : Nat → Int64) (g : Nat → Nat → Int32) (gl : Nat → Nat → Int64) (hh : Nat → Nat → Option Nat) (v : Nat → Value) (tx : mm_W) (l1 : Int32) (l2 : Int32) (l3 : Int32) (s0 : Int32)  (P : Option Value → mm_W → Prop)
    (h : ((s0 = 0) → WP X (d) 126 (0, [some (.ref 74), some (.int 1), none], [], Wd f fl g gl hh v tx) (fun rv w2 => WP X (d + 1) 245 (119, [some (.ref 74), some (.int l1), none, some (.int l3), none], rv.toList ++ [], w2) P)) ∧
    ((¬ s0 = 0) → WP X (d + 1) 245 (95, [some (.ref 74), some (.int l1), some (.int l2), some (.int (l3 + (1 : Int32))), none], [], Wd f fl g gl hh v tx) P)) :
    WP X (d + 1) 245 (108, [some (.ref 74), some (.int l1), some (.int l2), some (.int l3), none], [.int s0], Wd f fl g gl hh v tx) P := by
  refine WP.br hP_245 (q := s0 = 0) (t := 114) (f := 111) (L := [some (.ref 74), some (.int l1), some (.int l2), some (.int l3), none]) (st := []) (w := Wd f fl g gl hh v tx) rfl (fun c1 => ?_) (fun c1 => ?_)
  · have h2 := h.1 c1
    refine WP.run hP_245 2 (c' := (116, [some (.ref 74), some (.int l1), none, some (.int l3), none], [.int 1, .ref 74], Wd f fl g gl hh v tx)) rfl ?_
    refine WP.call hP_245 hP_126 (as := [.ref 74, .int 1]) (pc' := 119) (L' := [some (.ref 74), some (.int l1), none, some (.int l3), none]) (st' := []) (w1 := Wd f fl g gl hh v tx) rfl ⟨Nat.le_of_ble_eq_true rfl, Nat.le_of_ble_eq_true rfl⟩ rfl ?_
    exact h2
  · have h3 := h.2 c1
    refine WP.run hP_245 3 (c' := (95, [some (.ref 74), some (.int l1), some (.int l2), some (.int (l3 + (1 : Int32))), none], [], Wd f fl g gl hh v tx)) rfl ?_
    exact h3

set_option maxRecDepth 20000 in
theorem b_m_orders_119 (X : mm_X) (d : Nat) (f : Nat → Int32) (fl : Nat → Int64) (g : Nat → Nat → Int32) (gl : Nat → Nat → Int64) (hh : Nat → Nat → Option Nat) (v : Nat → Value) (tx : mm_W) (l1 : Int32) (l3 : Int32)  (P : Option Value → mm_W → Prop)
    (h : WP X (d) 245 (122, [some (.ref 74), some (.int l1), none, some (.int l3), some (.int 0)], [], Wd f fl g gl hh v tx) P) :
    WP X (d) 245 (119, [some (.ref 74), some (.int l1), none, some (.int l3), none], [], Wd f fl g gl hh v tx) P := by
  refine WP.run hP_245 2 (c' := (122, [some (.ref 74), some (.int l1), none, some (.int l3), some (.int 0)], [], Wd f fl g gl hh v tx)) rfl ?_
  exact h

set_option maxRecDepth 20000 in
theorem b_m_orders_122 (X : mm_X) (d : Nat) (f : Nat → Int32) (fl : Nat → Int64) (g : Nat → Nat → Int32) (gl : Nat → Nat → Int64) (hh : Nat → Nat → Option Nat) (v : Nat → Value) (tx : mm_W) (l1 : Int32) (l3 : Int32) (l4 : Int32)  (P : Option Value → mm_W → Prop)
    (h : ((384 ≤ l4) → P (some (.int (-3))) (Wd (va_up (va_up (va_up f 4777 l1) 4778 l3) 4736 (-3 : Int32)) fl (va_up g 75 (upd (g 75) (3) (((g 75) 3) + (1 : Int32)))) gl hh v tx)) ∧
    ((¬ (384 ≤ l4)) → ((¬ (l4 < 0 ∨ 384 ≤ l4.toNatClampNeg)) ∧ ((¬ (l4 < 0 ∨ 384 ≤ l4.toNatClampNeg)) ∧ WP X (d + 1) 245 (122, [some (.ref 74), some (.int l1), none, some (.int l3), some (.int (l4 + (1 : Int32)))], [], Wd f fl (va_up g 97 (upd (g 97) (l4.toNatClampNeg) ((g 98) l4.toNatClampNeg))) gl hh v tx) P)))) :
    WP X (d + 1) 245 (122, [some (.ref 74), some (.int l1), none, some (.int l3), some (.int l4)], [], Wd f fl g gl hh v tx) P := by
  refine WP.run hP_245 2 (c' := (127, [some (.ref 74), some (.int l1), none, some (.int l3), some (.int l4)], [.int 384, .int l4], Wd f fl g gl hh v tx)) rfl ?_
  refine WP.br hP_245 (q := 384 ≤ l4) (t := 150) (f := 130) (L := [some (.ref 74), some (.int l1), none, some (.int l3), some (.int l4)]) (st := []) (w := Wd f fl g gl hh v tx) rfl (fun c1 => ?_) (fun c1 => ?_)
  · have h2 := h.1 c1
    refine WP.run hP_245 8 (c' := (163, [some (.ref 74), some (.int l1), none, some (.int l3), none], [.int (-3), .ref 74], Wd (va_up (va_up f 4777 l1) 4778 l3) fl g gl hh v tx)) rfl ?_
    refine WP.call hP_245 hP_119 (as := [.ref 74, .int (-3)]) (pc' := 166) (L' := [some (.ref 74), some (.int l1), none, some (.int l3), none]) (st' := []) (w1 := Wd (va_up (va_up f 4777 l1) 4778 l3) fl g gl hh v tx) rfl ⟨Nat.le_of_ble_eq_true rfl, Nat.le_of_ble_eq_true rfl⟩ rfl (b_m_refuses_0 X (d) (va_up (va_up f 4777 l1) 4778 l3) fl g gl hh v tx (-3) _ ?_)
    refine ⟨by decide, ?_⟩
    refine ⟨by decide, ?_⟩
    exact WP.retI hP_245 rfl rfl h2
  · have h3 := h.2 c1
    refine WP.run hP_245 6 (c' := (142, [some (.ref 74), some (.int l1), none, some (.int l3), some (.int l4)], [.int l4, .ref 98, .int l4, .ref 97], Wd f fl g gl hh v tx)) rfl ?_
    refine WP.of (fun _ _ => Ex.iald hP_245 rfl (Wa_98 _ _ _ _ _ _ _) h3.1) ?_
    have h4 := h3.2
    refine WP.of (fun _ _ => Ex.iast hP_245 (w2 := Wd f fl (va_up g 97 (upd (g 97) (l4.toNatClampNeg) ((g 98) l4.toNatClampNeg))) gl hh v tx) rfl (Wa_97 _ _ _ _ _ _ _) h4.1 (Ws_97 _ _ _ _ _ _ _ _)) ?_
    have h5 := h4.2
    refine WP.run hP_245 2 (c' := (122, [some (.ref 74), some (.int l1), none, some (.int l3), some (.int (l4 + (1 : Int32)))], [], Wd f fl (va_up g 97 (upd (g 97) (l4.toNatClampNeg) ((g 98) l4.toNatClampNeg))) gl hh v tx)) rfl ?_
    exact h5
