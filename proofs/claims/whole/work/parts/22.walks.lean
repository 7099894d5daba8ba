set_option maxRecDepth 20000 in
theorem x_within (X : mm_X) (d : Nat) (f : Nat → Int32) (fl : Nat → Int64) (g : Nat → Nat → Int32) (gl : Nat → Nat → Int64) (hh : Nat → Nat → Option Nat) (v : Nat → Value) (tx : mm_W) (p0 : Int32) (p1 : Int32) (P : Option Value → mm_W → Prop)
    (h0 : (p0 < 0) → P (some (.int 0)) (Wd f fl g gl hh v tx))
    (h1 : (¬ (p0 < 0)) → (p1 ≤ p0) → P (some (.int 0)) (Wd f fl g gl hh v tx))
    (h2 : (¬ (p0 < 0)) → (¬ (p1 ≤ p0)) → P (some (.int 1)) (Wd f fl g gl hh v tx)) :
    WP X d 99 (0, [some (.int p0), some (.int p1)], [], Wd f fl g gl hh v tx) P := by
  refine WP.run hP_99 1 (c' := (1, [some (.int p0), some (.int p1)], [.int p0], Wd f fl g gl hh v tx)) rfl ?_
  refine WP.br hP_99 (q := p0 < 0) (t := 13) (f := 4) (L := [some (.int p0), some (.int p1)]) (st := []) (w := Wd f fl g gl hh v tx) rfl (fun c1 => ?_) (fun c1 => ?_)
  · refine WP.run hP_99 1 (c' := (14, [none, none], [.int 0], Wd f fl g gl hh v tx)) rfl ?_
    exact WP.ret hP_99 (r := some (.int 0)) (w' := Wd f fl g gl hh v tx) rfl (h0 c1)
  · refine WP.run hP_99 2 (c' := (6, [some (.int p0), some (.int p1)], [.int p1, .int p0], Wd f fl g gl hh v tx)) rfl ?_
    refine WP.br hP_99 (q := p1 ≤ p0) (t := 13) (f := 9) (L := [some (.int p0), some (.int p1)]) (st := []) (w := Wd f fl g gl hh v tx) rfl (fun c2 => ?_) (fun c2 => ?_)
    · refine WP.run hP_99 1 (c' := (14, [none, none], [.int 0], Wd f fl g gl hh v tx)) rfl ?_
      exact WP.ret hP_99 (r := some (.int 0)) (w' := Wd f fl g gl hh v tx) rfl (h1 c1 c2)
    · refine WP.run hP_99 2 (c' := (14, [some (.int p0), some (.int p1)], [.int 1], Wd f fl g gl hh v tx)) rfl ?_
      exact WP.ret hP_99 (r := some (.int 1)) (w' := Wd f fl g gl hh v tx) rfl (h2 c1 c2)

set_option maxRecDepth 20000 in
theorem yca_told_38 (X : mm_X) (d : Nat) (f : Nat → Int32) (fl : Nat → Int64) (g : Nat → Nat → Int32) (gl : Nat → Nat → Int64) (hh : Nat → Nat → Option Nat) (v : Nat → Value) (tx : mm_W) (p0 : Int32) (p1 : Int32) (P : Option Value → mm_W → Prop)
    (i0 : (¬ p1 = (-1)) → (¬ (p1 < 0)) → (¬ ((f 2437) ≤ p1)) → ¬ (p1 < 0 ∨ 12 ≤ p1.toNatClampNeg))
    (h0 : (¬ p1 = (-1)) → (p1 < 0) → P (some (.int (-1))) (Wd f fl g gl hh v tx))
    (h1 : (¬ p1 = (-1)) → (¬ (p1 < 0)) → ((f 2437) ≤ p1) → P (some (.int (-1))) (Wd f fl g gl hh v tx))
    (h2 : (¬ p1 = (-1)) → (¬ (p1 < 0)) → (¬ ((f 2437) ≤ p1)) → P (some (.int ((g 44) p1.toNatClampNeg))) (Wd f fl g gl hh v tx))
    (h3 : (¬ (¬ p1 = (-1))) → P (some (.int p0)) (Wd f fl g gl hh v tx)) :
    WP X (d + 1) 10 (0, [some (.ref 38), some (.int p0), some (.int p1)], [], Wd f fl g gl hh v tx) P := by
  refine WP.run hP_10 2 (c' := (2, [some (.ref 38), some (.int p0), some (.int p1)], [.int (-1), .int p1], Wd f fl g gl hh v tx)) rfl ?_
  refine WP.br hP_10 (q := ¬ p1 = (-1)) (t := 7) (f := 5) (L := [some (.ref 38), some (.int p0), some (.int p1)]) (st := []) (w := Wd f fl g gl hh v tx) rfl (fun c1 => ?_) (fun c1 => ?_)
  · refine WP.run hP_10 3 (c' := (12, [some (.ref 38), none, some (.int p1)], [.int (f 2437), .int p1], Wd f fl g gl hh v tx)) rfl ?_
    refine WP.call hP_10 hP_99 (as := [.int p1, .int (f 2437)]) (pc' := 15) (L' := [some (.ref 38), none, some (.int p1)]) (st' := []) (w1 := Wd f fl g gl hh v tx) rfl ⟨Nat.le_of_ble_eq_true rfl, Nat.le_of_ble_eq_true rfl⟩ rfl (x_within X (d) f fl g gl hh v tx p1 (f 2437) _  (fun c2 => ?_) (fun c3 c4 => ?_) (fun c5 c6 => ?_))
    · refine WP.run hP_10 2 (c' := (28, [none, none, none], [.int (-1)], Wd f fl g gl hh v tx)) rfl ?_
      exact WP.retI hP_10 rfl rfl (h0 c1 c2)
    · refine WP.run hP_10 2 (c' := (28, [none, none, none], [.int (-1)], Wd f fl g gl hh v tx)) rfl ?_
      exact WP.retI hP_10 rfl rfl (h1 c1 c3 c4)
    · refine WP.run hP_10 4 (c' := (23, [some (.ref 38), none, some (.int p1)], [.int p1, .ref 44], Wd f fl g gl hh v tx)) rfl ?_
      refine WP.of (fun _ _ => Ex.iald hP_10 rfl (Wa_44 _ _ _ _ _ _ _) (i0 c1 c5 c6)) ?_
      refine WP.run hP_10 1 (c' := (28, [some (.ref 38), none, some (.int p1)], [.int ((g 44) p1.toNatClampNeg)], Wd f fl g gl hh v tx)) rfl ?_
      exact WP.retI hP_10 rfl rfl (h2 c1 c5 c6)
  · refine WP.run hP_10 1 (c' := (6, [some (.ref 38), some (.int p0), some (.int p1)], [.int p0], Wd f fl g gl hh v tx)) rfl ?_
    exact WP.retI hP_10 rfl rfl (h3 c1)

set_option maxRecDepth 20000 in
theorem yco_offer_50 (X : mm_X) (d : Nat) (f : Nat → Int32) (fl : Nat → Int64) (g : Nat → Nat → Int32) (gl : Nat → Nat → Int64) (hh : Nat → Nat → Option Nat) (v : Nat → Value) (tx : mm_W) (p0 : Int32) (p1 : Int32) (P : Option Value → mm_W → Prop)
    (i0 : (¬ (p0 < 0)) → (¬ ((128 : Int32) ≤ p0)) → ¬ (p0 < 0 ∨ 128 ≤ p0.toNatClampNeg))
    (i1 : (¬ (p0 < 0)) → (¬ ((128 : Int32) ≤ p0)) → (p1 < ((g 52) p0.toNatClampNeg)) → ¬ (p0 < 0 ∨ 128 ≤ p0.toNatClampNeg))
    (i2 : (¬ (p0 < 0)) → (¬ ((128 : Int32) ≤ p0)) → (p1 < ((g 52) p0.toNatClampNeg)) → (¬ ((g 52) p0.toNatClampNeg) = 1000000) → ¬ (p0 < 0 ∨ 128 ≤ p0.toNatClampNeg))
    (i3 : (¬ (p0 < 0)) → (¬ ((128 : Int32) ≤ p0)) → (p1 < ((g 52) p0.toNatClampNeg)) → (¬ (¬ ((g 52) p0.toNatClampNeg) = 1000000)) → (128 ≤ (f 3203)) → ¬ (p0 < 0 ∨ 128 ≤ p0.toNatClampNeg))
    (i4 : (¬ (p0 < 0)) → (¬ ((128 : Int32) ≤ p0)) → (p1 < ((g 52) p0.toNatClampNeg)) → (¬ (¬ ((g 52) p0.toNatClampNeg) = 1000000)) → (¬ (128 ≤ (f 3203))) → ¬ ((f 3203) < 0 ∨ 128 ≤ (f 3203).toNatClampNeg))
    (i5 : (¬ (p0 < 0)) → (¬ ((128 : Int32) ≤ p0)) → (p1 < ((g 52) p0.toNatClampNeg)) → (¬ (¬ ((g 52) p0.toNatClampNeg) = 1000000)) → (¬ (128 ≤ (f 3203))) → ¬ (p0 < 0 ∨ 128 ≤ p0.toNatClampNeg))
    (h0 : (p0 < 0) → P (some (.int 0)) (Wd f fl g gl hh v tx))
    (h1 : (¬ (p0 < 0)) → ((128 : Int32) ≤ p0) → P (some (.int 0)) (Wd f fl g gl hh v tx))
    (h2 : (¬ (p0 < 0)) → (¬ ((128 : Int32) ≤ p0)) → (p1 < ((g 52) p0.toNatClampNeg)) → (¬ ((g 52) p0.toNatClampNeg) = 1000000) → P (some (.int 1)) (Wd f fl (va_up g 52 (upd (g 52) p0.toNatClampNeg p1)) gl hh v tx))
    (h3 : (¬ (p0 < 0)) → (¬ ((128 : Int32) ≤ p0)) → (p1 < ((g 52) p0.toNatClampNeg)) → (¬ (¬ ((g 52) p0.toNatClampNeg) = 1000000)) → (128 ≤ (f 3203)) → P (some (.int 1)) (Wd f fl (va_up g 52 (upd (g 52) p0.toNatClampNeg p1)) gl hh v tx))
    (h4 : (¬ (p0 < 0)) → (¬ ((128 : Int32) ≤ p0)) → (p1 < ((g 52) p0.toNatClampNeg)) → (¬ (¬ ((g 52) p0.toNatClampNeg) = 1000000)) → (¬ (128 ≤ (f 3203))) → P (some (.int 1)) (Wd (va_up f 3203 ((f 3203) + 1)) fl (va_up (va_up g 53 (upd (g 53) (f 3203).toNatClampNeg p0)) 52 (upd (g 52) p0.toNatClampNeg p1)) gl hh v tx))
    (h5 : (¬ (p0 < 0)) → (¬ ((128 : Int32) ≤ p0)) → (¬ (p1 < ((g 52) p0.toNatClampNeg))) → P (some (.int 0)) (Wd f fl g gl hh v tx)) :
    WP X (d + 1) 17 (0, [some (.ref 50), some (.int p0), some (.int p1)], [], Wd f fl g gl hh v tx) P := by
  refine WP.run hP_17 4 (c' := (6, [some (.ref 50), some (.int p0), some (.int p1)], [.int 128, .int p0], Wd f fl g gl hh v tx)) rfl ?_
  refine WP.call hP_17 hP_99 (as := [.int p0, .int 128]) (pc' := 9) (L' := [some (.ref 50), some (.int p0), some (.int p1)]) (st' := []) (w1 := Wd f fl g gl hh v tx) rfl ⟨Nat.le_of_ble_eq_true rfl, Nat.le_of_ble_eq_true rfl⟩ rfl (x_within X (d) f fl g gl hh v tx p0 128 _  (fun c1 => ?_) (fun c2 c3 => ?_) (fun c4 c5 => ?_))
  · refine WP.run hP_17 2 (c' := (23, [none, none, none], [.int 0], Wd f fl g gl hh v tx)) rfl ?_
    exact WP.ret hP_17 (r := some (.int 0)) (w' := Wd f fl g gl hh v tx) rfl (h0 c1)
  · refine WP.run hP_17 2 (c' := (23, [none, none, none], [.int 0], Wd f fl g gl hh v tx)) rfl ?_
    exact WP.ret hP_17 (r := some (.int 0)) (w' := Wd f fl g gl hh v tx) rfl (h1 c2 c3)
  · refine WP.run hP_17 4 (c' := (17, [some (.ref 50), some (.int p0), some (.int p1)], [.int p0, .ref 52], Wd f fl g gl hh v tx)) rfl ?_
    refine WP.of (fun _ _ => Ex.iald hP_17 rfl (Wa_52 _ _ _ _ _ _ _) (i0 c4 c5)) ?_
    refine WP.run hP_17 1 (c' := (19, [some (.ref 50), some (.int p0), some (.int p1)], [.int p1, .int ((g 52) p0.toNatClampNeg)], Wd f fl g gl hh v tx)) rfl ?_
    refine WP.br hP_17 (q := p1 < ((g 52) p0.toNatClampNeg)) (t := 24) (f := 22) (L := [some (.ref 50), some (.int p0), some (.int p1)]) (st := []) (w := Wd f fl g gl hh v tx) rfl (fun c6 => ?_) (fun c6 => ?_)
    · refine WP.run hP_17 3 (c' := (29, [some (.ref 50), some (.int p0), some (.int p1)], [.int p0, .ref 52], Wd f fl g gl hh v tx)) rfl ?_
      refine WP.of (fun _ _ => Ex.iald hP_17 rfl (Wa_52 _ _ _ _ _ _ _) (i1 c4 c5 c6)) ?_
      refine WP.run hP_17 1 (c' := (32, [some (.ref 50), some (.int p0), some (.int p1)], [.int 1000000, .int ((g 52) p0.toNatClampNeg)], Wd f fl g gl hh v tx)) rfl ?_
      refine WP.br hP_17 (q := ¬ ((g 52) p0.toNatClampNeg) = 1000000) (t := 67) (f := 35) (L := [some (.ref 50), some (.int p0), some (.int p1)]) (st := []) (w := Wd f fl g gl hh v tx) rfl (fun c7 => ?_) (fun c7 => ?_)
      · refine WP.run hP_17 4 (c' := (73, [some (.ref 50), some (.int p0), some (.int p1)], [.int p1, .int p0, .ref 52], Wd f fl g gl hh v tx)) rfl ?_
        refine WP.of (fun _ _ => Ex.iast hP_17 (w2 := Wd f fl (va_up g 52 (upd (g 52) p0.toNatClampNeg p1)) gl hh v tx) rfl (Wa_52 _ _ _ _ _ _ _) (i2 c4 c5 c6 c7) (Ws_52 _ _ _ _ _ _ _ _)) ?_
        refine WP.run hP_17 1 (c' := (75, [some (.ref 50), some (.int p0), some (.int p1)], [.int 1], Wd f fl (va_up g 52 (upd (g 52) p0.toNatClampNeg p1)) gl hh v tx)) rfl ?_
        exact WP.ret hP_17 (r := some (.int 1)) (w' := Wd f fl (va_up g 52 (upd (g 52) p0.toNatClampNeg p1)) gl hh v tx) rfl (h2 c4 c5 c6 c7)
      · refine WP.run hP_17 5 (c' := (44, [some (.ref 50), some (.int p0), some (.int p1)], [.int 128, .int (f 3203)], Wd f fl g gl hh v tx)) rfl ?_
        refine WP.br hP_17 (q := 128 ≤ (f 3203)) (t := 67) (f := 47) (L := [some (.ref 50), some (.int p0), some (.int p1)]) (st := []) (w := Wd f fl g gl hh v tx) rfl (fun c8 => ?_) (fun c8 => ?_)
        · refine WP.run hP_17 4 (c' := (73, [some (.ref 50), some (.int p0), some (.int p1)], [.int p1, .int p0, .ref 52], Wd f fl g gl hh v tx)) rfl ?_
          refine WP.of (fun _ _ => Ex.iast hP_17 (w2 := Wd f fl (va_up g 52 (upd (g 52) p0.toNatClampNeg p1)) gl hh v tx) rfl (Wa_52 _ _ _ _ _ _ _) (i3 c4 c5 c6 c7 c8) (Ws_52 _ _ _ _ _ _ _ _)) ?_
          refine WP.run hP_17 1 (c' := (75, [some (.ref 50), some (.int p0), some (.int p1)], [.int 1], Wd f fl (va_up g 52 (upd (g 52) p0.toNatClampNeg p1)) gl hh v tx)) rfl ?_
          exact WP.ret hP_17 (r := some (.int 1)) (w' := Wd f fl (va_up g 52 (upd (g 52) p0.toNatClampNeg p1)) gl hh v tx) rfl (h3 c4 c5 c6 c7 c8)
        · refine WP.run hP_17 5 (c' := (56, [some (.ref 50), some (.int p0), some (.int p1)], [.int p0, .int (f 3203), .ref 53], Wd f fl g gl hh v tx)) rfl ?_
          refine WP.of (fun _ _ => Ex.iast hP_17 (w2 := Wd f fl (va_up g 53 (upd (g 53) (f 3203).toNatClampNeg p0)) gl hh v tx) rfl (Wa_53 _ _ _ _ _ _ _) (i4 c4 c5 c6 c7 c8) (Ws_53 _ _ _ _ _ _ _ _)) ?_
          refine WP.run hP_17 10 (c' := (73, [some (.ref 50), some (.int p0), some (.int p1)], [.int p1, .int p0, .ref 52], Wd (va_up f 3203 ((f 3203) + 1)) fl (va_up g 53 (upd (g 53) (f 3203).toNatClampNeg p0)) gl hh v tx)) rfl ?_
          refine WP.of (fun _ _ => Ex.iast hP_17 (w2 := Wd (va_up f 3203 ((f 3203) + 1)) fl (va_up (va_up g 53 (upd (g 53) (f 3203).toNatClampNeg p0)) 52 (upd (g 52) p0.toNatClampNeg p1)) gl hh v tx) rfl (Wa_52 _ _ _ _ _ _ _) (i5 c4 c5 c6 c7 c8) (Ws_52 _ _ _ _ _ _ _ _)) ?_
          refine WP.run hP_17 1 (c' := (75, [some (.ref 50), some (.int p0), some (.int p1)], [.int 1], Wd (va_up f 3203 ((f 3203) + 1)) fl (va_up (va_up g 53 (upd (g 53) (f 3203).toNatClampNeg p0)) 52 (upd (g 52) p0.toNatClampNeg p1)) gl hh v tx)) rfl ?_
          exact WP.ret hP_17 (r := some (.int 1)) (w' := Wd (va_up f 3203 ((f 3203) + 1)) fl (va_up (va_up g 53 (upd (g 53) (f 3203).toNatClampNeg p0)) 52 (upd (g 52) p0.toNatClampNeg p1)) gl hh v tx) rfl (h4 c4 c5 c6 c7 c8)
    · refine WP.run hP_17 1 (c' := (23, [none, none, none], [.int 0], Wd f fl g gl hh v tx)) rfl ?_
      exact WP.ret hP_17 (r := some (.int 0)) (w' := Wd f fl g gl hh v tx) rfl (h5 c4 c5 c6)

set_option maxRecDepth 20000 in
theorem yco_size (X : mm_X) (d : Nat) (f : Nat → Int32) (fl : Nat → Int64) (g : Nat → Nat → Int32) (gl : Nat → Nat → Int64) (hh : Nat → Nat → Option Nat) (v : Nat → Value) (tx : mm_W) (p0 : Int32) (P : Option Value → mm_W → Prop)
    (h0 : (4 ≤ p0) → (16 ≤ p0) → (64 ≤ p0) → (256 ≤ p0) → P (some (.int 4)) (Wd f fl g gl hh v tx))
    (h1 : (4 ≤ p0) → (16 ≤ p0) → (64 ≤ p0) → (¬ (256 ≤ p0)) → P (some (.int 3)) (Wd f fl g gl hh v tx))
    (h2 : (4 ≤ p0) → (16 ≤ p0) → (¬ (64 ≤ p0)) → P (some (.int 2)) (Wd f fl g gl hh v tx))
    (h3 : (4 ≤ p0) → (¬ (16 ≤ p0)) → P (some (.int 1)) (Wd f fl g gl hh v tx))
    (h4 : (¬ (4 ≤ p0)) → P (some (.int 0)) (Wd f fl g gl hh v tx)) :
    WP X d 19 (0, [some (.int p0)], [], Wd f fl g gl hh v tx) P := by
  refine WP.run hP_19 2 (c' := (2, [some (.int p0)], [.int 4, .int p0], Wd f fl g gl hh v tx)) rfl ?_
  refine WP.br hP_19 (q := 4 ≤ p0) (t := 9) (f := 5) (L := [some (.int p0)]) (st := []) (w := Wd f fl g gl hh v tx) rfl (fun c1 => ?_) (fun c1 => ?_)
  · refine WP.run hP_19 2 (c' := (12, [some (.int p0)], [.int 16, .int p0], Wd f fl g gl hh v tx)) rfl ?_
    refine WP.br hP_19 (q := 16 ≤ p0) (t := 19) (f := 15) (L := [some (.int p0)]) (st := []) (w := Wd f fl g gl hh v tx) rfl (fun c2 => ?_) (fun c2 => ?_)
    · refine WP.run hP_19 2 (c' := (22, [some (.int p0)], [.int 64, .int p0], Wd f fl g gl hh v tx)) rfl ?_
      refine WP.br hP_19 (q := 64 ≤ p0) (t := 29) (f := 25) (L := [some (.int p0)]) (st := []) (w := Wd f fl g gl hh v tx) rfl (fun c3 => ?_) (fun c3 => ?_)
      · refine WP.run hP_19 2 (c' := (33, [some (.int p0)], [.int 256, .int p0], Wd f fl g gl hh v tx)) rfl ?_
        refine WP.br hP_19 (q := 256 ≤ p0) (t := 40) (f := 36) (L := [some (.int p0)]) (st := []) (w := Wd f fl g gl hh v tx) rfl (fun c4 => ?_) (fun c4 => ?_)
        · refine WP.run hP_19 1 (c' := (41, [none], [.int 4], Wd f fl g gl hh v tx)) rfl ?_
          exact WP.retI hP_19 rfl rfl (h0 c1 c2 c3 c4)
        · refine WP.run hP_19 2 (c' := (41, [some (.int p0)], [.int 3], Wd f fl g gl hh v tx)) rfl ?_
          exact WP.retI hP_19 rfl rfl (h1 c1 c2 c3 c4)
      · refine WP.run hP_19 2 (c' := (41, [some (.int p0)], [.int 2], Wd f fl g gl hh v tx)) rfl ?_
        exact WP.retI hP_19 rfl rfl (h2 c1 c2 c3)
    · refine WP.run hP_19 2 (c' := (41, [some (.int p0)], [.int 1], Wd f fl g gl hh v tx)) rfl ?_
      exact WP.retI hP_19 rfl rfl (h3 c1 c2)
  · refine WP.run hP_19 2 (c' := (41, [some (.int p0)], [.int 0], Wd f fl g gl hh v tx)) rfl ?_
    exact WP.retI hP_19 rfl rfl (h4 c1)

set_option maxRecDepth 20000 in
theorem x_cellOf (X : mm_X) (d : Nat) (f : Nat → Int32) (fl : Nat → Int64) (g : Nat → Nat → Int32) (gl : Nat → Nat → Int64) (hh : Nat → Nat → Option Nat) (v : Nat → Value) (tx : mm_W) (p0 : Int32) (P : Option Value → mm_W → Prop)
    (h0 : P (some (.int (p0 / 40))) (Wd f fl g gl hh v tx)) :
    WP X d 110 (0, [some (.int p0)], [], Wd f fl g gl hh v tx) P := by
  refine WP.run hP_110 3 (c' := (4, [some (.int p0)], [.int (p0 / 40)], Wd f fl g gl hh v tx)) rfl ?_
  exact WP.retI hP_110 rfl rfl h0

set_option maxRecDepth 20000 in
theorem x_powderOf (X : mm_X) (d : Nat) (f : Nat → Int32) (fl : Nat → Int64) (g : Nat → Nat → Int32) (gl : Nat → Nat → Int64) (hh : Nat → Nat → Option Nat) (v : Nat → Value) (tx : mm_W) (p0 : Int32) (P : Option Value → mm_W → Prop)
    (h0 : P (some (.int (p0 - (p0 / 10) * 10))) (Wd f fl g gl hh v tx)) :
    WP X d 112 (0, [some (.int p0)], [], Wd f fl g gl hh v tx) P := by
  refine WP.run hP_112 3 (c' := (4, [some (.int p0)], [.int (p0 - (p0 / 10) * 10)], Wd f fl g gl hh v tx)) rfl ?_
  exact WP.retI hP_112 rfl rfl h0

set_option maxRecDepth 20000 in
theorem x_facesOf (X : mm_X) (d : Nat) (f : Nat → Int32) (fl : Nat → Int64) (g : Nat → Nat → Int32) (gl : Nat → Nat → Int64) (hh : Nat → Nat → Option Nat) (v : Nat → Value) (tx : mm_W) (p0 : Int32) (P : Option Value → mm_W → Prop)
    (h0 : P (some (.int ((p0 / 10) - ((p0 / 10) / 4) * 4))) (Wd f fl g gl hh v tx)) :
    WP X d 111 (0, [some (.int p0)], [], Wd f fl g gl hh v tx) P := by
  refine WP.run hP_111 5 (c' := (6, [some (.int p0)], [.int ((p0 / 10) - ((p0 / 10) / 4) * 4)], Wd f fl g gl hh v tx)) rfl ?_
  exact WP.retI hP_111 rfl rfl h0

set_option maxRecDepth 20000 in
theorem x_ahead (X : mm_X) (d : Nat) (f : Nat → Int32) (fl : Nat → Int64) (g : Nat → Nat → Int32) (gl : Nat → Nat → Int64) (hh : Nat → Nat → Option Nat) (v : Nat → Value) (tx : mm_W) (p0 : Int32) (p1 : Int32) (p2 : Int32) (P : Option Value → mm_W → Prop)
    (h0 : (p1 = 0) → P (some (.int (p0 + (5 * (if (4 - (p0 / 5)) < p2 then (4 - (p0 / 5)) else p2))))) (Wd f fl g gl hh v tx))
    (h1 : (¬ p1 = 0) → (p1 = 1) → P (some (.int (p0 + (if (4 - (p0 - (p0 / 5) * 5)) < p2 then (4 - (p0 - (p0 / 5) * 5)) else p2)))) (Wd f fl g gl hh v tx))
    (h2 : (¬ p1 = 0) → (¬ p1 = 1) → (p1 = 2) → P (some (.int (p0 - (5 * (if (p0 / 5) < p2 then (p0 / 5) else p2))))) (Wd f fl g gl hh v tx))
    (h3 : (¬ p1 = 0) → (¬ p1 = 1) → (¬ p1 = 2) → P (some (.int (p0 - (if (p0 - (p0 / 5) * 5) < p2 then (p0 - (p0 / 5) * 5) else p2)))) (Wd f fl g gl hh v tx)) :
    WP X d 115 (0, [some (.int p0), some (.int p1), some (.int p2), none, none], [], Wd f fl g gl hh v tx) P := by
  refine WP.run hP_115 9 (c' := (10, [some (.int p0), some (.int p1), some (.int p2), some (.int (p0 - (p0 / 5) * 5)), some (.int (p0 / 5))], [.int p1], Wd f fl g gl hh v tx)) rfl ?_
  refine WP.run hP_115 1 (c' := (mm_sw p1 0 [36, 49, 59] 70, [some (.int p0), some (.int p1), some (.int p2), some (.int (p0 - (p0 / 5) * 5)), some (.int (p0 / 5))], [], Wd f fl g gl hh v tx)) rfl ?_
  refine WP.sw (lo' := 1) rfl (fun c1 => ?_) (fun c1 => ?_)
  · refine WP.run hP_115 9 (c' := (48, [some (.int p0), none, some (.int p2), none, some (.int (p0 / 5))], [.int (p0 + (5 * (if (4 - (p0 / 5)) < p2 then (4 - (p0 / 5)) else p2)))], Wd f fl g gl hh v tx)) rfl ?_
    exact WP.retI hP_115 rfl rfl (h0 c1)
  refine WP.sw (lo' := 2) rfl (fun c2 => ?_) (fun c2 => ?_)
  · refine WP.run hP_115 7 (c' := (58, [some (.int p0), none, some (.int p2), some (.int (p0 - (p0 / 5) * 5)), none], [.int (p0 + (if (4 - (p0 - (p0 / 5) * 5)) < p2 then (4 - (p0 - (p0 / 5) * 5)) else p2))], Wd f fl g gl hh v tx)) rfl ?_
    exact WP.retI hP_115 rfl rfl (h1 c1 c2)
  refine WP.sw (lo' := 3) rfl (fun c3 => ?_) (fun c3 => ?_)
  · refine WP.run hP_115 7 (c' := (69, [some (.int p0), none, some (.int p2), none, some (.int (p0 / 5))], [.int (p0 - (5 * (if (p0 / 5) < p2 then (p0 / 5) else p2)))], Wd f fl g gl hh v tx)) rfl ?_
    exact WP.retI hP_115 rfl rfl (h2 c1 c2 c3)
  show WP X _ 115 (70, [some (.int p0), some (.int p1), some (.int p2), some (.int (p0 - (p0 / 5) * 5)), some (.int (p0 / 5))], [], Wd f fl g gl hh v tx) P
  refine WP.run hP_115 5 (c' := (77, [some (.int p0), none, some (.int p2), some (.int (p0 - (p0 / 5) * 5)), none], [.int (p0 - (if (p0 - (p0 / 5) * 5) < p2 then (p0 - (p0 / 5) * 5) else p2))], Wd f fl g gl hh v tx)) rfl ?_
  exact WP.retI hP_115 rfl rfl (h3 c1 c2 c3)

set_option maxRecDepth 20000 in
theorem x_behind (X : mm_X) (d : Nat) (f : Nat → Int32) (fl : Nat → Int64) (g : Nat → Nat → Int32) (gl : Nat → Nat → Int64) (hh : Nat → Nat → Option Nat) (v : Nat → Value) (tx : mm_W) (p0 : Int32) (p1 : Int32) (p2 : Int32) (P : Option Value → mm_W → Prop)
    (h0 : (p1 = 0) → (((p0 / 10) - ((p0 / 10) / 4) * 4) = 0) → P (some (.int (p0 + (((((p0 / 40) + (5 * (if (4 - ((p0 / 40) / 5)) < p2 then (4 - ((p0 / 40) / 5)) else p2))) - (p0 / 40)) * 4) * 10)))) (Wd f fl g gl hh v tx))
    (h1 : (p1 = 0) → (¬ ((p0 / 10) - ((p0 / 10) / 4) * 4) = 0) → (((p0 / 10) - ((p0 / 10) / 4) * 4) = 1) → P (some (.int (p0 + (((((p0 / 40) + (if (4 - ((p0 / 40) - ((p0 / 40) / 5) * 5)) < p2 then (4 - ((p0 / 40) - ((p0 / 40) / 5) * 5)) else p2)) - (p0 / 40)) * 4) * 10)))) (Wd f fl g gl hh v tx))
    (h2 : (p1 = 0) → (¬ ((p0 / 10) - ((p0 / 10) / 4) * 4) = 0) → (¬ ((p0 / 10) - ((p0 / 10) / 4) * 4) = 1) → (((p0 / 10) - ((p0 / 10) / 4) * 4) = 2) → P (some (.int (p0 + (((((p0 / 40) - (5 * (if ((p0 / 40) / 5) < p2 then ((p0 / 40) / 5) else p2))) - (p0 / 40)) * 4) * 10)))) (Wd f fl g gl hh v tx))
    (h3 : (p1 = 0) → (¬ ((p0 / 10) - ((p0 / 10) / 4) * 4) = 0) → (¬ ((p0 / 10) - ((p0 / 10) / 4) * 4) = 1) → (¬ ((p0 / 10) - ((p0 / 10) / 4) * 4) = 2) → P (some (.int (p0 + (((((p0 / 40) - (if ((p0 / 40) - ((p0 / 40) / 5) * 5) < p2 then ((p0 / 40) - ((p0 / 40) / 5) * 5) else p2)) - (p0 / 40)) * 4) * 10)))) (Wd f fl g gl hh v tx))
    (h4 : (¬ p1 = 0) → (p1 = 1) → P (some (.int (p0 + ((((((p0 / 10) - ((p0 / 10) / 4) * 4) + 3) - ((((p0 / 10) - ((p0 / 10) / 4) * 4) + 3) / 4) * 4) - ((p0 / 10) - ((p0 / 10) / 4) * 4)) * 10)))) (Wd f fl g gl hh v tx))
    (h5 : (¬ p1 = 0) → (¬ p1 = 1) → (p1 = 2) → P (some (.int (p0 + ((((((p0 / 10) - ((p0 / 10) / 4) * 4) + 1) - ((((p0 / 10) - ((p0 / 10) / 4) * 4) + 1) / 4) * 4) - ((p0 / 10) - ((p0 / 10) / 4) * 4)) * 10)))) (Wd f fl g gl hh v tx))
    (h6 : (¬ p1 = 0) → (¬ p1 = 1) → (¬ p1 = 2) → (p1 = 3) → P (some (.int (p0 + ((((((p0 / 10) - ((p0 / 10) / 4) * 4) + 2) - ((((p0 / 10) - ((p0 / 10) / 4) * 4) + 2) / 4) * 4) - ((p0 / 10) - ((p0 / 10) / 4) * 4)) * 10)))) (Wd f fl g gl hh v tx))
    (h7 : (¬ p1 = 0) → (¬ p1 = 1) → (¬ p1 = 2) → (¬ p1 = 3) → (p1 = 4) → ((p0 - (p0 / 10) * 10) ≤ 0) → P (some (.int p0)) (Wd f fl g gl hh v tx))
    (h8 : (¬ p1 = 0) → (¬ p1 = 1) → (¬ p1 = 2) → (¬ p1 = 3) → (p1 = 4) → (¬ ((p0 - (p0 / 10) * 10) ≤ 0)) → P (some (.int (p0 - 1))) (Wd f fl g gl hh v tx))
    (h9 : (¬ p1 = 0) → (¬ p1 = 1) → (¬ p1 = 2) → (¬ p1 = 3) → (¬ p1 = 4) → P (some (.int p0)) (Wd f fl g gl hh v tx)) :
    WP X (d + 1) 114 (0, [some (.int p0), some (.int p1), some (.int p2), none], [], Wd f fl g gl hh v tx) P := by
  refine WP.run hP_114 1 (c' := (1, [some (.int p0), some (.int p1), some (.int p2), none], [.int p0], Wd f fl g gl hh v tx)) rfl ?_
  refine WP.call hP_114 hP_111 (as := [.int p0]) (pc' := 4) (L' := [some (.int p0), some (.int p1), some (.int p2), none]) (st' := []) (w1 := Wd f fl g gl hh v tx) rfl ⟨Nat.le_of_ble_eq_true rfl, Nat.le_of_ble_eq_true rfl⟩ rfl (x_facesOf X (d) f fl g gl hh v tx p0 _  ?_)
  · refine WP.run hP_114 2 (c' := (6, [some (.int p0), some (.int p1), some (.int p2), some (.int ((p0 / 10) - ((p0 / 10) / 4) * 4))], [.int p1], Wd f fl g gl hh v tx)) rfl ?_
    refine WP.run hP_114 1 (c' := (mm_sw p1 0 [40, 62, 75, 88, 101] 116, [some (.int p0), some (.int p1), some (.int p2), some (.int ((p0 / 10) - ((p0 / 10) / 4) * 4))], [], Wd f fl g gl hh v tx)) rfl ?_
    refine WP.sw (lo' := 1) rfl (fun c1 => ?_) (fun c1 => ?_)
    · refine WP.run hP_114 2 (c' := (42, [some (.int p0), none, some (.int p2), some (.int ((p0 / 10) - ((p0 / 10) / 4) * 4))], [.int p0, .int p0], Wd f fl g gl hh v tx)) rfl ?_
      refine WP.call hP_114 hP_110 (as := [.int p0]) (pc' := 45) (L' := [some (.int p0), none, some (.int p2), some (.int ((p0 / 10) - ((p0 / 10) / 4) * 4))]) (st' := [.int p0]) (w1 := Wd f fl g gl hh v tx) rfl ⟨Nat.le_of_ble_eq_true rfl, Nat.le_of_ble_eq_true rfl⟩ rfl (x_cellOf X (d) f fl g gl hh v tx p0 _  ?_)
      · refine WP.run hP_114 2 (c' := (47, [some (.int p0), none, some (.int p2), some (.int ((p0 / 10) - ((p0 / 10) / 4) * 4))], [.int p2, .int ((p0 / 10) - ((p0 / 10) / 4) * 4), .int (p0 / 40), .int p0], Wd f fl g gl hh v tx)) rfl ?_
        refine WP.call hP_114 hP_115 (as := [.int (p0 / 40), .int ((p0 / 10) - ((p0 / 10) / 4) * 4), .int p2]) (pc' := 50) (L' := [some (.int p0), none, some (.int p2), some (.int ((p0 / 10) - ((p0 / 10) / 4) * 4))]) (st' := [.int p0]) (w1 := Wd f fl g gl hh v tx) rfl ⟨Nat.le_of_ble_eq_true rfl, Nat.le_of_ble_eq_true rfl⟩ rfl (x_ahead X (d) f fl g gl hh v tx (p0 / 40) ((p0 / 10) - ((p0 / 10) / 4) * 4) p2 _  (fun c2 => ?_) (fun c3 c4 => ?_) (fun c5 c6 c7 => ?_) (fun c8 c9 c10 => ?_))
        · refine WP.run hP_114 1 (c' := (51, [some (.int p0), none, some (.int p2), some (.int ((p0 / 10) - ((p0 / 10) / 4) * 4))], [.int p0, .int ((p0 / 40) + (5 * (if (4 - ((p0 / 40) / 5)) < p2 then (4 - ((p0 / 40) / 5)) else p2))), .int p0], Wd f fl g gl hh v tx)) rfl ?_
          refine WP.call hP_114 hP_110 (as := [.int p0]) (pc' := 54) (L' := [some (.int p0), none, some (.int p2), some (.int ((p0 / 10) - ((p0 / 10) / 4) * 4))]) (st' := [.int ((p0 / 40) + (5 * (if (4 - ((p0 / 40) / 5)) < p2 then (4 - ((p0 / 40) / 5)) else p2))), .int p0]) (w1 := Wd f fl g gl hh v tx) rfl ⟨Nat.le_of_ble_eq_true rfl, Nat.le_of_ble_eq_true rfl⟩ rfl (x_cellOf X (d) f fl g gl hh v tx p0 _  ?_)
          · refine WP.run hP_114 6 (c' := (61, [some (.int p0), none, some (.int p2), some (.int ((p0 / 10) - ((p0 / 10) / 4) * 4))], [.int (p0 + (((((p0 / 40) + (5 * (if (4 - ((p0 / 40) / 5)) < p2 then (4 - ((p0 / 40) / 5)) else p2))) - (p0 / 40)) * 4) * 10))], Wd f fl g gl hh v tx)) rfl ?_
            exact WP.retI hP_114 rfl rfl (h0 c1 c2)
        · refine WP.run hP_114 1 (c' := (51, [some (.int p0), none, some (.int p2), some (.int ((p0 / 10) - ((p0 / 10) / 4) * 4))], [.int p0, .int ((p0 / 40) + (if (4 - ((p0 / 40) - ((p0 / 40) / 5) * 5)) < p2 then (4 - ((p0 / 40) - ((p0 / 40) / 5) * 5)) else p2)), .int p0], Wd f fl g gl hh v tx)) rfl ?_
          refine WP.call hP_114 hP_110 (as := [.int p0]) (pc' := 54) (L' := [some (.int p0), none, some (.int p2), some (.int ((p0 / 10) - ((p0 / 10) / 4) * 4))]) (st' := [.int ((p0 / 40) + (if (4 - ((p0 / 40) - ((p0 / 40) / 5) * 5)) < p2 then (4 - ((p0 / 40) - ((p0 / 40) / 5) * 5)) else p2)), .int p0]) (w1 := Wd f fl g gl hh v tx) rfl ⟨Nat.le_of_ble_eq_true rfl, Nat.le_of_ble_eq_true rfl⟩ rfl (x_cellOf X (d) f fl g gl hh v tx p0 _  ?_)
          · refine WP.run hP_114 6 (c' := (61, [some (.int p0), none, some (.int p2), some (.int ((p0 / 10) - ((p0 / 10) / 4) * 4))], [.int (p0 + (((((p0 / 40) + (if (4 - ((p0 / 40) - ((p0 / 40) / 5) * 5)) < p2 then (4 - ((p0 / 40) - ((p0 / 40) / 5) * 5)) else p2)) - (p0 / 40)) * 4) * 10))], Wd f fl g gl hh v tx)) rfl ?_
            exact WP.retI hP_114 rfl rfl (h1 c1 c3 c4)
        · refine WP.run hP_114 1 (c' := (51, [some (.int p0), none, some (.int p2), some (.int ((p0 / 10) - ((p0 / 10) / 4) * 4))], [.int p0, .int ((p0 / 40) - (5 * (if ((p0 / 40) / 5) < p2 then ((p0 / 40) / 5) else p2))), .int p0], Wd f fl g gl hh v tx)) rfl ?_
          refine WP.call hP_114 hP_110 (as := [.int p0]) (pc' := 54) (L' := [some (.int p0), none, some (.int p2), some (.int ((p0 / 10) - ((p0 / 10) / 4) * 4))]) (st' := [.int ((p0 / 40) - (5 * (if ((p0 / 40) / 5) < p2 then ((p0 / 40) / 5) else p2))), .int p0]) (w1 := Wd f fl g gl hh v tx) rfl ⟨Nat.le_of_ble_eq_true rfl, Nat.le_of_ble_eq_true rfl⟩ rfl (x_cellOf X (d) f fl g gl hh v tx p0 _  ?_)
          · refine WP.run hP_114 6 (c' := (61, [some (.int p0), none, some (.int p2), some (.int ((p0 / 10) - ((p0 / 10) / 4) * 4))], [.int (p0 + (((((p0 / 40) - (5 * (if ((p0 / 40) / 5) < p2 then ((p0 / 40) / 5) else p2))) - (p0 / 40)) * 4) * 10))], Wd f fl g gl hh v tx)) rfl ?_
            exact WP.retI hP_114 rfl rfl (h2 c1 c5 c6 c7)
        · refine WP.run hP_114 1 (c' := (51, [some (.int p0), none, some (.int p2), some (.int ((p0 / 10) - ((p0 / 10) / 4) * 4))], [.int p0, .int ((p0 / 40) - (if ((p0 / 40) - ((p0 / 40) / 5) * 5) < p2 then ((p0 / 40) - ((p0 / 40) / 5) * 5) else p2)), .int p0], Wd f fl g gl hh v tx)) rfl ?_
          refine WP.call hP_114 hP_110 (as := [.int p0]) (pc' := 54) (L' := [some (.int p0), none, some (.int p2), some (.int ((p0 / 10) - ((p0 / 10) / 4) * 4))]) (st' := [.int ((p0 / 40) - (if ((p0 / 40) - ((p0 / 40) / 5) * 5) < p2 then ((p0 / 40) - ((p0 / 40) / 5) * 5) else p2)), .int p0]) (w1 := Wd f fl g gl hh v tx) rfl ⟨Nat.le_of_ble_eq_true rfl, Nat.le_of_ble_eq_true rfl⟩ rfl (x_cellOf X (d) f fl g gl hh v tx p0 _  ?_)
          · refine WP.run hP_114 6 (c' := (61, [some (.int p0), none, some (.int p2), some (.int ((p0 / 10) - ((p0 / 10) / 4) * 4))], [.int (p0 + (((((p0 / 40) - (if ((p0 / 40) - ((p0 / 40) / 5) * 5) < p2 then ((p0 / 40) - ((p0 / 40) / 5) * 5) else p2)) - (p0 / 40)) * 4) * 10))], Wd f fl g gl hh v tx)) rfl ?_
            exact WP.retI hP_114 rfl rfl (h3 c1 c8 c9 c10)
    refine WP.sw (lo' := 2) rfl (fun c11 => ?_) (fun c11 => ?_)
    · refine WP.run hP_114 11 (c' := (74, [some (.int p0), none, none, some (.int ((p0 / 10) - ((p0 / 10) / 4) * 4))], [.int (p0 + ((((((p0 / 10) - ((p0 / 10) / 4) * 4) + 3) - ((((p0 / 10) - ((p0 / 10) / 4) * 4) + 3) / 4) * 4) - ((p0 / 10) - ((p0 / 10) / 4) * 4)) * 10))], Wd f fl g gl hh v tx)) rfl ?_
      exact WP.retI hP_114 rfl rfl (h4 c1 c11)
    refine WP.sw (lo' := 3) rfl (fun c12 => ?_) (fun c12 => ?_)
    · refine WP.run hP_114 11 (c' := (87, [some (.int p0), none, none, some (.int ((p0 / 10) - ((p0 / 10) / 4) * 4))], [.int (p0 + ((((((p0 / 10) - ((p0 / 10) / 4) * 4) + 1) - ((((p0 / 10) - ((p0 / 10) / 4) * 4) + 1) / 4) * 4) - ((p0 / 10) - ((p0 / 10) / 4) * 4)) * 10))], Wd f fl g gl hh v tx)) rfl ?_
      exact WP.retI hP_114 rfl rfl (h5 c1 c11 c12)
    refine WP.sw (lo' := 4) rfl (fun c13 => ?_) (fun c13 => ?_)
    · refine WP.run hP_114 11 (c' := (100, [some (.int p0), none, none, some (.int ((p0 / 10) - ((p0 / 10) / 4) * 4))], [.int (p0 + ((((((p0 / 10) - ((p0 / 10) / 4) * 4) + 2) - ((((p0 / 10) - ((p0 / 10) / 4) * 4) + 2) / 4) * 4) - ((p0 / 10) - ((p0 / 10) / 4) * 4)) * 10))], Wd f fl g gl hh v tx)) rfl ?_
      exact WP.retI hP_114 rfl rfl (h6 c1 c11 c12 c13)
    refine WP.sw (lo' := 5) rfl (fun c14 => ?_) (fun c14 => ?_)
    · refine WP.run hP_114 1 (c' := (102, [some (.int p0), none, none, none], [.int p0], Wd f fl g gl hh v tx)) rfl ?_
      refine WP.call hP_114 hP_112 (as := [.int p0]) (pc' := 105) (L' := [some (.int p0), none, none, none]) (st' := []) (w1 := Wd f fl g gl hh v tx) rfl ⟨Nat.le_of_ble_eq_true rfl, Nat.le_of_ble_eq_true rfl⟩ rfl (x_powderOf X (d) f fl g gl hh v tx p0 _  ?_)
      · refine WP.br hP_114 (q := (p0 - (p0 / 10) * 10) ≤ 0) (t := 114) (f := 108) (L := [some (.int p0), none, none, none]) (st := []) (w := Wd f fl g gl hh v tx) rfl (fun c15 => ?_) (fun c15 => ?_)
        · refine WP.run hP_114 1 (c' := (115, [some (.int p0), none, none, none], [.int p0], Wd f fl g gl hh v tx)) rfl ?_
          exact WP.retI hP_114 rfl rfl (h7 c1 c11 c12 c13 c14 c15)
        · refine WP.run hP_114 4 (c' := (115, [some (.int p0), none, none, none], [.int (p0 - 1)], Wd f fl g gl hh v tx)) rfl ?_
          exact WP.retI hP_114 rfl rfl (h8 c1 c11 c12 c13 c14 c15)
    show WP X _ 114 (116, [some (.int p0), some (.int p1), some (.int p2), some (.int ((p0 / 10) - ((p0 / 10) / 4) * 4))], [], Wd f fl g gl hh v tx) P
    refine WP.run hP_114 1 (c' := (117, [some (.int p0), none, none, none], [.int p0], Wd f fl g gl hh v tx)) rfl ?_
    exact WP.retI hP_114 rfl rfl (h9 c1 c11 c12 c13 c14)

set_option maxRecDepth 20000 in
theorem yco_arrive_45 (X : mm_X) (d : Nat) (f : Nat → Int32) (fl : Nat → Int64) (g : Nat → Nat → Int32) (gl : Nat → Nat → Int64) (hh : Nat → Nat → Option Nat) (v : Nat → Value) (tx : mm_W) (p0 : Int32) (p1 : Int32) (P : Option Value → mm_W → Prop)
    (i0 : ¬ (p0 < 0 ∨ 1000 ≤ p0.toNatClampNeg))
    (i1 : (¬ (¬ ((g 46) p0.toNatClampNeg) = (-1))) → (¬ (1000 ≤ (f 2882))) → ¬ (p0 < 0 ∨ 1000 ≤ p0.toNatClampNeg))
    (i2 : (¬ (¬ ((g 46) p0.toNatClampNeg) = (-1))) → (¬ (1000 ≤ (f 2882))) → ¬ ((f 2882) < 0 ∨ 1000 ≤ (f 2882).toNatClampNeg))
    (h0 : (¬ ((g 46) p0.toNatClampNeg) = (-1)) → P (some (.int (p0 / 40))) (Wd f fl g gl hh v tx))
    (h1 : (¬ (¬ ((g 46) p0.toNatClampNeg) = (-1))) → (1000 ≤ (f 2882)) → P (some (.int (p0 / 40))) (Wd f fl g gl hh v tx))
    (h2 : (¬ (¬ ((g 46) p0.toNatClampNeg) = (-1))) → (¬ (1000 ≤ (f 2882))) → P (some (.int (p0 / 40))) (Wd (va_up f 2882 ((f 2882) + 1)) fl (va_up (va_up g 46 (upd (g 46) p0.toNatClampNeg p1)) 47 (upd (g 47) (f 2882).toNatClampNeg p0)) gl hh v tx)) :
    WP X (d + 1) 23 (0, [some (.ref 45), some (.int p0), some (.int p1)], [], Wd f fl g gl hh v tx) P := by
  refine WP.run hP_23 3 (c' := (5, [some (.ref 45), some (.int p0), some (.int p1)], [.int p0, .ref 46], Wd f fl g gl hh v tx)) rfl ?_
  refine WP.of (fun _ _ => Ex.iald hP_23 rfl (Wa_46 _ _ _ _ _ _ _) i0) ?_
  refine WP.run hP_23 1 (c' := (7, [some (.ref 45), some (.int p0), some (.int p1)], [.int (-1), .int ((g 46) p0.toNatClampNeg)], Wd f fl g gl hh v tx)) rfl ?_
  refine WP.br hP_23 (q := ¬ ((g 46) p0.toNatClampNeg) = (-1)) (t := 47) (f := 10) (L := [some (.ref 45), some (.int p0), some (.int p1)]) (st := []) (w := Wd f fl g gl hh v tx) rfl (fun c1 => ?_) (fun c1 => ?_)
  · refine WP.run hP_23 1 (c' := (48, [none, some (.int p0), none], [.int p0], Wd f fl g gl hh v tx)) rfl ?_
    refine WP.call hP_23 hP_110 (as := [.int p0]) (pc' := 51) (L' := [none, some (.int p0), none]) (st' := []) (w1 := Wd f fl g gl hh v tx) rfl ⟨Nat.le_of_ble_eq_true rfl, Nat.le_of_ble_eq_true rfl⟩ rfl (x_cellOf X (d) f fl g gl hh v tx p0 _  ?_)
    · exact WP.retI hP_23 rfl rfl (h0 c1)
  · refine WP.run hP_23 3 (c' := (17, [some (.ref 45), some (.int p0), some (.int p1)], [.int 1000, .int (f 2882)], Wd f fl g gl hh v tx)) rfl ?_
    refine WP.br hP_23 (q := 1000 ≤ (f 2882)) (t := 47) (f := 20) (L := [some (.ref 45), some (.int p0), some (.int p1)]) (st := []) (w := Wd f fl g gl hh v tx) rfl (fun c2 => ?_) (fun c2 => ?_)
    · refine WP.run hP_23 1 (c' := (48, [none, some (.int p0), none], [.int p0], Wd f fl g gl hh v tx)) rfl ?_
      refine WP.call hP_23 hP_110 (as := [.int p0]) (pc' := 51) (L' := [none, some (.int p0), none]) (st' := []) (w1 := Wd f fl g gl hh v tx) rfl ⟨Nat.le_of_ble_eq_true rfl, Nat.le_of_ble_eq_true rfl⟩ rfl (x_cellOf X (d) f fl g gl hh v tx p0 _  ?_)
      · exact WP.retI hP_23 rfl rfl (h1 c1 c2)
    · refine WP.run hP_23 4 (c' := (26, [some (.ref 45), some (.int p0), some (.int p1)], [.int p1, .int p0, .ref 46], Wd f fl g gl hh v tx)) rfl ?_
      refine WP.of (fun _ _ => Ex.iast hP_23 (w2 := Wd f fl (va_up g 46 (upd (g 46) p0.toNatClampNeg p1)) gl hh v tx) rfl (Wa_46 _ _ _ _ _ _ _) (i1 c1 c2) (Ws_46 _ _ _ _ _ _ _ _)) ?_
      refine WP.run hP_23 5 (c' := (36, [some (.ref 45), some (.int p0), some (.int p1)], [.int p0, .int (f 2882), .ref 47], Wd f fl (va_up g 46 (upd (g 46) p0.toNatClampNeg p1)) gl hh v tx)) rfl ?_
      refine WP.of (fun _ _ => Ex.iast hP_23 (w2 := Wd f fl (va_up (va_up g 46 (upd (g 46) p0.toNatClampNeg p1)) 47 (upd (g 47) (f 2882).toNatClampNeg p0)) gl hh v tx) rfl (Wa_47 _ _ _ _ _ _ _) (i2 c1 c2) (Ws_47 _ _ _ _ _ _ _ _)) ?_
      refine WP.run hP_23 7 (c' := (48, [none, some (.int p0), none], [.int p0], Wd (va_up f 2882 ((f 2882) + 1)) fl (va_up (va_up g 46 (upd (g 46) p0.toNatClampNeg p1)) 47 (upd (g 47) (f 2882).toNatClampNeg p0)) gl hh v tx)) rfl ?_
      refine WP.call hP_23 hP_110 (as := [.int p0]) (pc' := 51) (L' := [none, some (.int p0), none]) (st' := []) (w1 := Wd (va_up f 2882 ((f 2882) + 1)) fl (va_up (va_up g 46 (upd (g 46) p0.toNatClampNeg p1)) 47 (upd (g 47) (f 2882).toNatClampNeg p0)) gl hh v tx) rfl ⟨Nat.le_of_ble_eq_true rfl, Nat.le_of_ble_eq_true rfl⟩ rfl (x_cellOf X (d) (va_up f 2882 ((f 2882) + 1)) fl (va_up (va_up g 46 (upd (g 46) p0.toNatClampNeg p1)) 47 (upd (g 47) (f 2882).toNatClampNeg p0)) gl hh v tx p0 _  ?_)
      · exact WP.retI hP_23 rfl rfl (h2 c1 c2)

set_option maxRecDepth 20000 in
theorem yre_fail_31 (X : mm_X) (d : Nat) (f : Nat → Int32) (fl : Nat → Int64) (g : Nat → Nat → Int32) (gl : Nat → Nat → Int64) (hh : Nat → Nat → Option Nat) (v : Nat → Value) (tx : mm_W)  (P : Option Value → mm_W → Prop)
    (h0 : P (some (.int 0)) (Wd (va_up f 1985 (f 1991)) fl g gl hh v tx)) :
    WP X d 40 (0, [some (.ref 31)], [], Wd f fl g gl hh v tx) P := by
  refine WP.run hP_40 5 (c' := (9, [some (.ref 31)], [.int 0], Wd (va_up f 1985 (f 1991)) fl g gl hh v tx)) rfl ?_
  exact WP.ret hP_40 (r := some (.int 0)) (w' := Wd (va_up f 1985 (f 1991)) fl g gl hh v tx) rfl h0

set_option maxRecDepth 20000 in
theorem yre_emit_31 (X : mm_X) (d : Nat) (f : Nat → Int32) (fl : Nat → Int64) (g : Nat → Nat → Int32) (gl : Nat → Nat → Int64) (hh : Nat → Nat → Option Nat) (v : Nat → Value) (tx : mm_W) (p0 : Int32) (p1 : Int32) (P : Option Value → mm_W → Prop)
    (i0 : (¬ (400 ≤ (f 2049))) → ¬ ((f 2049) < 0 ∨ 400 ≤ (f 2049).toNatClampNeg))
    (h0 : (400 ≤ (f 2049)) → P (none) (Wd f fl g gl hh v tx))
    (h1 : (¬ (400 ≤ (f 2049))) → P (none) (Wd (va_up f 2049 ((f 2049) + 1)) fl (va_up g 34 (upd (g 34) (f 2049).toNatClampNeg ((p0 <<< (12 &&& 31)) ||| p1))) gl hh v tx)) :
    WP X d 41 (0, [some (.ref 31), some (.int p0), some (.int p1)], [], Wd f fl g gl hh v tx) P := by
  refine WP.run hP_41 7 (c' := (15, [some (.ref 31), some (.int p0), some (.int p1)], [.int 400, .int (f 2049)], Wd f fl g gl hh v tx)) rfl ?_
  refine WP.br hP_41 (q := 400 ≤ (f 2049)) (t := 52) (f := 18) (L := [some (.ref 31), some (.int p0), some (.int p1)]) (st := []) (w := Wd f fl g gl hh v tx) rfl (fun c1 => ?_) (fun c1 => ?_)
  · exact WP.ret hP_41 (r := none) (w' := Wd f fl g gl hh v tx) rfl (h0 c1)
  · refine WP.run hP_41 11 (c' := (38, [some (.ref 31), some (.int p0), some (.int p1)], [.int ((p0 <<< (12 &&& 31)) ||| p1), .int (f 2049), .ref 34], Wd f fl g gl hh v tx)) rfl ?_
    refine WP.of (fun _ _ => Ex.iast hP_41 (w2 := Wd f fl (va_up g 34 (upd (g 34) (f 2049).toNatClampNeg ((p0 <<< (12 &&& 31)) ||| p1))) gl hh v tx) rfl (Wa_34 _ _ _ _ _ _ _) (i0 c1) (Ws_34 _ _ _ _ _ _ _ _)) ?_
    refine WP.run hP_41 7 (c' := (52, [some (.ref 31), some (.int p0), some (.int p1)], [], Wd (va_up f 2049 ((f 2049) + 1)) fl (va_up g 34 (upd (g 34) (f 2049).toNatClampNeg ((p0 <<< (12 &&& 31)) ||| p1))) gl hh v tx)) rfl ?_
    exact WP.ret hP_41 (r := none) (w' := Wd (va_up f 2049 ((f 2049) + 1)) fl (va_up g 34 (upd (g 34) (f 2049).toNatClampNeg ((p0 <<< (12 &&& 31)) ||| p1))) gl hh v tx) rfl (h1 c1)

set_option maxRecDepth 20000 in
theorem yst_add_1 (X : mm_X) (d : Nat) (f : Nat → Int32) (fl : Nat → Int64) (g : Nat → Nat → Int32) (gl : Nat → Nat → Int64) (hh : Nat → Nat → Option Nat) (v : Nat → Value) (tx : mm_W) (p0 : Int32) (P : Option Value → mm_W → Prop)
    (h0 : P (none) (Wd (va_up (va_up f 71 (((f 71) <<< (2 &&& 31)) ||| p0)) 70 ((f 70) + 1)) fl g gl hh v tx)) :
    WP X d 49 (0, [some (.ref 1), some (.int p0)], [], Wd f fl g gl hh v tx) P := by
  refine WP.run hP_49 14 (c' := (22, [some (.ref 1), some (.int p0)], [], Wd (va_up (va_up f 71 (((f 71) <<< (2 &&& 31)) ||| p0)) 70 ((f 70) + 1)) fl g gl hh v tx)) rfl ?_
  exact WP.ret hP_49 (r := none) (w' := Wd (va_up (va_up f 71 (((f 71) <<< (2 &&& 31)) ||| p0)) 70 ((f 70) + 1)) fl g gl hh v tx) rfl h0

set_option maxRecDepth 20000 in
theorem yst_dropLast_1 (X : mm_X) (d : Nat) (f : Nat → Int32) (fl : Nat → Int64) (g : Nat → Nat → Int32) (gl : Nat → Nat → Int64) (hh : Nat → Nat → Option Nat) (v : Nat → Value) (tx : mm_W)  (P : Option Value → mm_W → Prop)
    (h0 : P (none) (Wd (va_up (va_up f 71 ((f 71) >>> (2 &&& 31))) 70 ((f 70) - 1)) fl g gl hh v tx)) :
    WP X d 50 (0, [some (.ref 1)], [], Wd f fl g gl hh v tx) P := by
  refine WP.run hP_50 12 (c' := (20, [some (.ref 1)], [], Wd (va_up (va_up f 71 ((f 71) >>> (2 &&& 31))) 70 ((f 70) - 1)) fl g gl hh v tx)) rfl ?_
  exact WP.ret hP_50 (r := none) (w' := Wd (va_up (va_up f 71 ((f 71) >>> (2 &&& 31))) 70 ((f 70) - 1)) fl g gl hh v tx) rfl h0

set_option maxRecDepth 20000 in
theorem yst_unwind_1 (X : mm_X) (d : Nat) (f : Nat → Int32) (fl : Nat → Int64) (g : Nat → Nat → Int32) (gl : Nat → Nat → Int64) (hh : Nat → Nat → Option Nat) (v : Nat → Value) (tx : mm_W)  (P : Option Value → mm_W → Prop)
    (i0 : (0 < (f 78)) → ¬ (((f 78) - 1) < 0 ∨ 16 ≤ ((f 78) - 1).toNatClampNeg))
    (i1 : (0 < (f 78)) → ¬ (((f 78) - 1) < 0 ∨ 16 ≤ ((f 78) - 1).toNatClampNeg))
    (i2 : (0 < (f 78)) → (¬ (((g 9) ((f 78) - 1).toNatClampNeg) &&& 3) = 0) → (¬ (((g 9) ((f 78) - 1).toNatClampNeg) &&& 3) = 1) → ((((g 9) ((f 78) - 1).toNatClampNeg) &&& 3) = 2) → (¬ (((((g 9) ((f 78) - 1).toNatClampNeg) >>> (2 &&& 31)) &&& 3) < 0)) → (¬ ((f 68) ≤ ((((g 9) ((f 78) - 1).toNatClampNeg) >>> (2 &&& 31)) &&& 3))) → ¬ (((((g 9) ((f 78) - 1).toNatClampNeg) >>> (2 &&& 31)) &&& 3) < 0 ∨ 3 ≤ ((((g 9) ((f 78) - 1).toNatClampNeg) >>> (2 &&& 31)) &&& 3).toNatClampNeg))
    (h0 : (0 < (f 78)) → ((((g 9) ((f 78) - 1).toNatClampNeg) &&& 3) = 0) → P (some (.int (((g 9) ((f 78) - 1).toNatClampNeg) &&& 3))) (Wd (va_up (va_up (va_up f 78 ((f 78) - 1)) 71 (((va_up f 78 ((f 78) - 1)) 71) >>> (2 &&& 31))) 70 (((va_up f 78 ((f 78) - 1)) 70) - 1)) fl g gl hh v tx))
    (h1 : (0 < (f 78)) → (¬ (((g 9) ((f 78) - 1).toNatClampNeg) &&& 3) = 0) → ((((g 9) ((f 78) - 1).toNatClampNeg) &&& 3) = 1) → P (some (.int (((g 9) ((f 78) - 1).toNatClampNeg) &&& 3))) (Wd (va_up (va_up (va_up f 78 ((f 78) - 1)) 71 ((((va_up f 78 ((f 78) - 1)) 71) <<< (2 &&& 31)) ||| (((g 9) ((f 78) - 1).toNatClampNeg) >>> (2 &&& 31)))) 70 (((va_up f 78 ((f 78) - 1)) 70) + 1)) fl g gl hh v tx))
    (h2 : (0 < (f 78)) → (¬ (((g 9) ((f 78) - 1).toNatClampNeg) &&& 3) = 0) → (¬ (((g 9) ((f 78) - 1).toNatClampNeg) &&& 3) = 1) → ((((g 9) ((f 78) - 1).toNatClampNeg) &&& 3) = 2) → (((((g 9) ((f 78) - 1).toNatClampNeg) >>> (2 &&& 31)) &&& 3) < 0) → P (some (.int (((g 9) ((f 78) - 1).toNatClampNeg) &&& 3))) (Wd (va_up f 78 ((f 78) - 1)) fl g gl hh v tx))
    (h3 : (0 < (f 78)) → (¬ (((g 9) ((f 78) - 1).toNatClampNeg) &&& 3) = 0) → (¬ (((g 9) ((f 78) - 1).toNatClampNeg) &&& 3) = 1) → ((((g 9) ((f 78) - 1).toNatClampNeg) &&& 3) = 2) → (¬ (((((g 9) ((f 78) - 1).toNatClampNeg) >>> (2 &&& 31)) &&& 3) < 0)) → ((f 68) ≤ ((((g 9) ((f 78) - 1).toNatClampNeg) >>> (2 &&& 31)) &&& 3)) → P (some (.int (((g 9) ((f 78) - 1).toNatClampNeg) &&& 3))) (Wd (va_up f 78 ((f 78) - 1)) fl g gl hh v tx))
    (h4 : (0 < (f 78)) → (¬ (((g 9) ((f 78) - 1).toNatClampNeg) &&& 3) = 0) → (¬ (((g 9) ((f 78) - 1).toNatClampNeg) &&& 3) = 1) → ((((g 9) ((f 78) - 1).toNatClampNeg) &&& 3) = 2) → (¬ (((((g 9) ((f 78) - 1).toNatClampNeg) >>> (2 &&& 31)) &&& 3) < 0)) → (¬ ((f 68) ≤ ((((g 9) ((f 78) - 1).toNatClampNeg) >>> (2 &&& 31)) &&& 3))) → P (some (.int (((g 9) ((f 78) - 1).toNatClampNeg) &&& 3))) (Wd (va_up f 78 ((f 78) - 1)) fl (va_up g 5 (upd (g 5) ((((g 9) ((f 78) - 1).toNatClampNeg) >>> (2 &&& 31)) &&& 3).toNatClampNeg ((((g 9) ((f 78) - 1).toNatClampNeg) >>> (2 &&& 31)) >>> (2 &&& 31)))) gl hh v tx))
    (h5 : (0 < (f 78)) → (¬ (((g 9) ((f 78) - 1).toNatClampNeg) &&& 3) = 0) → (¬ (((g 9) ((f 78) - 1).toNatClampNeg) &&& 3) = 1) → (¬ (((g 9) ((f 78) - 1).toNatClampNeg) &&& 3) = 2) → P (some (.int (((g 9) ((f 78) - 1).toNatClampNeg) &&& 3))) (Wd (va_up f 78 ((f 78) - 1)) fl (va_up g 8 (upd (g 8) 0 (((g 8) 0) - 1))) gl hh v tx))
    (h6 : (¬ (0 < (f 78))) → P (some (.int (-3))) (Wd f fl g gl hh v tx)) :
    WP X (d + 1) 52 (0, [some (.ref 1), none, none], [], Wd f fl g gl hh v tx) P := by
  refine WP.run hP_52 2 (c' := (4, [some (.ref 1), none, none], [.int (f 78)], Wd f fl g gl hh v tx)) rfl ?_
  refine WP.br hP_52 (q := 0 < (f 78)) (t := 10) (f := 7) (L := [some (.ref 1), none, none]) (st := []) (w := Wd f fl g gl hh v tx) rfl (fun c1 => ?_) (fun c1 => ?_)
  · refine WP.run hP_52 10 (c' := (28, [some (.ref 1), none, none], [.int ((f 78) - 1), .ref 9], Wd (va_up f 78 ((f 78) - 1)) fl g gl hh v tx)) rfl ?_
    refine WP.of (fun _ _ => Ex.iald hP_52 rfl (Wa_9 _ _ _ _ _ _ _) (i0 c1)) ?_
    refine WP.run hP_52 7 (c' := (40, [some (.ref 1), some (.int (((g 9) ((f 78) - 1).toNatClampNeg) &&& 3)), none], [.int ((f 78) - 1), .ref 9], Wd (va_up f 78 ((f 78) - 1)) fl g gl hh v tx)) rfl ?_
    refine WP.of (fun _ _ => Ex.iald hP_52 rfl (Wa_9 _ _ _ _ _ _ _) (i1 c1)) ?_
    refine WP.run hP_52 4 (c' := (45, [some (.ref 1), some (.int (((g 9) ((f 78) - 1).toNatClampNeg) &&& 3)), some (.int (((g 9) ((f 78) - 1).toNatClampNeg) >>> (2 &&& 31)))], [.int (((g 9) ((f 78) - 1).toNatClampNeg) &&& 3)], Wd (va_up f 78 ((f 78) - 1)) fl g gl hh v tx)) rfl ?_
    refine WP.run hP_52 1 (c' := (mm_sw (((g 9) ((f 78) - 1).toNatClampNeg) &&& 3) 0 [72, 79, 87] 114, [some (.ref 1), some (.int (((g 9) ((f 78) - 1).toNatClampNeg) &&& 3)), some (.int (((g 9) ((f 78) - 1).toNatClampNeg) >>> (2 &&& 31)))], [], Wd (va_up f 78 ((f 78) - 1)) fl g gl hh v tx)) rfl ?_
    refine WP.sw (lo' := 1) rfl (fun c2 => ?_) (fun c2 => ?_)
    · refine WP.run hP_52 1 (c' := (73, [some (.ref 1), some (.int (((g 9) ((f 78) - 1).toNatClampNeg) &&& 3)), none], [.ref 1], Wd (va_up f 78 ((f 78) - 1)) fl g gl hh v tx)) rfl ?_
      refine WP.call hP_52 hP_50 (as := [.ref 1]) (pc' := 76) (L' := [some (.ref 1), some (.int (((g 9) ((f 78) - 1).toNatClampNeg) &&& 3)), none]) (st' := []) (w1 := Wd (va_up f 78 ((f 78) - 1)) fl g gl hh v tx) rfl ⟨Nat.le_of_ble_eq_true rfl, Nat.le_of_ble_eq_true rfl⟩ rfl (yst_dropLast_1 X (d) (va_up f 78 ((f 78) - 1)) fl g gl hh v tx  _  ?_)
      · refine WP.run hP_52 2 (c' := (125, [none, some (.int (((g 9) ((f 78) - 1).toNatClampNeg) &&& 3)), none], [.int (((g 9) ((f 78) - 1).toNatClampNeg) &&& 3)], Wd (va_up (va_up (va_up f 78 ((f 78) - 1)) 71 (((va_up f 78 ((f 78) - 1)) 71) >>> (2 &&& 31))) 70 (((va_up f 78 ((f 78) - 1)) 70) - 1)) fl g gl hh v tx)) rfl ?_
        exact WP.retI hP_52 rfl rfl (h0 c1 c2)
    refine WP.sw (lo' := 2) rfl (fun c3 => ?_) (fun c3 => ?_)
    · refine WP.run hP_52 2 (c' := (81, [some (.ref 1), some (.int (((g 9) ((f 78) - 1).toNatClampNeg) &&& 3)), some (.int (((g 9) ((f 78) - 1).toNatClampNeg) >>> (2 &&& 31)))], [.int (((g 9) ((f 78) - 1).toNatClampNeg) >>> (2 &&& 31)), .ref 1], Wd (va_up f 78 ((f 78) - 1)) fl g gl hh v tx)) rfl ?_
      refine WP.call hP_52 hP_49 (as := [.ref 1, .int (((g 9) ((f 78) - 1).toNatClampNeg) >>> (2 &&& 31))]) (pc' := 84) (L' := [some (.ref 1), some (.int (((g 9) ((f 78) - 1).toNatClampNeg) &&& 3)), some (.int (((g 9) ((f 78) - 1).toNatClampNeg) >>> (2 &&& 31)))]) (st' := []) (w1 := Wd (va_up f 78 ((f 78) - 1)) fl g gl hh v tx) rfl ⟨Nat.le_of_ble_eq_true rfl, Nat.le_of_ble_eq_true rfl⟩ rfl (yst_add_1 X (d) (va_up f 78 ((f 78) - 1)) fl g gl hh v tx (((g 9) ((f 78) - 1).toNatClampNeg) >>> (2 &&& 31)) _  ?_)
      · refine WP.run hP_52 2 (c' := (125, [none, some (.int (((g 9) ((f 78) - 1).toNatClampNeg) &&& 3)), none], [.int (((g 9) ((f 78) - 1).toNatClampNeg) &&& 3)], Wd (va_up (va_up (va_up f 78 ((f 78) - 1)) 71 ((((va_up f 78 ((f 78) - 1)) 71) <<< (2 &&& 31)) ||| (((g 9) ((f 78) - 1).toNatClampNeg) >>> (2 &&& 31)))) 70 (((va_up f 78 ((f 78) - 1)) 70) + 1)) fl g gl hh v tx)) rfl ?_
        exact WP.retI hP_52 rfl rfl (h1 c1 c2 c3)
    refine WP.sw (lo' := 3) rfl (fun c4 => ?_) (fun c4 => ?_)
    · refine WP.run hP_52 5 (c' := (94, [some (.ref 1), some (.int (((g 9) ((f 78) - 1).toNatClampNeg) &&& 3)), some (.int (((g 9) ((f 78) - 1).toNatClampNeg) >>> (2 &&& 31)))], [.int (f 68), .int ((((g 9) ((f 78) - 1).toNatClampNeg) >>> (2 &&& 31)) &&& 3)], Wd (va_up f 78 ((f 78) - 1)) fl g gl hh v tx)) rfl ?_
      refine WP.call hP_52 hP_99 (as := [.int ((((g 9) ((f 78) - 1).toNatClampNeg) >>> (2 &&& 31)) &&& 3), .int (f 68)]) (pc' := 97) (L' := [some (.ref 1), some (.int (((g 9) ((f 78) - 1).toNatClampNeg) &&& 3)), some (.int (((g 9) ((f 78) - 1).toNatClampNeg) >>> (2 &&& 31)))]) (st' := []) (w1 := Wd (va_up f 78 ((f 78) - 1)) fl g gl hh v tx) rfl ⟨Nat.le_of_ble_eq_true rfl, Nat.le_of_ble_eq_true rfl⟩ rfl (x_within X (d) (va_up f 78 ((f 78) - 1)) fl g gl hh v tx ((((g 9) ((f 78) - 1).toNatClampNeg) >>> (2 &&& 31)) &&& 3) (f 68) _  (fun c5 => ?_) (fun c6 c7 => ?_) (fun c8 c9 => ?_))
      · refine WP.run hP_52 2 (c' := (125, [none, some (.int (((g 9) ((f 78) - 1).toNatClampNeg) &&& 3)), none], [.int (((g 9) ((f 78) - 1).toNatClampNeg) &&& 3)], Wd (va_up f 78 ((f 78) - 1)) fl g gl hh v tx)) rfl ?_
        exact WP.retI hP_52 rfl rfl (h2 c1 c2 c3 c4 c5)
      · refine WP.run hP_52 2 (c' := (125, [none, some (.int (((g 9) ((f 78) - 1).toNatClampNeg) &&& 3)), none], [.int (((g 9) ((f 78) - 1).toNatClampNeg) &&& 3)], Wd (va_up f 78 ((f 78) - 1)) fl g gl hh v tx)) rfl ?_
        exact WP.retI hP_52 rfl rfl (h3 c1 c2 c3 c4 c6 c7)
      · refine WP.run hP_52 9 (c' := (110, [some (.ref 1), some (.int (((g 9) ((f 78) - 1).toNatClampNeg) &&& 3)), some (.int (((g 9) ((f 78) - 1).toNatClampNeg) >>> (2 &&& 31)))], [.int ((((g 9) ((f 78) - 1).toNatClampNeg) >>> (2 &&& 31)) >>> (2 &&& 31)), .int ((((g 9) ((f 78) - 1).toNatClampNeg) >>> (2 &&& 31)) &&& 3), .ref 5], Wd (va_up f 78 ((f 78) - 1)) fl g gl hh v tx)) rfl ?_
        refine WP.of (fun _ _ => Ex.iast hP_52 (w2 := Wd (va_up f 78 ((f 78) - 1)) fl (va_up g 5 (upd (g 5) ((((g 9) ((f 78) - 1).toNatClampNeg) >>> (2 &&& 31)) &&& 3).toNatClampNeg ((((g 9) ((f 78) - 1).toNatClampNeg) >>> (2 &&& 31)) >>> (2 &&& 31)))) gl hh v tx) rfl (Wa_5 _ _ _ _ _ _ _) (i2 c1 c2 c3 c4 c8 c9) (Ws_5 _ _ _ _ _ _ _ _)) ?_
        refine WP.run hP_52 2 (c' := (125, [none, some (.int (((g 9) ((f 78) - 1).toNatClampNeg) &&& 3)), none], [.int (((g 9) ((f 78) - 1).toNatClampNeg) &&& 3)], Wd (va_up f 78 ((f 78) - 1)) fl (va_up g 5 (upd (g 5) ((((g 9) ((f 78) - 1).toNatClampNeg) >>> (2 &&& 31)) &&& 3).toNatClampNeg ((((g 9) ((f 78) - 1).toNatClampNeg) >>> (2 &&& 31)) >>> (2 &&& 31)))) gl hh v tx)) rfl ?_
        exact WP.retI hP_52 rfl rfl (h4 c1 c2 c3 c4 c8 c9)
    show WP X _ 52 (114, [some (.ref 1), some (.int (((g 9) ((f 78) - 1).toNatClampNeg) &&& 3)), some (.int (((g 9) ((f 78) - 1).toNatClampNeg) >>> (2 &&& 31)))], [], Wd (va_up f 78 ((f 78) - 1)) fl g gl hh v tx) P
    refine WP.run hP_52 9 (c' := (125, [none, some (.int (((g 9) ((f 78) - 1).toNatClampNeg) &&& 3)), none], [.int (((g 9) ((f 78) - 1).toNatClampNeg) &&& 3)], Wd (va_up f 78 ((f 78) - 1)) fl (va_up g 8 (upd (g 8) 0 (((g 8) 0) - 1))) gl hh v tx)) rfl ?_
    exact WP.retI hP_52 rfl rfl (h5 c1 c2 c3 c4)
  · refine WP.run hP_52 1 (c' := (9, [some (.ref 1), none, none], [.int (-3)], Wd f fl g gl hh v tx)) rfl ?_
    exact WP.retI hP_52 rfl rfl (h6 c1)

set_option maxRecDepth 20000 in
theorem yte_close_32 (X : mm_X) (d : Nat) (f : Nat → Int32) (fl : Nat → Int64) (g : Nat → Nat → Int32) (gl : Nat → Nat → Int64) (hh : Nat → Nat → Option Nat) (v : Nat → Value) (tx : mm_W) (p0 : Int32) (p1 : Int32) (p2 : Int32) (p3 : Int32) (P : Option Value → mm_W → Prop)
    (i0 : (¬ (((f 2048) * 5) < 0)) → (¬ (60 < (((f 2048) * 5) + 5))) → ¬ ((((f 2048) * 5) + 0) < 0 ∨ 60 ≤ (((f 2048) * 5) + 0).toNatClampNeg))
    (i1 : (¬ (((f 2048) * 5) < 0)) → (¬ (60 < (((f 2048) * 5) + 5))) → ¬ ((((f 2048) * 5) + 1) < 0 ∨ 60 ≤ (((f 2048) * 5) + 1).toNatClampNeg))
    (i2 : (¬ (((f 2048) * 5) < 0)) → (¬ (60 < (((f 2048) * 5) + 5))) → ¬ ((((f 2048) * 5) + 2) < 0 ∨ 60 ≤ (((f 2048) * 5) + 2).toNatClampNeg))
    (i3 : (¬ (((f 2048) * 5) < 0)) → (¬ (60 < (((f 2048) * 5) + 5))) → ¬ ((((f 2048) * 5) + 3) < 0 ∨ 60 ≤ (((f 2048) * 5) + 3).toNatClampNeg))
    (i4 : (¬ (((f 2048) * 5) < 0)) → (¬ (60 < (((f 2048) * 5) + 5))) → ¬ ((((f 2048) * 5) + 4) < 0 ∨ 60 ≤ (((f 2048) * 5) + 4).toNatClampNeg))
    (h0 : (((f 2048) * 5) < 0) → P (none) (Wd f fl g gl hh v tx))
    (h1 : (¬ (((f 2048) * 5) < 0)) → (60 < (((f 2048) * 5) + 5)) → P (none) (Wd f fl g gl hh v tx))
    (h2 : (¬ (((f 2048) * 5) < 0)) → (¬ (60 < (((f 2048) * 5) + 5))) → P (none) (Wd (va_up f 2048 ((f 2048) + 1)) fl (va_up g 33 (upd (upd (upd (upd (upd (g 33) (((f 2048) * 5) + 0).toNatClampNeg p0) (((f 2048) * 5) + 1).toNatClampNeg p1) (((f 2048) * 5) + 2).toNatClampNeg p2) (((f 2048) * 5) + 3).toNatClampNeg p3) (((f 2048) * 5) + 4).toNatClampNeg (f 2049))) gl hh v tx)) :
    WP X d 55 (0, [some (.ref 32), some (.int p0), some (.int p1), some (.int p2), some (.int p3), none], [], Wd f fl g gl hh v tx) P := by
  refine WP.run hP_55 6 (c' := (10, [some (.ref 32), some (.int p0), some (.int p1), some (.int p2), some (.int p3), some (.int ((f 2048) * 5))], [.int ((f 2048) * 5)], Wd f fl g gl hh v tx)) rfl ?_
  refine WP.br hP_55 (q := ((f 2048) * 5) < 0) (t := 89) (f := 13) (L := [some (.ref 32), some (.int p0), some (.int p1), some (.int p2), some (.int p3), some (.int ((f 2048) * 5))]) (st := []) (w := Wd f fl g gl hh v tx) rfl (fun c1 => ?_) (fun c1 => ?_)
  · exact WP.ret hP_55 (r := none) (w' := Wd f fl g gl hh v tx) rfl (h0 c1)
  · refine WP.run hP_55 6 (c' := (22, [some (.ref 32), some (.int p0), some (.int p1), some (.int p2), some (.int p3), some (.int ((f 2048) * 5))], [.int 60, .int (((f 2048) * 5) + 5)], Wd f fl g gl hh v tx)) rfl ?_
    refine WP.br hP_55 (q := 60 < (((f 2048) * 5) + 5)) (t := 89) (f := 25) (L := [some (.ref 32), some (.int p0), some (.int p1), some (.int p2), some (.int p3), some (.int ((f 2048) * 5))]) (st := []) (w := Wd f fl g gl hh v tx) rfl (fun c2 => ?_) (fun c2 => ?_)
    · exact WP.ret hP_55 (r := none) (w' := Wd f fl g gl hh v tx) rfl (h1 c1 c2)
    · refine WP.run hP_55 6 (c' := (34, [some (.ref 32), some (.int p0), some (.int p1), some (.int p2), some (.int p3), some (.int ((f 2048) * 5))], [.int p0, .int (((f 2048) * 5) + 0), .ref 33], Wd f fl g gl hh v tx)) rfl ?_
      refine WP.of (fun _ _ => Ex.iast hP_55 (w2 := Wd f fl (va_up g 33 (upd (g 33) (((f 2048) * 5) + 0).toNatClampNeg p0)) gl hh v tx) rfl (Wa_33 _ _ _ _ _ _ _) (i0 c1 c2) (Ws_33 _ _ _ _ _ _ _ _)) ?_
      refine WP.run hP_55 6 (c' := (44, [some (.ref 32), some (.int p0), some (.int p1), some (.int p2), some (.int p3), some (.int ((f 2048) * 5))], [.int p1, .int (((f 2048) * 5) + 1), .ref 33], Wd f fl (va_up g 33 (upd (g 33) (((f 2048) * 5) + 0).toNatClampNeg p0)) gl hh v tx)) rfl ?_
      refine WP.of (fun _ _ => Ex.iast hP_55 (w2 := Wd f fl (va_up g 33 (upd (upd (g 33) (((f 2048) * 5) + 0).toNatClampNeg p0) (((f 2048) * 5) + 1).toNatClampNeg p1)) gl hh v tx) rfl (Wa_33 _ _ _ _ _ _ _) (i1 c1 c2) (Ws_33 _ _ _ _ _ _ _ _)) ?_
      refine WP.run hP_55 6 (c' := (54, [some (.ref 32), some (.int p0), some (.int p1), some (.int p2), some (.int p3), some (.int ((f 2048) * 5))], [.int p2, .int (((f 2048) * 5) + 2), .ref 33], Wd f fl (va_up g 33 (upd (upd (g 33) (((f 2048) * 5) + 0).toNatClampNeg p0) (((f 2048) * 5) + 1).toNatClampNeg p1)) gl hh v tx)) rfl ?_
      refine WP.of (fun _ _ => Ex.iast hP_55 (w2 := Wd f fl (va_up g 33 (upd (upd (upd (g 33) (((f 2048) * 5) + 0).toNatClampNeg p0) (((f 2048) * 5) + 1).toNatClampNeg p1) (((f 2048) * 5) + 2).toNatClampNeg p2)) gl hh v tx) rfl (Wa_33 _ _ _ _ _ _ _) (i2 c1 c2) (Ws_33 _ _ _ _ _ _ _ _)) ?_
      refine WP.run hP_55 6 (c' := (65, [some (.ref 32), some (.int p0), some (.int p1), some (.int p2), some (.int p3), some (.int ((f 2048) * 5))], [.int p3, .int (((f 2048) * 5) + 3), .ref 33], Wd f fl (va_up g 33 (upd (upd (upd (g 33) (((f 2048) * 5) + 0).toNatClampNeg p0) (((f 2048) * 5) + 1).toNatClampNeg p1) (((f 2048) * 5) + 2).toNatClampNeg p2)) gl hh v tx)) rfl ?_
      refine WP.of (fun _ _ => Ex.iast hP_55 (w2 := Wd f fl (va_up g 33 (upd (upd (upd (upd (g 33) (((f 2048) * 5) + 0).toNatClampNeg p0) (((f 2048) * 5) + 1).toNatClampNeg p1) (((f 2048) * 5) + 2).toNatClampNeg p2) (((f 2048) * 5) + 3).toNatClampNeg p3)) gl hh v tx) rfl (Wa_33 _ _ _ _ _ _ _) (i3 c1 c2) (Ws_33 _ _ _ _ _ _ _ _)) ?_
      refine WP.run hP_55 7 (c' := (78, [some (.ref 32), some (.int p0), some (.int p1), some (.int p2), some (.int p3), some (.int ((f 2048) * 5))], [.int (f 2049), .int (((f 2048) * 5) + 4), .ref 33], Wd f fl (va_up g 33 (upd (upd (upd (upd (g 33) (((f 2048) * 5) + 0).toNatClampNeg p0) (((f 2048) * 5) + 1).toNatClampNeg p1) (((f 2048) * 5) + 2).toNatClampNeg p2) (((f 2048) * 5) + 3).toNatClampNeg p3)) gl hh v tx)) rfl ?_
      refine WP.of (fun _ _ => Ex.iast hP_55 (w2 := Wd f fl (va_up g 33 (upd (upd (upd (upd (upd (g 33) (((f 2048) * 5) + 0).toNatClampNeg p0) (((f 2048) * 5) + 1).toNatClampNeg p1) (((f 2048) * 5) + 2).toNatClampNeg p2) (((f 2048) * 5) + 3).toNatClampNeg p3) (((f 2048) * 5) + 4).toNatClampNeg (f 2049))) gl hh v tx) rfl (Wa_33 _ _ _ _ _ _ _) (i4 c1 c2) (Ws_33 _ _ _ _ _ _ _ _)) ?_
      refine WP.run hP_55 6 (c' := (89, [some (.ref 32), some (.int p0), some (.int p1), some (.int p2), some (.int p3), some (.int ((f 2048) * 5))], [], Wd (va_up f 2048 ((f 2048) + 1)) fl (va_up g 33 (upd (upd (upd (upd (upd (g 33) (((f 2048) * 5) + 0).toNatClampNeg p0) (((f 2048) * 5) + 1).toNatClampNeg p1) (((f 2048) * 5) + 2).toNatClampNeg p2) (((f 2048) * 5) + 3).toNatClampNeg p3) (((f 2048) * 5) + 4).toNatClampNeg (f 2049))) gl hh v tx)) rfl ?_
      exact WP.ret hP_55 (r := none) (w' := Wd (va_up f 2048 ((f 2048) + 1)) fl (va_up g 33 (upd (upd (upd (upd (upd (g 33) (((f 2048) * 5) + 0).toNatClampNeg p0) (((f 2048) * 5) + 1).toNatClampNeg p1) (((f 2048) * 5) + 2).toNatClampNeg p2) (((f 2048) * 5) + 3).toNatClampNeg p3) (((f 2048) * 5) + 4).toNatClampNeg (f 2049))) gl hh v tx) rfl (h2 c1 c2)

set_option maxRecDepth 20000 in
theorem yte_head_32 (X : mm_X) (d : Nat) (f : Nat → Int32) (fl : Nat → Int64) (g : Nat → Nat → Int32) (gl : Nat → Nat → Int64) (hh : Nat → Nat → Option Nat) (v : Nat → Value) (tx : mm_W) (p0 : Int32) (p1 : Int32) (P : Option Value → mm_W → Prop)
    (i0 : (¬ (((p0 * 5) + p1) < 0)) → (¬ (60 ≤ ((p0 * 5) + p1))) → ¬ (((p0 * 5) + p1) < 0 ∨ 60 ≤ ((p0 * 5) + p1).toNatClampNeg))
    (h0 : (((p0 * 5) + p1) < 0) → P (some (.int 0)) (Wd f fl g gl hh v tx))
    (h1 : (¬ (((p0 * 5) + p1) < 0)) → (60 ≤ ((p0 * 5) + p1)) → P (some (.int 0)) (Wd f fl g gl hh v tx))
    (h2 : (¬ (((p0 * 5) + p1) < 0)) → (¬ (60 ≤ ((p0 * 5) + p1))) → P (some (.int ((g 33) ((p0 * 5) + p1).toNatClampNeg))) (Wd f fl g gl hh v tx)) :
    WP X d 56 (0, [some (.ref 32), some (.int p0), some (.int p1), none], [], Wd f fl g gl hh v tx) P := by
  refine WP.run hP_56 7 (c' := (7, [some (.ref 32), some (.int p0), some (.int p1), some (.int ((p0 * 5) + p1))], [.int ((p0 * 5) + p1)], Wd f fl g gl hh v tx)) rfl ?_
  refine WP.br hP_56 (q := ((p0 * 5) + p1) < 0) (t := 28) (f := 10) (L := [some (.ref 32), some (.int p0), some (.int p1), some (.int ((p0 * 5) + p1))]) (st := []) (w := Wd f fl g gl hh v tx) rfl (fun c1 => ?_) (fun c1 => ?_)
  · refine WP.run hP_56 1 (c' := (29, [none, none, none, none], [.int 0], Wd f fl g gl hh v tx)) rfl ?_
    exact WP.retI hP_56 rfl rfl (h0 c1)
  · refine WP.run hP_56 4 (c' := (16, [some (.ref 32), some (.int p0), some (.int p1), some (.int ((p0 * 5) + p1))], [.int 60, .int ((p0 * 5) + p1)], Wd f fl g gl hh v tx)) rfl ?_
    refine WP.br hP_56 (q := 60 ≤ ((p0 * 5) + p1)) (t := 28) (f := 19) (L := [some (.ref 32), some (.int p0), some (.int p1), some (.int ((p0 * 5) + p1))]) (st := []) (w := Wd f fl g gl hh v tx) rfl (fun c2 => ?_) (fun c2 => ?_)
    · refine WP.run hP_56 1 (c' := (29, [none, none, none, none], [.int 0], Wd f fl g gl hh v tx)) rfl ?_
      exact WP.retI hP_56 rfl rfl (h1 c1 c2)
    · refine WP.run hP_56 3 (c' := (24, [some (.ref 32), some (.int p0), some (.int p1), some (.int ((p0 * 5) + p1))], [.int ((p0 * 5) + p1), .ref 33], Wd f fl g gl hh v tx)) rfl ?_
      refine WP.of (fun _ _ => Ex.iald hP_56 rfl (Wa_33 _ _ _ _ _ _ _) (i0 c1 c2)) ?_
      refine WP.run hP_56 1 (c' := (29, [some (.ref 32), some (.int p0), some (.int p1), some (.int ((p0 * 5) + p1))], [.int ((g 33) ((p0 * 5) + p1).toNatClampNeg)], Wd f fl g gl hh v tx)) rfl ?_
      exact WP.retI hP_56 rfl rfl (h2 c1 c2)

set_option maxRecDepth 20000 in
theorem x_refused (X : mm_X) (d : Nat) (f : Nat → Int32) (fl : Nat → Int64) (g : Nat → Nat → Int32) (gl : Nat → Nat → Int64) (hh : Nat → Nat → Option Nat) (v : Nat → Value) (tx : mm_W) (p0 : Int32) (P : Option Value → mm_W → Prop)
    (i0 : (¬ ((-p0) < 0)) → (¬ ((7 : Int32) ≤ (-p0))) → ¬ ((-p0) < 0 ∨ 7 ≤ (-p0).toNatClampNeg))
    (i1 : (¬ ((-p0) < 0)) → (¬ ((7 : Int32) ≤ (-p0))) → ¬ ((-p0) < 0 ∨ 7 ≤ (-p0).toNatClampNeg))
    (h0 : ((-p0) < 0) → P (some (.int p0)) (Wd (va_up f 18 p0) fl g gl hh v tx))
    (h1 : (¬ ((-p0) < 0)) → ((7 : Int32) ≤ (-p0)) → P (some (.int p0)) (Wd (va_up f 18 p0) fl g gl hh v tx))
    (h2 : (¬ ((-p0) < 0)) → (¬ ((7 : Int32) ≤ (-p0))) → P (some (.int p0)) (Wd (va_up f 18 p0) fl (va_up g 55 (upd (g 55) (-p0).toNatClampNeg (((g 55) (-p0).toNatClampNeg) + 1))) gl hh v tx)) :
    WP X (d + 1) 101 (0, [some (.ref 0), some (.int p0), none], [], Wd f fl g gl hh v tx) P := by
  refine WP.run hP_101 10 (c' := (14, [some (.ref 0), some (.int p0), some (.int (-p0))], [.int 7, .int (-p0)], Wd (va_up f 18 p0) fl g gl hh v tx)) rfl ?_
  refine WP.call hP_101 hP_99 (as := [.int (-p0), .int 7]) (pc' := 17) (L' := [some (.ref 0), some (.int p0), some (.int (-p0))]) (st' := []) (w1 := Wd (va_up f 18 p0) fl g gl hh v tx) rfl ⟨Nat.le_of_ble_eq_true rfl, Nat.le_of_ble_eq_true rfl⟩ rfl (x_within X (d) (va_up f 18 p0) fl g gl hh v tx (-p0) 7 _  (fun c1 => ?_) (fun c2 c3 => ?_) (fun c4 c5 => ?_))
  · refine WP.run hP_101 2 (c' := (31, [none, some (.int p0), none], [.int p0], Wd (va_up f 18 p0) fl g gl hh v tx)) rfl ?_
    exact WP.retI hP_101 rfl rfl (h0 c1)
  · refine WP.run hP_101 2 (c' := (31, [none, some (.int p0), none], [.int p0], Wd (va_up f 18 p0) fl g gl hh v tx)) rfl ?_
    exact WP.retI hP_101 rfl rfl (h1 c2 c3)
  · refine WP.run hP_101 5 (c' := (26, [some (.ref 0), some (.int p0), some (.int (-p0))], [.int (-p0), .ref 55, .int (-p0), .ref 55], Wd (va_up f 18 p0) fl g gl hh v tx)) rfl ?_
    refine WP.of (fun _ _ => Ex.iald hP_101 rfl (Wa_55 _ _ _ _ _ _ _) (i0 c4 c5)) ?_
    refine WP.run hP_101 2 (c' := (29, [some (.ref 0), some (.int p0), some (.int (-p0))], [.int (((g 55) (-p0).toNatClampNeg) + 1), .int (-p0), .ref 55], Wd (va_up f 18 p0) fl g gl hh v tx)) rfl ?_
    refine WP.of (fun _ _ => Ex.iast hP_101 (w2 := Wd (va_up f 18 p0) fl (va_up g 55 (upd (g 55) (-p0).toNatClampNeg (((g 55) (-p0).toNatClampNeg) + 1))) gl hh v tx) rfl (Wa_55 _ _ _ _ _ _ _) (i1 c4 c5) (Ws_55 _ _ _ _ _ _ _ _)) ?_
    refine WP.run hP_101 1 (c' := (31, [none, some (.int p0), none], [.int p0], Wd (va_up f 18 p0) fl (va_up g 55 (upd (g 55) (-p0).toNatClampNeg (((g 55) (-p0).toNatClampNeg) + 1))) gl hh v tx)) rfl ?_
    exact WP.retI hP_101 rfl rfl (h2 c4 c5)

set_option maxRecDepth 20000 in
theorem x_at (X : mm_X) (d : Nat) (f : Nat → Int32) (fl : Nat → Int64) (g : Nat → Nat → Int32) (gl : Nat → Nat → Int64) (hh : Nat → Nat → Option Nat) (v : Nat → Value) (tx : mm_W) (p0 : Int32) (p1 : Int32) (P : Option Value → mm_W → Prop)
    (i0 : (¬ (p0 < 0)) → (¬ ((f 64) ≤ p0)) → (¬ (p1 < 0)) → (p1 ≤ 5) → ¬ (p0 < 0 ∨ 8 ≤ p0.toNatClampNeg))
    (i1 : (¬ (p0 < 0)) → (¬ ((f 64) ≤ p0)) → (¬ (p1 < 0)) → (p1 ≤ 5) → (¬ p1 = 0) → (¬ p1 = 1) → (0 ≤ ((((g 3) p0.toNatClampNeg) - 1) - (p1 - 2))) → ¬ (p0 < 0 ∨ 8 ≤ p0.toNatClampNeg))
    (i2 : (¬ (p0 < 0)) → (¬ ((f 64) ≤ p0)) → (¬ (p1 < 0)) → (p1 ≤ 5) → (¬ p1 = 0) → (¬ (¬ p1 = 1)) → ¬ (p0 < 0 ∨ 8 ≤ p0.toNatClampNeg))
    (h0 : (p0 < 0) → P (some (.int (-1))) (Wd f fl g gl hh v tx))
    (h1 : (¬ (p0 < 0)) → ((f 64) ≤ p0) → P (some (.int (-1))) (Wd f fl g gl hh v tx))
    (h2 : (¬ (p0 < 0)) → (¬ ((f 64) ≤ p0)) → (p1 < 0) → P (some (.int (-1))) (Wd f fl g gl hh v tx))
    (h3 : (¬ (p0 < 0)) → (¬ ((f 64) ≤ p0)) → (¬ (p1 < 0)) → (p1 ≤ 5) → (¬ p1 = 0) → (¬ p1 = 1) → (0 ≤ ((((g 3) p0.toNatClampNeg) - 1) - (p1 - 2))) → P (some (.int ((((g 2) p0.toNatClampNeg) >>> ((2 * ((((g 3) p0.toNatClampNeg) - 1) - (p1 - 2))) &&& 31)) &&& 3))) (Wd f fl g gl hh v tx))
    (h4 : (¬ (p0 < 0)) → (¬ ((f 64) ≤ p0)) → (¬ (p1 < 0)) → (p1 ≤ 5) → (¬ p1 = 0) → (¬ p1 = 1) → (¬ (0 ≤ ((((g 3) p0.toNatClampNeg) - 1) - (p1 - 2)))) → P (some (.int (-1))) (Wd f fl g gl hh v tx))
    (h5 : (¬ (p0 < 0)) → (¬ ((f 64) ≤ p0)) → (¬ (p1 < 0)) → (p1 ≤ 5) → (¬ p1 = 0) → (¬ (¬ p1 = 1)) → P (some (.int ((g 4) p0.toNatClampNeg))) (Wd f fl g gl hh v tx))
    (h6 : (¬ (p0 < 0)) → (¬ ((f 64) ≤ p0)) → (¬ (p1 < 0)) → (p1 ≤ 5) → (¬ (¬ p1 = 0)) → P (some (.int ((g 3) p0.toNatClampNeg))) (Wd f fl g gl hh v tx))
    (h7 : (¬ (p0 < 0)) → (¬ ((f 64) ≤ p0)) → (¬ (p1 < 0)) → (¬ (p1 ≤ 5)) → P (some (.int (-1))) (Wd f fl g gl hh v tx)) :
    WP X d 59 (0, [some (.ref 0), some (.int p0), some (.int p1), none, none], [], Wd f fl g gl hh v tx) P := by
  refine WP.run hP_59 1 (c' := (1, [some (.ref 0), some (.int p0), some (.int p1), none, none], [.int p0], Wd f fl g gl hh v tx)) rfl ?_
  refine WP.br hP_59 (q := p0 < 0) (t := 24) (f := 4) (L := [some (.ref 0), some (.int p0), some (.int p1), none, none]) (st := []) (w := Wd f fl g gl hh v tx) rfl (fun c1 => ?_) (fun c1 => ?_)
  · refine WP.run hP_59 1 (c' := (25, [none, none, none, none, none], [.int (-1)], Wd f fl g gl hh v tx)) rfl ?_
    exact WP.retI hP_59 rfl rfl (h0 c1)
  · refine WP.run hP_59 4 (c' := (12, [some (.ref 0), some (.int p0), some (.int p1), none, none], [.int (f 64), .int p0], Wd f fl g gl hh v tx)) rfl ?_
    refine WP.br hP_59 (q := (f 64) ≤ p0) (t := 24) (f := 15) (L := [some (.ref 0), some (.int p0), some (.int p1), none, none]) (st := []) (w := Wd f fl g gl hh v tx) rfl (fun c2 => ?_) (fun c2 => ?_)
    · refine WP.run hP_59 1 (c' := (25, [none, none, none, none, none], [.int (-1)], Wd f fl g gl hh v tx)) rfl ?_
      exact WP.retI hP_59 rfl rfl (h1 c1 c2)
    · refine WP.run hP_59 1 (c' := (16, [some (.ref 0), some (.int p0), some (.int p1), none, none], [.int p1], Wd f fl g gl hh v tx)) rfl ?_
      refine WP.br hP_59 (q := p1 < 0) (t := 24) (f := 19) (L := [some (.ref 0), some (.int p0), some (.int p1), none, none]) (st := []) (w := Wd f fl g gl hh v tx) rfl (fun c3 => ?_) (fun c3 => ?_)
      · refine WP.run hP_59 1 (c' := (25, [none, none, none, none, none], [.int (-1)], Wd f fl g gl hh v tx)) rfl ?_
        exact WP.retI hP_59 rfl rfl (h2 c1 c2 c3)
      · refine WP.run hP_59 2 (c' := (21, [some (.ref 0), some (.int p0), some (.int p1), none, none], [.int 5, .int p1], Wd f fl g gl hh v tx)) rfl ?_
        refine WP.br hP_59 (q := p1 ≤ 5) (t := 26) (f := 24) (L := [some (.ref 0), some (.int p0), some (.int p1), none, none]) (st := []) (w := Wd f fl g gl hh v tx) rfl (fun c4 => ?_) (fun c4 => ?_)
        · refine WP.run hP_59 4 (c' := (34, [some (.ref 0), some (.int p0), some (.int p1), none, none], [.int p0, .ref 3], Wd f fl g gl hh v tx)) rfl ?_
          refine WP.of (fun _ _ => Ex.iald hP_59 rfl (Wa_3 _ _ _ _ _ _ _) (i0 c1 c2 c3 c4)) ?_
          refine WP.run hP_59 2 (c' := (37, [some (.ref 0), some (.int p0), some (.int p1), some (.int ((g 3) p0.toNatClampNeg)), none], [.int p1], Wd f fl g gl hh v tx)) rfl ?_
          refine WP.br hP_59 (q := ¬ p1 = 0) (t := 42) (f := 40) (L := [some (.ref 0), some (.int p0), some (.int p1), some (.int ((g 3) p0.toNatClampNeg)), none]) (st := []) (w := Wd f fl g gl hh v tx) rfl (fun c5 => ?_) (fun c5 => ?_)
          · refine WP.run hP_59 2 (c' := (44, [some (.ref 0), some (.int p0), some (.int p1), some (.int ((g 3) p0.toNatClampNeg)), none], [.int 1, .int p1], Wd f fl g gl hh v tx)) rfl ?_
            refine WP.br hP_59 (q := ¬ p1 = 1) (t := 57) (f := 47) (L := [some (.ref 0), some (.int p0), some (.int p1), some (.int ((g 3) p0.toNatClampNeg)), none]) (st := []) (w := Wd f fl g gl hh v tx) rfl (fun c6 => ?_) (fun c6 => ?_)
            · refine WP.run hP_59 9 (c' := (68, [some (.ref 0), some (.int p0), some (.int p1), some (.int ((g 3) p0.toNatClampNeg)), some (.int ((((g 3) p0.toNatClampNeg) - 1) - (p1 - 2)))], [.int ((((g 3) p0.toNatClampNeg) - 1) - (p1 - 2))], Wd f fl g gl hh v tx)) rfl ?_
              refine WP.br hP_59 (q := 0 ≤ ((((g 3) p0.toNatClampNeg) - 1) - (p1 - 2))) (t := 75) (f := 71) (L := [some (.ref 0), some (.int p0), some (.int p1), some (.int ((g 3) p0.toNatClampNeg)), some (.int ((((g 3) p0.toNatClampNeg) - 1) - (p1 - 2)))]) (st := []) (w := Wd f fl g gl hh v tx) rfl (fun c7 => ?_) (fun c7 => ?_)
              · refine WP.run hP_59 4 (c' := (83, [some (.ref 0), some (.int p0), none, none, some (.int ((((g 3) p0.toNatClampNeg) - 1) - (p1 - 2)))], [.int p0, .ref 2], Wd f fl g gl hh v tx)) rfl ?_
                refine WP.of (fun _ _ => Ex.iald hP_59 rfl (Wa_2 _ _ _ _ _ _ _) (i1 c1 c2 c3 c4 c5 c6 c7)) ?_
                refine WP.run hP_59 6 (c' := (91, [some (.ref 0), some (.int p0), none, none, some (.int ((((g 3) p0.toNatClampNeg) - 1) - (p1 - 2)))], [.int ((((g 2) p0.toNatClampNeg) >>> ((2 * ((((g 3) p0.toNatClampNeg) - 1) - (p1 - 2))) &&& 31)) &&& 3)], Wd f fl g gl hh v tx)) rfl ?_
                exact WP.retI hP_59 rfl rfl (h3 c1 c2 c3 c4 c5 c6 c7)
              · refine WP.run hP_59 2 (c' := (91, [some (.ref 0), some (.int p0), some (.int p1), some (.int ((g 3) p0.toNatClampNeg)), some (.int ((((g 3) p0.toNatClampNeg) - 1) - (p1 - 2)))], [.int (-1)], Wd f fl g gl hh v tx)) rfl ?_
                exact WP.retI hP_59 rfl rfl (h4 c1 c2 c3 c4 c5 c6 c7)
            · refine WP.run hP_59 4 (c' := (55, [some (.ref 0), some (.int p0), some (.int p1), some (.int ((g 3) p0.toNatClampNeg)), none], [.int p0, .ref 4], Wd f fl g gl hh v tx)) rfl ?_
              refine WP.of (fun _ _ => Ex.iald hP_59 rfl (Wa_4 _ _ _ _ _ _ _) (i2 c1 c2 c3 c4 c5 c6)) ?_
              exact WP.retI hP_59 rfl rfl (h5 c1 c2 c3 c4 c5 c6)
          · refine WP.run hP_59 1 (c' := (41, [some (.ref 0), some (.int p0), some (.int p1), some (.int ((g 3) p0.toNatClampNeg)), none], [.int ((g 3) p0.toNatClampNeg)], Wd f fl g gl hh v tx)) rfl ?_
            exact WP.retI hP_59 rfl rfl (h6 c1 c2 c3 c4 c5)
        · refine WP.run hP_59 1 (c' := (25, [none, none, none, none, none], [.int (-1)], Wd f fl g gl hh v tx)) rfl ?_
          exact WP.retI hP_59 rfl rfl (h7 c1 c2 c3 c4)

set_option maxRecDepth 20000 in
theorem x_accepted (X : mm_X) (d : Nat) (f : Nat → Int32) (fl : Nat → Int64) (g : Nat → Nat → Int32) (gl : Nat → Nat → Int64) (hh : Nat → Nat → Option Nat) (v : Nat → Value) (tx : mm_W) (p0 : Int32) (P : Option Value → mm_W → Prop)
    (h0 : P (some (.int p0)) (Wd (va_up f 18 0) fl g gl hh v tx)) :
    WP X d 100 (0, [some (.ref 0), some (.int p0)], [], Wd f fl g gl hh v tx) P := by
  refine WP.run hP_100 4 (c' := (6, [some (.ref 0), some (.int p0)], [.int p0], Wd (va_up f 18 0) fl g gl hh v tx)) rfl ?_
  exact WP.retI hP_100 rfl rfl h0

set_option maxRecDepth 20000 in
theorem x_ship (X : mm_X) (d : Nat) (f : Nat → Int32) (fl : Nat → Int64) (g : Nat → Nat → Int32) (gl : Nat → Nat → Int64) (hh : Nat → Nat → Option Nat) (v : Nat → Value) (tx : mm_W) (p0 : Int32) (p1 : Int32) (p2 : Int32) (P : Option Value → mm_W → Prop)
    (i0 : (¬ (p0 < 0)) → (¬ ((25 : Int32) ≤ p0)) → (¬ (p1 < 0)) → (¬ ((4 : Int32) ≤ p1)) → (¬ (p2 < 0)) → (¬ ((10 : Int32) ≤ p2)) → ((f 68) < 3) → ¬ ((f 68) < 0 ∨ 3 ≤ (f 68).toNatClampNeg))
    (h0 : (p0 < 0) → P (some (.int (-1 : Int32))) (Wd (va_up f 18 (-1 : Int32)) fl (va_up g 55 (upd (g 55) (1 : Int32).toNatClampNeg (((g 55) (1 : Int32).toNatClampNeg) + 1))) gl hh v tx))
    (h1 : (¬ (p0 < 0)) → ((25 : Int32) ≤ p0) → P (some (.int (-1 : Int32))) (Wd (va_up f 18 (-1 : Int32)) fl (va_up g 55 (upd (g 55) (1 : Int32).toNatClampNeg (((g 55) (1 : Int32).toNatClampNeg) + 1))) gl hh v tx))
    (h2 : (¬ (p0 < 0)) → (¬ ((25 : Int32) ≤ p0)) → (p1 < 0) → P (some (.int (-1 : Int32))) (Wd (va_up f 18 (-1 : Int32)) fl (va_up g 55 (upd (g 55) (1 : Int32).toNatClampNeg (((g 55) (1 : Int32).toNatClampNeg) + 1))) gl hh v tx))
    (h3 : (¬ (p0 < 0)) → (¬ ((25 : Int32) ≤ p0)) → (¬ (p1 < 0)) → ((4 : Int32) ≤ p1) → P (some (.int (-1 : Int32))) (Wd (va_up f 18 (-1 : Int32)) fl (va_up g 55 (upd (g 55) (1 : Int32).toNatClampNeg (((g 55) (1 : Int32).toNatClampNeg) + 1))) gl hh v tx))
    (h4 : (¬ (p0 < 0)) → (¬ ((25 : Int32) ≤ p0)) → (¬ (p1 < 0)) → (¬ ((4 : Int32) ≤ p1)) → (p2 < 0) → P (some (.int (-1 : Int32))) (Wd (va_up f 18 (-1 : Int32)) fl (va_up g 55 (upd (g 55) (1 : Int32).toNatClampNeg (((g 55) (1 : Int32).toNatClampNeg) + 1))) gl hh v tx))
    (h5 : (¬ (p0 < 0)) → (¬ ((25 : Int32) ≤ p0)) → (¬ (p1 < 0)) → (¬ ((4 : Int32) ≤ p1)) → (¬ (p2 < 0)) → ((10 : Int32) ≤ p2) → P (some (.int (-1 : Int32))) (Wd (va_up f 18 (-1 : Int32)) fl (va_up g 55 (upd (g 55) (1 : Int32).toNatClampNeg (((g 55) (1 : Int32).toNatClampNeg) + 1))) gl hh v tx))
    (h6 : (¬ (p0 < 0)) → (¬ ((25 : Int32) ≤ p0)) → (¬ (p1 < 0)) → (¬ ((4 : Int32) ≤ p1)) → (¬ (p2 < 0)) → (¬ ((10 : Int32) ≤ p2)) → ((f 68) < 3) → P (some (.int (((f 68) + 1) - 1))) (Wd (va_up (va_up (va_up f 68 ((f 68) + 1)) 78 0) 18 0) fl (va_up g 5 (upd (g 5) (f 68).toNatClampNeg ((((p0 * 4) + p1) * 10) + p2))) gl hh v tx))
    (h7 : (¬ (p0 < 0)) → (¬ ((25 : Int32) ≤ p0)) → (¬ (p1 < 0)) → (¬ ((4 : Int32) ≤ p1)) → (¬ (p2 < 0)) → (¬ ((10 : Int32) ≤ p2)) → (¬ ((f 68) < 3)) → P (some (.int (-5 : Int32))) (Wd (va_up f 18 (-5 : Int32)) fl (va_up g 55 (upd (g 55) (5 : Int32).toNatClampNeg (((g 55) (5 : Int32).toNatClampNeg) + 1))) gl hh v tx)) :
    WP X (d + 2) 60 (0, [some (.ref 0), some (.int p0), some (.int p1), some (.int p2)], [], Wd f fl g gl hh v tx) P := by
  refine WP.run hP_60 2 (c' := (3, [some (.ref 0), some (.int p0), some (.int p1), some (.int p2)], [.int 25, .int p0], Wd f fl g gl hh v tx)) rfl ?_
  refine WP.call hP_60 hP_99 (as := [.int p0, .int 25]) (pc' := 6) (L' := [some (.ref 0), some (.int p0), some (.int p1), some (.int p2)]) (st' := []) (w1 := Wd f fl g gl hh v tx) rfl ⟨Nat.le_of_ble_eq_true rfl, Nat.le_of_ble_eq_true rfl⟩ rfl (x_within X (d + 1) f fl g gl hh v tx p0 25 _  (fun c1 => ?_) (fun c4 c5 => ?_) (fun c8 c9 => ?_))
  · refine WP.run hP_60 3 (c' := (28, [some (.ref 0), none, none, none], [.int (-1), .ref 0], Wd f fl g gl hh v tx)) rfl ?_
    refine WP.call hP_60 hP_101 (as := [.ref 0, .int (-1)]) (pc' := 31) (L' := [some (.ref 0), none, none, none]) (st' := []) (w1 := Wd f fl g gl hh v tx) rfl ⟨Nat.le_of_ble_eq_true rfl, Nat.le_of_ble_eq_true rfl⟩ rfl (x_refused X (d) f fl g gl hh v tx (-1) _ (fun _ _ => by decide) (fun _ _ => by decide) (fun b0 => absurd b0 (by decide)) (fun b0 b1 => absurd b1 (by decide)) (fun c2 c3 => ?_))
    · exact WP.retI hP_60 rfl rfl (h0 c1)
  · refine WP.run hP_60 3 (c' := (28, [some (.ref 0), none, none, none], [.int (-1), .ref 0], Wd f fl g gl hh v tx)) rfl ?_
    refine WP.call hP_60 hP_101 (as := [.ref 0, .int (-1)]) (pc' := 31) (L' := [some (.ref 0), none, none, none]) (st' := []) (w1 := Wd f fl g gl hh v tx) rfl ⟨Nat.le_of_ble_eq_true rfl, Nat.le_of_ble_eq_true rfl⟩ rfl (x_refused X (d) f fl g gl hh v tx (-1) _ (fun _ _ => by decide) (fun _ _ => by decide) (fun b0 => absurd b0 (by decide)) (fun b0 b1 => absurd b1 (by decide)) (fun c6 c7 => ?_))
    · exact WP.retI hP_60 rfl rfl (h1 c4 c5)
  · refine WP.run hP_60 3 (c' := (11, [some (.ref 0), some (.int p0), some (.int p1), some (.int p2)], [.int 4, .int p1], Wd f fl g gl hh v tx)) rfl ?_
    refine WP.call hP_60 hP_99 (as := [.int p1, .int 4]) (pc' := 14) (L' := [some (.ref 0), some (.int p0), some (.int p1), some (.int p2)]) (st' := []) (w1 := Wd f fl g gl hh v tx) rfl ⟨Nat.le_of_ble_eq_true rfl, Nat.le_of_ble_eq_true rfl⟩ rfl (x_within X (d + 1) f fl g gl hh v tx p1 4 _  (fun c10 => ?_) (fun c13 c14 => ?_) (fun c17 c18 => ?_))
    · refine WP.run hP_60 3 (c' := (28, [some (.ref 0), none, none, none], [.int (-1), .ref 0], Wd f fl g gl hh v tx)) rfl ?_
      refine WP.call hP_60 hP_101 (as := [.ref 0, .int (-1)]) (pc' := 31) (L' := [some (.ref 0), none, none, none]) (st' := []) (w1 := Wd f fl g gl hh v tx) rfl ⟨Nat.le_of_ble_eq_true rfl, Nat.le_of_ble_eq_true rfl⟩ rfl (x_refused X (d) f fl g gl hh v tx (-1) _ (fun _ _ => by decide) (fun _ _ => by decide) (fun b0 => absurd b0 (by decide)) (fun b0 b1 => absurd b1 (by decide)) (fun c11 c12 => ?_))
      · exact WP.retI hP_60 rfl rfl (h2 c8 c9 c10)
    · refine WP.run hP_60 3 (c' := (28, [some (.ref 0), none, none, none], [.int (-1), .ref 0], Wd f fl g gl hh v tx)) rfl ?_
      refine WP.call hP_60 hP_101 (as := [.ref 0, .int (-1)]) (pc' := 31) (L' := [some (.ref 0), none, none, none]) (st' := []) (w1 := Wd f fl g gl hh v tx) rfl ⟨Nat.le_of_ble_eq_true rfl, Nat.le_of_ble_eq_true rfl⟩ rfl (x_refused X (d) f fl g gl hh v tx (-1) _ (fun _ _ => by decide) (fun _ _ => by decide) (fun b0 => absurd b0 (by decide)) (fun b0 b1 => absurd b1 (by decide)) (fun c15 c16 => ?_))
      · exact WP.retI hP_60 rfl rfl (h3 c8 c9 c13 c14)
    · refine WP.run hP_60 3 (c' := (20, [some (.ref 0), some (.int p0), some (.int p1), some (.int p2)], [.int 10, .int p2], Wd f fl g gl hh v tx)) rfl ?_
      refine WP.call hP_60 hP_99 (as := [.int p2, .int 10]) (pc' := 23) (L' := [some (.ref 0), some (.int p0), some (.int p1), some (.int p2)]) (st' := []) (w1 := Wd f fl g gl hh v tx) rfl ⟨Nat.le_of_ble_eq_true rfl, Nat.le_of_ble_eq_true rfl⟩ rfl (x_within X (d + 1) f fl g gl hh v tx p2 10 _  (fun c19 => ?_) (fun c22 c23 => ?_) (fun c26 c27 => ?_))
      · refine WP.run hP_60 3 (c' := (28, [some (.ref 0), none, none, none], [.int (-1), .ref 0], Wd f fl g gl hh v tx)) rfl ?_
        refine WP.call hP_60 hP_101 (as := [.ref 0, .int (-1)]) (pc' := 31) (L' := [some (.ref 0), none, none, none]) (st' := []) (w1 := Wd f fl g gl hh v tx) rfl ⟨Nat.le_of_ble_eq_true rfl, Nat.le_of_ble_eq_true rfl⟩ rfl (x_refused X (d) f fl g gl hh v tx (-1) _ (fun _ _ => by decide) (fun _ _ => by decide) (fun b0 => absurd b0 (by decide)) (fun b0 b1 => absurd b1 (by decide)) (fun c20 c21 => ?_))
        · exact WP.retI hP_60 rfl rfl (h4 c8 c9 c17 c18 c19)
      · refine WP.run hP_60 3 (c' := (28, [some (.ref 0), none, none, none], [.int (-1), .ref 0], Wd f fl g gl hh v tx)) rfl ?_
        refine WP.call hP_60 hP_101 (as := [.ref 0, .int (-1)]) (pc' := 31) (L' := [some (.ref 0), none, none, none]) (st' := []) (w1 := Wd f fl g gl hh v tx) rfl ⟨Nat.le_of_ble_eq_true rfl, Nat.le_of_ble_eq_true rfl⟩ rfl (x_refused X (d) f fl g gl hh v tx (-1) _ (fun _ _ => by decide) (fun _ _ => by decide) (fun b0 => absurd b0 (by decide)) (fun b0 b1 => absurd b1 (by decide)) (fun c24 c25 => ?_))
        · exact WP.retI hP_60 rfl rfl (h5 c8 c9 c17 c18 c22 c23)
      · refine WP.run hP_60 5 (c' := (40, [some (.ref 0), some (.int p0), some (.int p1), some (.int p2)], [.int 3, .int (f 68)], Wd f fl g gl hh v tx)) rfl ?_
        refine WP.br hP_60 (q := (f 68) < 3) (t := 50) (f := 43) (L := [some (.ref 0), some (.int p0), some (.int p1), some (.int p2)]) (st := []) (w := Wd f fl g gl hh v tx) rfl (fun c28 => ?_) (fun c28 => ?_)
        · refine WP.run hP_60 15 (c' := (74, [some (.ref 0), some (.int p0), some (.int p1), some (.int p2)], [.int ((((p0 * 4) + p1) * 10) + p2), .int (f 68), .ref 5], Wd f fl g gl hh v tx)) rfl ?_
          refine WP.of (fun _ _ => Ex.iast hP_60 (w2 := Wd f fl (va_up g 5 (upd (g 5) (f 68).toNatClampNeg ((((p0 * 4) + p1) * 10) + p2))) gl hh v tx) rfl (Wa_5 _ _ _ _ _ _ _) (i0 c8 c9 c17 c18 c26 c27 c28) (Ws_5 _ _ _ _ _ _ _ _)) ?_
          refine WP.run hP_60 17 (c' := (106, [some (.ref 0), some (.int p0), some (.int p1), some (.int p2)], [.int (((f 68) + 1) - 1), .ref 0], Wd (va_up (va_up f 68 ((f 68) + 1)) 78 0) fl (va_up g 5 (upd (g 5) (f 68).toNatClampNeg ((((p0 * 4) + p1) * 10) + p2))) gl hh v tx)) rfl ?_
          refine WP.call hP_60 hP_100 (as := [.ref 0, .int (((f 68) + 1) - 1)]) (pc' := 109) (L' := [some (.ref 0), some (.int p0), some (.int p1), some (.int p2)]) (st' := []) (w1 := Wd (va_up (va_up f 68 ((f 68) + 1)) 78 0) fl (va_up g 5 (upd (g 5) (f 68).toNatClampNeg ((((p0 * 4) + p1) * 10) + p2))) gl hh v tx) rfl ⟨Nat.le_of_ble_eq_true rfl, Nat.le_of_ble_eq_true rfl⟩ rfl (x_accepted X (d + 1) (va_up (va_up f 68 ((f 68) + 1)) 78 0) fl (va_up g 5 (upd (g 5) (f 68).toNatClampNeg ((((p0 * 4) + p1) * 10) + p2))) gl hh v tx (((f 68) + 1) - 1) _  ?_)
          · exact WP.retI hP_60 rfl rfl (h6 c8 c9 c17 c18 c26 c27 c28)
        · refine WP.run hP_60 2 (c' := (46, [some (.ref 0), some (.int p0), some (.int p1), some (.int p2)], [.int (-5), .ref 0], Wd f fl g gl hh v tx)) rfl ?_
          refine WP.call hP_60 hP_101 (as := [.ref 0, .int (-5)]) (pc' := 49) (L' := [some (.ref 0), some (.int p0), some (.int p1), some (.int p2)]) (st' := []) (w1 := Wd f fl g gl hh v tx) rfl ⟨Nat.le_of_ble_eq_true rfl, Nat.le_of_ble_eq_true rfl⟩ rfl (x_refused X (d) f fl g gl hh v tx (-5) _ (fun _ _ => by decide) (fun _ _ => by decide) (fun b0 => absurd b0 (by decide)) (fun b0 b1 => absurd b1 (by decide)) (fun c29 c30 => ?_))
          · exact WP.retI hP_60 rfl rfl (h7 c8 c9 c17 c18 c26 c27 c28)

set_option maxRecDepth 20000 in
theorem x_detail (X : mm_X) (d : Nat) (f : Nat → Int32) (fl : Nat → Int64) (g : Nat → Nat → Int32) (gl : Nat → Nat → Int64) (hh : Nat → Nat → Option Nat) (v : Nat → Value) (tx : mm_W) (p0 : Int32) (p1 : Int32) (P : Option Value → mm_W → Prop)
    (h0 : (p1 = 0) → P (some (.int (p0 / 40))) (Wd f fl g gl hh v tx))
    (h1 : (¬ p1 = 0) → (p1 = 1) → P (some (.int ((p0 / 10) - ((p0 / 10) / 4) * 4))) (Wd f fl g gl hh v tx))
    (h2 : (¬ p1 = 0) → (¬ p1 = 1) → (p1 = 2) → P (some (.int (p0 - (p0 / 10) * 10))) (Wd f fl g gl hh v tx))
    (h3 : (¬ p1 = 0) → (¬ p1 = 1) → (¬ p1 = 2) → P (some (.int (-1))) (Wd f fl g gl hh v tx)) :
    WP X (d + 1) 113 (0, [some (.int p0), some (.int p1)], [], Wd f fl g gl hh v tx) P := by
  refine WP.run hP_113 1 (c' := (1, [some (.int p0), some (.int p1)], [.int p1], Wd f fl g gl hh v tx)) rfl ?_
  refine WP.run hP_113 1 (c' := (mm_sw p1 0 [28, 33, 38] 43, [some (.int p0), some (.int p1)], [], Wd f fl g gl hh v tx)) rfl ?_
  refine WP.sw (lo' := 1) rfl (fun c1 => ?_) (fun c1 => ?_)
  · refine WP.run hP_113 1 (c' := (29, [some (.int p0), none], [.int p0], Wd f fl g gl hh v tx)) rfl ?_
    refine WP.call hP_113 hP_110 (as := [.int p0]) (pc' := 32) (L' := [some (.int p0), none]) (st' := []) (w1 := Wd f fl g gl hh v tx) rfl ⟨Nat.le_of_ble_eq_true rfl, Nat.le_of_ble_eq_true rfl⟩ rfl (x_cellOf X (d) f fl g gl hh v tx p0 _  ?_)
    · exact WP.retI hP_113 rfl rfl (h0 c1)
  refine WP.sw (lo' := 2) rfl (fun c2 => ?_) (fun c2 => ?_)
  · refine WP.run hP_113 1 (c' := (34, [some (.int p0), none], [.int p0], Wd f fl g gl hh v tx)) rfl ?_
    refine WP.call hP_113 hP_111 (as := [.int p0]) (pc' := 37) (L' := [some (.int p0), none]) (st' := []) (w1 := Wd f fl g gl hh v tx) rfl ⟨Nat.le_of_ble_eq_true rfl, Nat.le_of_ble_eq_true rfl⟩ rfl (x_facesOf X (d) f fl g gl hh v tx p0 _  ?_)
    · exact WP.retI hP_113 rfl rfl (h1 c1 c2)
  refine WP.sw (lo' := 3) rfl (fun c3 => ?_) (fun c3 => ?_)
  · refine WP.run hP_113 1 (c' := (39, [some (.int p0), none], [.int p0], Wd f fl g gl hh v tx)) rfl ?_
    refine WP.call hP_113 hP_112 (as := [.int p0]) (pc' := 42) (L' := [some (.int p0), none]) (st' := []) (w1 := Wd f fl g gl hh v tx) rfl ⟨Nat.le_of_ble_eq_true rfl, Nat.le_of_ble_eq_true rfl⟩ rfl (x_powderOf X (d) f fl g gl hh v tx p0 _  ?_)
    · exact WP.retI hP_113 rfl rfl (h2 c1 c2 c3)
  show WP X _ 113 (43, [some (.int p0), some (.int p1)], [], Wd f fl g gl hh v tx) P
  refine WP.run hP_113 1 (c' := (44, [none, none], [.int (-1)], Wd f fl g gl hh v tx)) rfl ?_
  exact WP.retI hP_113 rfl rfl (h3 c1 c2 c3)

set_option maxRecDepth 20000 in
theorem x_of (X : mm_X) (d : Nat) (f : Nat → Int32) (fl : Nat → Int64) (g : Nat → Nat → Int32) (gl : Nat → Nat → Int64) (hh : Nat → Nat → Option Nat) (v : Nat → Value) (tx : mm_W) (p0 : Int32) (p1 : Int32) (P : Option Value → mm_W → Prop)
    (i0 : (¬ (p0 < 0)) → (¬ ((f 68) ≤ p0)) → ¬ (p0 < 0 ∨ 3 ≤ p0.toNatClampNeg))
    (h0 : (p0 < 0) → P (some (.int (-1))) (Wd f fl g gl hh v tx))
    (h1 : (¬ (p0 < 0)) → ((f 68) ≤ p0) → P (some (.int (-1))) (Wd f fl g gl hh v tx))
    (h2 : (¬ (p0 < 0)) → (¬ ((f 68) ≤ p0)) → (p1 = 0) → P (some (.int (((g 5) p0.toNatClampNeg) / 40))) (Wd f fl g gl hh v tx))
    (h3 : (¬ (p0 < 0)) → (¬ ((f 68) ≤ p0)) → (¬ p1 = 0) → (p1 = 1) → P (some (.int ((((g 5) p0.toNatClampNeg) / 10) - ((((g 5) p0.toNatClampNeg) / 10) / 4) * 4))) (Wd f fl g gl hh v tx))
    (h4 : (¬ (p0 < 0)) → (¬ ((f 68) ≤ p0)) → (¬ p1 = 0) → (¬ p1 = 1) → (p1 = 2) → P (some (.int (((g 5) p0.toNatClampNeg) - (((g 5) p0.toNatClampNeg) / 10) * 10))) (Wd f fl g gl hh v tx))
    (h5 : (¬ (p0 < 0)) → (¬ ((f 68) ≤ p0)) → (¬ p1 = 0) → (¬ p1 = 1) → (¬ p1 = 2) → P (some (.int (-1))) (Wd f fl g gl hh v tx)) :
    WP X (d + 2) 61 (0, [some (.ref 0), some (.int p0), some (.int p1)], [], Wd f fl g gl hh v tx) P := by
  refine WP.run hP_61 4 (c' := (8, [some (.ref 0), some (.int p0), some (.int p1)], [.int (f 68), .int p0], Wd f fl g gl hh v tx)) rfl ?_
  refine WP.call hP_61 hP_99 (as := [.int p0, .int (f 68)]) (pc' := 11) (L' := [some (.ref 0), some (.int p0), some (.int p1)]) (st' := []) (w1 := Wd f fl g gl hh v tx) rfl ⟨Nat.le_of_ble_eq_true rfl, Nat.le_of_ble_eq_true rfl⟩ rfl (x_within X (d + 1) f fl g gl hh v tx p0 (f 68) _  (fun c1 => ?_) (fun c2 c3 => ?_) (fun c4 c5 => ?_))
  · refine WP.run hP_61 2 (c' := (31, [none, none, none], [.int (-1)], Wd f fl g gl hh v tx)) rfl ?_
    exact WP.retI hP_61 rfl rfl (h0 c1)
  · refine WP.run hP_61 2 (c' := (31, [none, none, none], [.int (-1)], Wd f fl g gl hh v tx)) rfl ?_
    exact WP.retI hP_61 rfl rfl (h1 c2 c3)
  · refine WP.run hP_61 5 (c' := (22, [some (.ref 0), some (.int p0), some (.int p1)], [.int p0, .ref 5], Wd f fl g gl hh v tx)) rfl ?_
    refine WP.of (fun _ _ => Ex.iald hP_61 rfl (Wa_5 _ _ _ _ _ _ _) (i0 c4 c5)) ?_
    refine WP.run hP_61 1 (c' := (24, [some (.ref 0), some (.int p0), some (.int p1)], [.int p1, .int ((g 5) p0.toNatClampNeg)], Wd f fl g gl hh v tx)) rfl ?_
    refine WP.call hP_61 hP_113 (as := [.int ((g 5) p0.toNatClampNeg), .int p1]) (pc' := 27) (L' := [some (.ref 0), some (.int p0), some (.int p1)]) (st' := []) (w1 := Wd f fl g gl hh v tx) rfl ⟨Nat.le_of_ble_eq_true rfl, Nat.le_of_ble_eq_true rfl⟩ rfl (x_detail X (d) f fl g gl hh v tx ((g 5) p0.toNatClampNeg) p1 _  (fun c6 => ?_) (fun c7 c8 => ?_) (fun c9 c10 c11 => ?_) (fun c12 c13 c14 => ?_))
    · refine WP.run hP_61 1 (c' := (31, [some (.ref 0), some (.int p0), some (.int p1)], [.int (((g 5) p0.toNatClampNeg) / 40)], Wd f fl g gl hh v tx)) rfl ?_
      exact WP.retI hP_61 rfl rfl (h2 c4 c5 c6)
    · refine WP.run hP_61 1 (c' := (31, [some (.ref 0), some (.int p0), some (.int p1)], [.int ((((g 5) p0.toNatClampNeg) / 10) - ((((g 5) p0.toNatClampNeg) / 10) / 4) * 4)], Wd f fl g gl hh v tx)) rfl ?_
      exact WP.retI hP_61 rfl rfl (h3 c4 c5 c7 c8)
    · refine WP.run hP_61 1 (c' := (31, [some (.ref 0), some (.int p0), some (.int p1)], [.int (((g 5) p0.toNatClampNeg) - (((g 5) p0.toNatClampNeg) / 10) * 10)], Wd f fl g gl hh v tx)) rfl ?_
      exact WP.retI hP_61 rfl rfl (h4 c4 c5 c9 c10 c11)
    · refine WP.run hP_61 1 (c' := (31, [some (.ref 0), some (.int p0), some (.int p1)], [.int (-1)], Wd f fl g gl hh v tx)) rfl ?_
      exact WP.retI hP_61 rfl rfl (h5 c4 c5 c12 c13 c14)

set_option maxRecDepth 20000 in
theorem x_line (X : mm_X) (d : Nat) (f : Nat → Int32) (fl : Nat → Int64) (g : Nat → Nat → Int32) (gl : Nat → Nat → Int64) (hh : Nat → Nat → Option Nat) (v : Nat → Value) (tx : mm_W) (p0 : Int32) (P : Option Value → mm_W → Prop)
    (h0 : (p0 < 0) → P (some (.int (-1))) (Wd f fl g gl hh v tx))
    (h1 : (¬ (p0 < 0)) → ((f 70) ≤ p0) → P (some (.int (-1))) (Wd f fl g gl hh v tx))
    (h2 : (¬ (p0 < 0)) → (¬ ((f 70) ≤ p0)) → P (some (.int (((f 71) >>> ((2 * (((f 70) - 1) - p0)) &&& 31)) &&& 3))) (Wd f fl g gl hh v tx)) :
    WP X (d + 1) 63 (0, [some (.ref 0), some (.int p0)], [], Wd f fl g gl hh v tx) P := by
  refine WP.run hP_63 4 (c' := (8, [some (.ref 0), some (.int p0)], [.int (f 70), .int p0], Wd f fl g gl hh v tx)) rfl ?_
  refine WP.call hP_63 hP_99 (as := [.int p0, .int (f 70)]) (pc' := 11) (L' := [some (.ref 0), some (.int p0)]) (st' := []) (w1 := Wd f fl g gl hh v tx) rfl ⟨Nat.le_of_ble_eq_true rfl, Nat.le_of_ble_eq_true rfl⟩ rfl (x_within X (d) f fl g gl hh v tx p0 (f 70) _  (fun c1 => ?_) (fun c2 c3 => ?_) (fun c4 c5 => ?_))
  · refine WP.run hP_63 2 (c' := (41, [none, none], [.int (-1)], Wd f fl g gl hh v tx)) rfl ?_
    exact WP.retI hP_63 rfl rfl (h0 c1)
  · refine WP.run hP_63 2 (c' := (41, [none, none], [.int (-1)], Wd f fl g gl hh v tx)) rfl ?_
    exact WP.retI hP_63 rfl rfl (h1 c2 c3)
  · refine WP.run hP_63 17 (c' := (41, [some (.ref 0), some (.int p0)], [.int (((f 71) >>> ((2 * (((f 70) - 1) - p0)) &&& 31)) &&& 3)], Wd f fl g gl hh v tx)) rfl ?_
    exact WP.retI hP_63 rfl rfl (h2 c4 c5)

set_option maxRecDepth 20000 in
theorem x_end (X : mm_X) (d : Nat) (f : Nat → Int32) (fl : Nat → Int64) (g : Nat → Nat → Int32) (gl : Nat → Nat → Int64) (hh : Nat → Nat → Option Nat) (v : Nat → Value) (tx : mm_W) (p0 : Int32) (P : Option Value → mm_W → Prop)
    (h0 : (p0 < 0) → P (some (.int (-1))) (Wd f fl g gl hh v tx))
    (h1 : (¬ (p0 < 0)) → (p0 ≤ (f 6)) → P (some (.int p0)) (Wd (va_up f 6 p0) fl g gl hh v tx))
    (h2 : (¬ (p0 < 0)) → (¬ (p0 ≤ (f 6))) → P (some (.int (-1))) (Wd f fl g gl hh v tx)) :
    WP X d 66 (0, [some (.ref 0), some (.int p0)], [], Wd f fl g gl hh v tx) P := by
  refine WP.run hP_66 1 (c' := (1, [some (.ref 0), some (.int p0)], [.int p0], Wd f fl g gl hh v tx)) rfl ?_
  refine WP.br hP_66 (q := p0 < 0) (t := 12) (f := 4) (L := [some (.ref 0), some (.int p0)]) (st := []) (w := Wd f fl g gl hh v tx) rfl (fun c1 => ?_) (fun c1 => ?_)
  · refine WP.run hP_66 1 (c' := (13, [none, none], [.int (-1)], Wd f fl g gl hh v tx)) rfl ?_
    exact WP.retI hP_66 rfl rfl (h0 c1)
  · refine WP.run hP_66 3 (c' := (9, [some (.ref 0), some (.int p0)], [.int (f 6), .int p0], Wd f fl g gl hh v tx)) rfl ?_
    refine WP.br hP_66 (q := p0 ≤ (f 6)) (t := 14) (f := 12) (L := [some (.ref 0), some (.int p0)]) (st := []) (w := Wd f fl g gl hh v tx) rfl (fun c2 => ?_) (fun c2 => ?_)
    · refine WP.run hP_66 4 (c' := (20, [some (.ref 0), some (.int p0)], [.int p0], Wd (va_up f 6 p0) fl g gl hh v tx)) rfl ?_
      exact WP.retI hP_66 rfl rfl (h1 c1 c2)
    · refine WP.run hP_66 1 (c' := (13, [none, none], [.int (-1)], Wd f fl g gl hh v tx)) rfl ?_
      exact WP.retI hP_66 rfl rfl (h2 c1 c2)

set_option maxRecDepth 20000 in
theorem x_soap (X : mm_X) (d : Nat) (f : Nat → Int32) (fl : Nat → Int64) (g : Nat → Nat → Int32) (gl : Nat → Nat → Int64) (hh : Nat → Nat → Option Nat) (v : Nat → Value) (tx : mm_W)  (P : Option Value → mm_W → Prop)
    (h0 : P (some (.int (f 15))) (Wd f fl g gl hh v tx)) :
    WP X d 68 (0, [some (.ref 0)], [], Wd f fl g gl hh v tx) P := by
  refine WP.run hP_68 2 (c' := (4, [some (.ref 0)], [.int (f 15)], Wd f fl g gl hh v tx)) rfl ?_
  exact WP.retI hP_68 rfl rfl h0

set_option maxRecDepth 20000 in
theorem x_fault (X : mm_X) (d : Nat) (f : Nat → Int32) (fl : Nat → Int64) (g : Nat → Nat → Int32) (gl : Nat → Nat → Int64) (hh : Nat → Nat → Option Nat) (v : Nat → Value) (tx : mm_W)  (P : Option Value → mm_W → Prop)
    (h0 : P (some (.int (f 14))) (Wd f fl g gl hh v tx)) :
    WP X d 71 (0, [some (.ref 0)], [], Wd f fl g gl hh v tx) P := by
  refine WP.run hP_71 2 (c' := (4, [some (.ref 0)], [.int (f 14)], Wd f fl g gl hh v tx)) rfl ?_
  exact WP.retI hP_71 rfl rfl h0

set_option maxRecDepth 20000 in
theorem x_stopped (X : mm_X) (d : Nat) (f : Nat → Int32) (fl : Nat → Int64) (g : Nat → Nat → Int32) (gl : Nat → Nat → Int64) (hh : Nat → Nat → Option Nat) (v : Nat → Value) (tx : mm_W)  (P : Option Value → mm_W → Prop)
    (h0 : P (some (.int (f 16))) (Wd f fl g gl hh v tx)) :
    WP X d 72 (0, [some (.ref 0)], [], Wd f fl g gl hh v tx) P := by
  refine WP.run hP_72 2 (c' := (4, [some (.ref 0)], [.int (f 16)], Wd f fl g gl hh v tx)) rfl ?_
  exact WP.retI hP_72 rfl rfl h0

set_option maxRecDepth 20000 in
theorem x_force (X : mm_X) (d : Nat) (f : Nat → Int32) (fl : Nat → Int64) (g : Nat → Nat → Int32) (gl : Nat → Nat → Int64) (hh : Nat → Nat → Option Nat) (v : Nat → Value) (tx : mm_W) (p0 : Int32) (P : Option Value → mm_W → Prop)
    (h0 : (p0 < (-1)) → P (some (.int (-2 : Int32))) (Wd (va_up f 18 (-2 : Int32)) fl (va_up g 55 (upd (g 55) (2 : Int32).toNatClampNeg (((g 55) (2 : Int32).toNatClampNeg) + 1))) gl hh v tx))
    (h1 : (¬ (p0 < (-1))) → (p0 < (f 74)) → P (some (.int (f 76))) (Wd (va_up (va_up f 76 p0) 18 0) fl g gl hh v tx))
    (h2 : (¬ (p0 < (-1))) → (¬ (p0 < (f 74))) → P (some (.int (-2 : Int32))) (Wd (va_up f 18 (-2 : Int32)) fl (va_up g 55 (upd (g 55) (2 : Int32).toNatClampNeg (((g 55) (2 : Int32).toNatClampNeg) + 1))) gl hh v tx)) :
    WP X (d + 2) 73 (0, [some (.ref 0), some (.int p0), none], [], Wd f fl g gl hh v tx) P := by
  refine WP.run hP_73 2 (c' := (2, [some (.ref 0), some (.int p0), none], [.int (-1), .int p0], Wd f fl g gl hh v tx)) rfl ?_
  refine WP.br hP_73 (q := p0 < (-1)) (t := 16) (f := 5) (L := [some (.ref 0), some (.int p0), none]) (st := []) (w := Wd f fl g gl hh v tx) rfl (fun c1 => ?_) (fun c1 => ?_)
  · refine WP.run hP_73 2 (c' := (19, [some (.ref 0), none, none], [.int (-2), .ref 0], Wd f fl g gl hh v tx)) rfl ?_
    refine WP.call hP_73 hP_101 (as := [.ref 0, .int (-2)]) (pc' := 22) (L' := [some (.ref 0), none, none]) (st' := []) (w1 := Wd f fl g gl hh v tx) rfl ⟨Nat.le_of_ble_eq_true rfl, Nat.le_of_ble_eq_true rfl⟩ rfl (x_refused X (d) f fl g gl hh v tx (-2) _ (fun _ _ => by decide) (fun _ _ => by decide) (fun b0 => absurd b0 (by decide)) (fun b0 b1 => absurd b1 (by decide)) (fun c2 c3 => ?_))
    · exact WP.retI hP_73 rfl rfl (h0 c1)
  · refine WP.run hP_73 4 (c' := (13, [some (.ref 0), some (.int p0), none], [.int (f 74), .int p0], Wd f fl g gl hh v tx)) rfl ?_
    refine WP.br hP_73 (q := p0 < (f 74)) (t := 23) (f := 16) (L := [some (.ref 0), some (.int p0), none]) (st := []) (w := Wd f fl g gl hh v tx) rfl (fun c4 => ?_) (fun c4 => ?_)
    · refine WP.run hP_73 10 (c' := (41, [some (.ref 0), some (.int p0), some (.int (f 76))], [.int (f 76), .ref 0], Wd (va_up f 76 p0) fl g gl hh v tx)) rfl ?_
      refine WP.call hP_73 hP_100 (as := [.ref 0, .int (f 76)]) (pc' := 44) (L' := [some (.ref 0), some (.int p0), some (.int (f 76))]) (st' := []) (w1 := Wd (va_up f 76 p0) fl g gl hh v tx) rfl ⟨Nat.le_of_ble_eq_true rfl, Nat.le_of_ble_eq_true rfl⟩ rfl (x_accepted X (d + 1) (va_up f 76 p0) fl g gl hh v tx (f 76) _  ?_)
      · exact WP.retI hP_73 rfl rfl (h1 c1 c4)
    · refine WP.run hP_73 2 (c' := (19, [some (.ref 0), none, none], [.int (-2), .ref 0], Wd f fl g gl hh v tx)) rfl ?_
      refine WP.call hP_73 hP_101 (as := [.ref 0, .int (-2)]) (pc' := 22) (L' := [some (.ref 0), none, none]) (st' := []) (w1 := Wd f fl g gl hh v tx) rfl ⟨Nat.le_of_ble_eq_true rfl, Nat.le_of_ble_eq_true rfl⟩ rfl (x_refused X (d) f fl g gl hh v tx (-2) _ (fun _ _ => by decide) (fun _ _ => by decide) (fun b0 => absurd b0 (by decide)) (fun b0 b1 => absurd b1 (by decide)) (fun c5 c6 => ?_))
      · exact WP.retI hP_73 rfl rfl (h2 c1 c4)

set_option maxRecDepth 20000 in
theorem x_settled (X : mm_X) (d : Nat) (f : Nat → Int32) (fl : Nat → Int64) (g : Nat → Nat → Int32) (gl : Nat → Nat → Int64) (hh : Nat → Nat → Option Nat) (v : Nat → Value) (tx : mm_W) (p0 : Int32) (P : Option Value → mm_W → Prop)
    (i0 : (¬ (0 ≤ p0)) → (¬ ((-p0) < 0)) → (¬ ((7 : Int32) ≤ (-p0))) → ¬ ((-p0) < 0 ∨ 7 ≤ (-p0).toNatClampNeg))
    (i1 : (¬ (0 ≤ p0)) → (¬ ((-p0) < 0)) → (¬ ((7 : Int32) ≤ (-p0))) → ¬ ((-p0) < 0 ∨ 7 ≤ (-p0).toNatClampNeg))
    (h0 : (0 ≤ p0) → P (some (.int p0)) (Wd (va_up f 18 0) fl g gl hh v tx))
    (h1 : (¬ (0 ≤ p0)) → ((-p0) < 0) → P (some (.int p0)) (Wd (va_up f 18 p0) fl g gl hh v tx))
    (h2 : (¬ (0 ≤ p0)) → (¬ ((-p0) < 0)) → ((7 : Int32) ≤ (-p0)) → P (some (.int p0)) (Wd (va_up f 18 p0) fl g gl hh v tx))
    (h3 : (¬ (0 ≤ p0)) → (¬ ((-p0) < 0)) → (¬ ((7 : Int32) ≤ (-p0))) → P (some (.int p0)) (Wd (va_up f 18 p0) fl (va_up g 55 (upd (g 55) (-p0).toNatClampNeg (((g 55) (-p0).toNatClampNeg) + 1))) gl hh v tx)) :
    WP X (d + 2) 102 (0, [some (.ref 0), some (.int p0)], [], Wd f fl g gl hh v tx) P := by
  refine WP.run hP_102 1 (c' := (1, [some (.ref 0), some (.int p0)], [.int p0], Wd f fl g gl hh v tx)) rfl ?_
  refine WP.br hP_102 (q := 0 ≤ p0) (t := 12) (f := 4) (L := [some (.ref 0), some (.int p0)]) (st := []) (w := Wd f fl g gl hh v tx) rfl (fun c1 => ?_) (fun c1 => ?_)
  · refine WP.run hP_102 2 (c' := (14, [some (.ref 0), some (.int p0)], [.int p0, .ref 0], Wd f fl g gl hh v tx)) rfl ?_
    refine WP.call hP_102 hP_100 (as := [.ref 0, .int p0]) (pc' := 17) (L' := [some (.ref 0), some (.int p0)]) (st' := []) (w1 := Wd f fl g gl hh v tx) rfl ⟨Nat.le_of_ble_eq_true rfl, Nat.le_of_ble_eq_true rfl⟩ rfl (x_accepted X (d + 1) f fl g gl hh v tx p0 _  ?_)
    · exact WP.retI hP_102 rfl rfl (h0 c1)
  · refine WP.run hP_102 2 (c' := (6, [some (.ref 0), some (.int p0)], [.int p0, .ref 0], Wd f fl g gl hh v tx)) rfl ?_
    refine WP.call hP_102 hP_101 (as := [.ref 0, .int p0]) (pc' := 9) (L' := [some (.ref 0), some (.int p0)]) (st' := []) (w1 := Wd f fl g gl hh v tx) rfl ⟨Nat.le_of_ble_eq_true rfl, Nat.le_of_ble_eq_true rfl⟩ rfl (x_refused X (d) f fl g gl hh v tx p0 _ (i0 c1) (i1 c1) (fun c2 => ?_) (fun c3 c4 => ?_) (fun c5 c6 => ?_))
    · refine WP.run hP_102 1 (c' := (17, [some (.ref 0), some (.int p0)], [.int p0], Wd (va_up f 18 p0) fl g gl hh v tx)) rfl ?_
      exact WP.retI hP_102 rfl rfl (h1 c1 c2)
    · refine WP.run hP_102 1 (c' := (17, [some (.ref 0), some (.int p0)], [.int p0], Wd (va_up f 18 p0) fl g gl hh v tx)) rfl ?_
      exact WP.retI hP_102 rfl rfl (h2 c1 c3 c4)
    · refine WP.run hP_102 1 (c' := (17, [some (.ref 0), some (.int p0)], [.int p0], Wd (va_up f 18 p0) fl (va_up g 55 (upd (g 55) (-p0).toNatClampNeg (((g 55) (-p0).toNatClampNeg) + 1))) gl hh v tx)) rfl ?_
      exact WP.retI hP_102 rfl rfl (h3 c1 c5 c6)

set_option maxRecDepth 20000 in
theorem x_seen (X : mm_X) (d : Nat) (f : Nat → Int32) (fl : Nat → Int64) (g : Nat → Nat → Int32) (gl : Nat → Nat → Int64) (hh : Nat → Nat → Option Nat) (v : Nat → Value) (tx : mm_W) (p0 : Int32) (P : Option Value → mm_W → Prop)
    (i0 : (¬ (p0 < 0)) → (¬ ((6 : Int32) ≤ p0)) → ((f 72) < 6) → ¬ ((f 72) < 0 ∨ 6 ≤ (f 72).toNatClampNeg))
    (h0 : (p0 < 0) → P (some (.int (-1 : Int32))) (Wd (va_up f 18 (-1 : Int32)) fl (va_up g 55 (upd (g 55) (1 : Int32).toNatClampNeg (((g 55) (1 : Int32).toNatClampNeg) + 1))) gl hh v tx))
    (h1 : (¬ (p0 < 0)) → ((6 : Int32) ≤ p0) → P (some (.int (-1 : Int32))) (Wd (va_up f 18 (-1 : Int32)) fl (va_up g 55 (upd (g 55) (1 : Int32).toNatClampNeg (((g 55) (1 : Int32).toNatClampNeg) + 1))) gl hh v tx))
    (h2 : (¬ (p0 < 0)) → (¬ ((6 : Int32) ≤ p0)) → ((f 72) < 6) → P (some (.int ((f 72) + 1))) (Wd (va_up (va_up f 72 ((f 72) + 1)) 18 0) fl (va_up g 6 (upd (g 6) (f 72).toNatClampNeg p0)) gl hh v tx))
    (h3 : (¬ (p0 < 0)) → (¬ ((6 : Int32) ≤ p0)) → (¬ ((f 72) < 6)) → P (some (.int (-5 : Int32))) (Wd (va_up f 18 (-5 : Int32)) fl (va_up g 55 (upd (g 55) (5 : Int32).toNatClampNeg (((g 55) (5 : Int32).toNatClampNeg) + 1))) gl hh v tx)) :
    WP X (d + 2) 88 (0, [some (.ref 0), some (.int p0)], [], Wd f fl g gl hh v tx) P := by
  refine WP.run hP_88 2 (c' := (3, [some (.ref 0), some (.int p0)], [.int 6, .int p0], Wd f fl g gl hh v tx)) rfl ?_
  refine WP.call hP_88 hP_99 (as := [.int p0, .int 6]) (pc' := 6) (L' := [some (.ref 0), some (.int p0)]) (st' := []) (w1 := Wd f fl g gl hh v tx) rfl ⟨Nat.le_of_ble_eq_true rfl, Nat.le_of_ble_eq_true rfl⟩ rfl (x_within X (d + 1) f fl g gl hh v tx p0 6 _  (fun c1 => ?_) (fun c4 c5 => ?_) (fun c8 c9 => ?_))
  · refine WP.run hP_88 3 (c' := (11, [some (.ref 0), some (.int p0)], [.int (-1), .ref 0], Wd f fl g gl hh v tx)) rfl ?_
    refine WP.call hP_88 hP_101 (as := [.ref 0, .int (-1)]) (pc' := 14) (L' := [some (.ref 0), some (.int p0)]) (st' := []) (w1 := Wd f fl g gl hh v tx) rfl ⟨Nat.le_of_ble_eq_true rfl, Nat.le_of_ble_eq_true rfl⟩ rfl (x_refused X (d) f fl g gl hh v tx (-1) _ (fun _ _ => by decide) (fun _ _ => by decide) (fun b0 => absurd b0 (by decide)) (fun b0 b1 => absurd b1 (by decide)) (fun c2 c3 => ?_))
    · exact WP.retI hP_88 rfl rfl (h0 c1)
  · refine WP.run hP_88 3 (c' := (11, [some (.ref 0), some (.int p0)], [.int (-1), .ref 0], Wd f fl g gl hh v tx)) rfl ?_
    refine WP.call hP_88 hP_101 (as := [.ref 0, .int (-1)]) (pc' := 14) (L' := [some (.ref 0), some (.int p0)]) (st' := []) (w1 := Wd f fl g gl hh v tx) rfl ⟨Nat.le_of_ble_eq_true rfl, Nat.le_of_ble_eq_true rfl⟩ rfl (x_refused X (d) f fl g gl hh v tx (-1) _ (fun _ _ => by decide) (fun _ _ => by decide) (fun b0 => absurd b0 (by decide)) (fun b0 b1 => absurd b1 (by decide)) (fun c6 c7 => ?_))
    · exact WP.retI hP_88 rfl rfl (h1 c4 c5)
  · refine WP.run hP_88 5 (c' := (24, [some (.ref 0), some (.int p0)], [.int 6, .int (f 72)], Wd f fl g gl hh v tx)) rfl ?_
    refine WP.br hP_88 (q := (f 72) < 6) (t := 34) (f := 27) (L := [some (.ref 0), some (.int p0)]) (st := []) (w := Wd f fl g gl hh v tx) rfl (fun c10 => ?_) (fun c10 => ?_)
    · refine WP.run hP_88 7 (c' := (49, [some (.ref 0), some (.int p0)], [.int p0, .int (f 72), .ref 6], Wd f fl g gl hh v tx)) rfl ?_
      refine WP.of (fun _ _ => Ex.iast hP_88 (w2 := Wd f fl (va_up g 6 (upd (g 6) (f 72).toNatClampNeg p0)) gl hh v tx) rfl (Wa_6 _ _ _ _ _ _ _) (i0 c8 c9 c10) (Ws_6 _ _ _ _ _ _ _ _)) ?_
      refine WP.run hP_88 11 (c' := (71, [some (.ref 0), some (.int p0)], [.int ((f 72) + 1), .ref 0], Wd (va_up f 72 ((f 72) + 1)) fl (va_up g 6 (upd (g 6) (f 72).toNatClampNeg p0)) gl hh v tx)) rfl ?_
      refine WP.call hP_88 hP_100 (as := [.ref 0, .int ((f 72) + 1)]) (pc' := 74) (L' := [some (.ref 0), some (.int p0)]) (st' := []) (w1 := Wd (va_up f 72 ((f 72) + 1)) fl (va_up g 6 (upd (g 6) (f 72).toNatClampNeg p0)) gl hh v tx) rfl ⟨Nat.le_of_ble_eq_true rfl, Nat.le_of_ble_eq_true rfl⟩ rfl (x_accepted X (d + 1) (va_up f 72 ((f 72) + 1)) fl (va_up g 6 (upd (g 6) (f 72).toNatClampNeg p0)) gl hh v tx ((f 72) + 1) _  ?_)
      · exact WP.retI hP_88 rfl rfl (h2 c8 c9 c10)
    · refine WP.run hP_88 2 (c' := (30, [some (.ref 0), some (.int p0)], [.int (-5), .ref 0], Wd f fl g gl hh v tx)) rfl ?_
      refine WP.call hP_88 hP_101 (as := [.ref 0, .int (-5)]) (pc' := 33) (L' := [some (.ref 0), some (.int p0)]) (st' := []) (w1 := Wd f fl g gl hh v tx) rfl ⟨Nat.le_of_ble_eq_true rfl, Nat.le_of_ble_eq_true rfl⟩ rfl (x_refused X (d) f fl g gl hh v tx (-5) _ (fun _ _ => by decide) (fun _ _ => by decide) (fun b0 => absurd b0 (by decide)) (fun b0 b1 => absurd b1 (by decide)) (fun c11 c12 => ?_))
      · exact WP.retI hP_88 rfl rfl (h3 c8 c9 c10)

set_option maxRecDepth 20000 in
theorem x_forget (X : mm_X) (d : Nat) (f : Nat → Int32) (fl : Nat → Int64) (g : Nat → Nat → Int32) (gl : Nat → Nat → Int64) (hh : Nat → Nat → Option Nat) (v : Nat → Value) (tx : mm_W)  (P : Option Value → mm_W → Prop)
    (h0 : P (some (.int (f 72))) (Wd (va_up f 72 0) fl g gl hh v tx)) :
    WP X d 89 (0, [some (.ref 0), none], [], Wd f fl g gl hh v tx) P := by
  refine WP.run hP_89 9 (c' := (17, [some (.ref 0), some (.int (f 72))], [.int (f 72)], Wd (va_up f 72 0) fl g gl hh v tx)) rfl ?_
  exact WP.retI hP_89 rfl rfl h0

set_option maxRecDepth 20000 in
theorem x_drawn (X : mm_X) (d : Nat) (f : Nat → Int32) (fl : Nat → Int64) (g : Nat → Nat → Int32) (gl : Nat → Nat → Int64) (hh : Nat → Nat → Option Nat) (v : Nat → Value) (tx : mm_W) (p0 : Int32) (p1 : Int32) (P : Option Value → mm_W → Prop)
    (i0 : (¬ (p0 < 0)) → (¬ ((f 1220) ≤ p0)) → ¬ (p0 < 0 ∨ 3 ≤ p0.toNatClampNeg))
    (h0 : (p0 < 0) → P (some (.int (-1))) (Wd f fl g gl hh v tx))
    (h1 : (¬ (p0 < 0)) → ((f 1220) ≤ p0) → P (some (.int (-1))) (Wd f fl g gl hh v tx))
    (h2 : (¬ (p0 < 0)) → (¬ ((f 1220) ≤ p0)) → (p1 = 0) → P (some (.int (((g 23) p0.toNatClampNeg) / 40))) (Wd f fl g gl hh v tx))
    (h3 : (¬ (p0 < 0)) → (¬ ((f 1220) ≤ p0)) → (¬ p1 = 0) → (p1 = 1) → P (some (.int ((((g 23) p0.toNatClampNeg) / 10) - ((((g 23) p0.toNatClampNeg) / 10) / 4) * 4))) (Wd f fl g gl hh v tx))
    (h4 : (¬ (p0 < 0)) → (¬ ((f 1220) ≤ p0)) → (¬ p1 = 0) → (¬ p1 = 1) → (p1 = 2) → P (some (.int (((g 23) p0.toNatClampNeg) - (((g 23) p0.toNatClampNeg) / 10) * 10))) (Wd f fl g gl hh v tx))
    (h5 : (¬ (p0 < 0)) → (¬ ((f 1220) ≤ p0)) → (¬ p1 = 0) → (¬ p1 = 1) → (¬ p1 = 2) → P (some (.int (-1))) (Wd f fl g gl hh v tx)) :
    WP X (d + 2) 94 (0, [some (.ref 0), some (.int p0), some (.int p1)], [], Wd f fl g gl hh v tx) P := by
  refine WP.run hP_94 4 (c' := (8, [some (.ref 0), some (.int p0), some (.int p1)], [.int (f 1220), .int p0], Wd f fl g gl hh v tx)) rfl ?_
  refine WP.call hP_94 hP_99 (as := [.int p0, .int (f 1220)]) (pc' := 11) (L' := [some (.ref 0), some (.int p0), some (.int p1)]) (st' := []) (w1 := Wd f fl g gl hh v tx) rfl ⟨Nat.le_of_ble_eq_true rfl, Nat.le_of_ble_eq_true rfl⟩ rfl (x_within X (d + 1) f fl g gl hh v tx p0 (f 1220) _  (fun c1 => ?_) (fun c2 c3 => ?_) (fun c4 c5 => ?_))
  · refine WP.run hP_94 2 (c' := (31, [none, none, none], [.int (-1)], Wd f fl g gl hh v tx)) rfl ?_
    exact WP.retI hP_94 rfl rfl (h0 c1)
  · refine WP.run hP_94 2 (c' := (31, [none, none, none], [.int (-1)], Wd f fl g gl hh v tx)) rfl ?_
    exact WP.retI hP_94 rfl rfl (h1 c2 c3)
  · refine WP.run hP_94 5 (c' := (22, [some (.ref 0), some (.int p0), some (.int p1)], [.int p0, .ref 23], Wd f fl g gl hh v tx)) rfl ?_
    refine WP.of (fun _ _ => Ex.iald hP_94 rfl (Wa_23 _ _ _ _ _ _ _) (i0 c4 c5)) ?_
    refine WP.run hP_94 1 (c' := (24, [some (.ref 0), some (.int p0), some (.int p1)], [.int p1, .int ((g 23) p0.toNatClampNeg)], Wd f fl g gl hh v tx)) rfl ?_
    refine WP.call hP_94 hP_113 (as := [.int ((g 23) p0.toNatClampNeg), .int p1]) (pc' := 27) (L' := [some (.ref 0), some (.int p0), some (.int p1)]) (st' := []) (w1 := Wd f fl g gl hh v tx) rfl ⟨Nat.le_of_ble_eq_true rfl, Nat.le_of_ble_eq_true rfl⟩ rfl (x_detail X (d) f fl g gl hh v tx ((g 23) p0.toNatClampNeg) p1 _  (fun c6 => ?_) (fun c7 c8 => ?_) (fun c9 c10 c11 => ?_) (fun c12 c13 c14 => ?_))
    · refine WP.run hP_94 1 (c' := (31, [some (.ref 0), some (.int p0), some (.int p1)], [.int (((g 23) p0.toNatClampNeg) / 40)], Wd f fl g gl hh v tx)) rfl ?_
      exact WP.retI hP_94 rfl rfl (h2 c4 c5 c6)
    · refine WP.run hP_94 1 (c' := (31, [some (.ref 0), some (.int p0), some (.int p1)], [.int ((((g 23) p0.toNatClampNeg) / 10) - ((((g 23) p0.toNatClampNeg) / 10) / 4) * 4)], Wd f fl g gl hh v tx)) rfl ?_
      exact WP.retI hP_94 rfl rfl (h3 c4 c5 c7 c8)
    · refine WP.run hP_94 1 (c' := (31, [some (.ref 0), some (.int p0), some (.int p1)], [.int (((g 23) p0.toNatClampNeg) - (((g 23) p0.toNatClampNeg) / 10) * 10)], Wd f fl g gl hh v tx)) rfl ?_
      exact WP.retI hP_94 rfl rfl (h4 c4 c5 c9 c10 c11)
    · refine WP.run hP_94 1 (c' := (31, [some (.ref 0), some (.int p0), some (.int p1)], [.int (-1)], Wd f fl g gl hh v tx)) rfl ?_
      exact WP.retI hP_94 rfl rfl (h5 c4 c5 c12 c13 c14)

set_option maxRecDepth 20000 in
theorem x_status (X : mm_X) (d : Nat) (f : Nat → Int32) (fl : Nat → Int64) (g : Nat → Nat → Int32) (gl : Nat → Nat → Int64) (hh : Nat → Nat → Option Nat) (v : Nat → Value) (tx : mm_W)  (P : Option Value → mm_W → Prop)
    (h0 : P (some (.int (f 18))) (Wd f fl g gl hh v tx)) :
    WP X d 98 (0, [some (.ref 0)], [], Wd f fl g gl hh v tx) P := by
  refine WP.run hP_98 2 (c' := (4, [some (.ref 0)], [.int (f 18)], Wd f fl g gl hh v tx)) rfl ?_
  exact WP.retI hP_98 rfl rfl h0

set_option maxRecDepth 20000 in
theorem x_nextDraw (X : mm_X) (d : Nat) (f : Nat → Int32) (fl : Nat → Int64) (g : Nat → Nat → Int32) (gl : Nat → Nat → Int64) (hh : Nat → Nat → Option Nat) (v : Nat → Value) (tx : mm_W) (p0 : Int32) (P : Option Value → mm_W → Prop)
    (h0 : P (some (.int (((((((p0 : Int32).toInt64) * 1103) + 12345) - (((((p0 : Int32).toInt64) * 1103) + 12345) / 1000003) * 1000003) : Int64).toInt32))) (Wd f fl g gl hh v tx)) :
    WP X d 109 (0, [some (.int p0)], [], Wd f fl g gl hh v tx) P := by
  refine WP.run hP_109 9 (c' := (15, [some (.int p0)], [.int (((((((p0 : Int32).toInt64) * 1103) + 12345) - (((((p0 : Int32).toInt64) * 1103) + 12345) / 1000003) * 1000003) : Int64).toInt32)], Wd f fl g gl hh v tx)) rfl ?_
  exact WP.retI hP_109 rfl rfl h0

set_option maxRecDepth 20000 in
theorem m_lies (X : mm_X) (d : Nat) (f : Nat → Int32) (fl : Nat → Int64) (g : Nat → Nat → Int32) (gl : Nat → Nat → Int64) (hh : Nat → Nat → Option Nat) (v : Nat → Value) (tx : mm_W) (p0 : Int32) (p1 : Int32) (p2 : Int32) (P : Option Value → mm_W → Prop)
    (h0 : (p0 < p1) → P (some (.int 0)) (Wd f fl g gl hh v tx))
    (h1 : (¬ (p0 < p1)) → (p2 < p0) → P (some (.int 0)) (Wd f fl g gl hh v tx))
    (h2 : (¬ (p0 < p1)) → (¬ (p2 < p0)) → P (some (.int 1)) (Wd f fl g gl hh v tx)) :
    WP X d 116 (0, [some (.int p0), some (.int p1), some (.int p2)], [], Wd f fl g gl hh v tx) P := by
  refine WP.run hP_116 2 (c' := (2, [some (.int p0), some (.int p1), some (.int p2)], [.int p1, .int p0], Wd f fl g gl hh v tx)) rfl ?_
  refine WP.br hP_116 (q := p0 < p1) (t := 14) (f := 5) (L := [some (.int p0), some (.int p1), some (.int p2)]) (st := []) (w := Wd f fl g gl hh v tx) rfl (fun c1 => ?_) (fun c1 => ?_)
  · refine WP.run hP_116 1 (c' := (15, [none, none, none], [.int 0], Wd f fl g gl hh v tx)) rfl ?_
    exact WP.ret hP_116 (r := some (.int 0)) (w' := Wd f fl g gl hh v tx) rfl (h0 c1)
  · refine WP.run hP_116 2 (c' := (7, [some (.int p0), some (.int p1), some (.int p2)], [.int p2, .int p0], Wd f fl g gl hh v tx)) rfl ?_
    refine WP.br hP_116 (q := p2 < p0) (t := 14) (f := 10) (L := [some (.int p0), some (.int p1), some (.int p2)]) (st := []) (w := Wd f fl g gl hh v tx) rfl (fun c2 => ?_) (fun c2 => ?_)
    · refine WP.run hP_116 1 (c' := (15, [none, none, none], [.int 0], Wd f fl g gl hh v tx)) rfl ?_
      exact WP.ret hP_116 (r := some (.int 0)) (w' := Wd f fl g gl hh v tx) rfl (h1 c1 c2)
    · refine WP.run hP_116 2 (c' := (15, [some (.int p0), some (.int p1), some (.int p2)], [.int 1], Wd f fl g gl hh v tx)) rfl ?_
      exact WP.ret hP_116 (r := some (.int 1)) (w' := Wd f fl g gl hh v tx) rfl (h2 c1 c2)

set_option maxRecDepth 20000 in
theorem m_lesser (X : mm_X) (d : Nat) (f : Nat → Int32) (fl : Nat → Int64) (g : Nat → Nat → Int32) (gl : Nat → Nat → Int64) (hh : Nat → Nat → Option Nat) (v : Nat → Value) (tx : mm_W) (p0 : Int32) (p1 : Int32) (P : Option Value → mm_W → Prop)
    (h0 : (p1 ≤ p0) → P (some (.int p1)) (Wd f fl g gl hh v tx))
    (h1 : (¬ (p1 ≤ p0)) → P (some (.int p0)) (Wd f fl g gl hh v tx)) :
    WP X d 117 (0, [some (.int p0), some (.int p1)], [], Wd f fl g gl hh v tx) P := by
  refine WP.run hP_117 2 (c' := (2, [some (.int p0), some (.int p1)], [.int p1, .int p0], Wd f fl g gl hh v tx)) rfl ?_
  refine WP.br hP_117 (q := p1 ≤ p0) (t := 9) (f := 5) (L := [some (.int p0), some (.int p1)]) (st := []) (w := Wd f fl g gl hh v tx) rfl (fun c1 => ?_) (fun c1 => ?_)
  · refine WP.run hP_117 1 (c' := (10, [none, some (.int p1)], [.int p1], Wd f fl g gl hh v tx)) rfl ?_
    exact WP.retI hP_117 rfl rfl (h0 c1)
  · refine WP.run hP_117 2 (c' := (10, [some (.int p0), some (.int p1)], [.int p0], Wd f fl g gl hh v tx)) rfl ?_
    exact WP.retI hP_117 rfl rfl (h1 c1)

set_option maxRecDepth 20000 in
theorem m_greater (X : mm_X) (d : Nat) (f : Nat → Int32) (fl : Nat → Int64) (g : Nat → Nat → Int32) (gl : Nat → Nat → Int64) (hh : Nat → Nat → Option Nat) (v : Nat → Value) (tx : mm_W) (p0 : Int32) (p1 : Int32) (P : Option Value → mm_W → Prop)
    (h0 : (p0 ≤ p1) → P (some (.int p1)) (Wd f fl g gl hh v tx))
    (h1 : (¬ (p0 ≤ p1)) → P (some (.int p0)) (Wd f fl g gl hh v tx)) :
    WP X d 118 (0, [some (.int p0), some (.int p1)], [], Wd f fl g gl hh v tx) P := by
  refine WP.run hP_118 2 (c' := (2, [some (.int p0), some (.int p1)], [.int p1, .int p0], Wd f fl g gl hh v tx)) rfl ?_
  refine WP.br hP_118 (q := p0 ≤ p1) (t := 9) (f := 5) (L := [some (.int p0), some (.int p1)]) (st := []) (w := Wd f fl g gl hh v tx) rfl (fun c1 => ?_) (fun c1 => ?_)
  · refine WP.run hP_118 1 (c' := (10, [none, some (.int p1)], [.int p1], Wd f fl g gl hh v tx)) rfl ?_
    exact WP.retI hP_118 rfl rfl (h0 c1)
  · refine WP.run hP_118 2 (c' := (10, [some (.int p0), some (.int p1)], [.int p0], Wd f fl g gl hh v tx)) rfl ?_
    exact WP.retI hP_118 rfl rfl (h1 c1)

set_option maxRecDepth 20000 in
theorem m_refuses (X : mm_X) (d : Nat) (f : Nat → Int32) (fl : Nat → Int64) (g : Nat → Nat → Int32) (gl : Nat → Nat → Int64) (hh : Nat → Nat → Option Nat) (v : Nat → Value) (tx : mm_W) (p0 : Int32) (P : Option Value → mm_W → Prop)
    (i0 : ¬ ((-p0) < 0 ∨ 7 ≤ (-p0).toNatClampNeg))
    (i1 : ¬ ((-p0) < 0 ∨ 7 ≤ (-p0).toNatClampNeg))
    (h0 : P (some (.int p0)) (Wd (va_up f 4736 p0) fl (va_up g 75 (upd (g 75) (-p0).toNatClampNeg (((g 75) (-p0).toNatClampNeg) + 1))) gl hh v tx)) :
    WP X d 119 (0, [some (.ref 74), some (.int p0)], [], Wd f fl g gl hh v tx) P := by
  refine WP.run hP_119 8 (c' := (12, [some (.ref 74), some (.int p0)], [.int (-p0), .ref 75, .int (-p0), .ref 75], Wd (va_up f 4736 p0) fl g gl hh v tx)) rfl ?_
  refine WP.of (fun _ _ => Ex.iald hP_119 rfl (Wa_75 _ _ _ _ _ _ _) i0) ?_
  refine WP.run hP_119 2 (c' := (15, [some (.ref 74), some (.int p0)], [.int (((g 75) (-p0).toNatClampNeg) + 1), .int (-p0), .ref 75], Wd (va_up f 4736 p0) fl g gl hh v tx)) rfl ?_
  refine WP.of (fun _ _ => Ex.iast hP_119 (w2 := Wd (va_up f 4736 p0) fl (va_up g 75 (upd (g 75) (-p0).toNatClampNeg (((g 75) (-p0).toNatClampNeg) + 1))) gl hh v tx) rfl (Wa_75 _ _ _ _ _ _ _) i1 (Ws_75 _ _ _ _ _ _ _ _)) ?_
  refine WP.run hP_119 1 (c' := (17, [some (.ref 74), some (.int p0)], [.int p0], Wd (va_up f 4736 p0) fl (va_up g 75 (upd (g 75) (-p0).toNatClampNeg (((g 75) (-p0).toNatClampNeg) + 1))) gl hh v tx)) rfl ?_
  exact WP.retI hP_119 rfl rfl h0

set_option maxRecDepth 20000 in
theorem m_good (X : mm_X) (d : Nat) (f : Nat → Int32) (fl : Nat → Int64) (g : Nat → Nat → Int32) (gl : Nat → Nat → Int64) (hh : Nat → Nat → Option Nat) (v : Nat → Value) (tx : mm_W) (p0 : Int32) (P : Option Value → mm_W → Prop)
    (h0 : P (some (.int p0)) (Wd (va_up f 4736 0) fl g gl hh v tx)) :
    WP X d 120 (0, [some (.ref 74), some (.int p0)], [], Wd f fl g gl hh v tx) P := by
  refine WP.run hP_120 4 (c' := (6, [some (.ref 74), some (.int p0)], [.int p0], Wd (va_up f 4736 0) fl g gl hh v tx)) rfl ?_
  exact WP.retI hP_120 rfl rfl h0

set_option maxRecDepth 20000 in
theorem m_settled (X : mm_X) (d : Nat) (f : Nat → Int32) (fl : Nat → Int64) (g : Nat → Nat → Int32) (gl : Nat → Nat → Int64) (hh : Nat → Nat → Option Nat) (v : Nat → Value) (tx : mm_W) (p0 : Int32) (P : Option Value → mm_W → Prop)
    (h0 : P (some (.int p0)) (Wd (va_up (va_up f 4777 0) 4736 0) fl g gl hh v tx)) :
    WP X (d + 1) 121 (0, [some (.ref 74), some (.int p0)], [], Wd f fl g gl hh v tx) P := by
  refine WP.run hP_121 5 (c' := (7, [some (.ref 74), some (.int p0)], [.int p0, .ref 74], Wd (va_up f 4777 0) fl g gl hh v tx)) rfl ?_
  refine WP.call hP_121 hP_120 (as := [.ref 74, .int p0]) (pc' := 10) (L' := [some (.ref 74), some (.int p0)]) (st' := []) (w1 := Wd (va_up f 4777 0) fl g gl hh v tx) rfl ⟨Nat.le_of_ble_eq_true rfl, Nat.le_of_ble_eq_true rfl⟩ rfl (m_good X (d) (va_up f 4777 0) fl g gl hh v tx p0 _  ?_)
  · exact WP.retI hP_121 rfl rfl h0

set_option maxRecDepth 20000 in
theorem m_isIn (X : mm_X) (d : Nat) (f : Nat → Int32) (fl : Nat → Int64) (g : Nat → Nat → Int32) (gl : Nat → Nat → Int64) (hh : Nat → Nat → Option Nat) (v : Nat → Value) (tx : mm_W) (p0 : Int32) (p1 : Int32) (P : Option Value → mm_W → Prop)
    (h0 : (¬ ((p0 >>> (p1 &&& 31)) &&& 1) = 1) → P (some (.int 0)) (Wd f fl g gl hh v tx))
    (h1 : (¬ (¬ ((p0 >>> (p1 &&& 31)) &&& 1) = 1)) → P (some (.int 1)) (Wd f fl g gl hh v tx)) :
    WP X d 122 (0, [some (.int p0), some (.int p1)], [], Wd f fl g gl hh v tx) P := by
  refine WP.run hP_122 6 (c' := (6, [some (.int p0), some (.int p1)], [.int 1, .int ((p0 >>> (p1 &&& 31)) &&& 1)], Wd f fl g gl hh v tx)) rfl ?_
  refine WP.br hP_122 (q := ¬ ((p0 >>> (p1 &&& 31)) &&& 1) = 1) (t := 13) (f := 9) (L := [some (.int p0), some (.int p1)]) (st := []) (w := Wd f fl g gl hh v tx) rfl (fun c1 => ?_) (fun c1 => ?_)
  · refine WP.run hP_122 1 (c' := (14, [none, none], [.int 0], Wd f fl g gl hh v tx)) rfl ?_
    exact WP.ret hP_122 (r := some (.int 0)) (w' := Wd f fl g gl hh v tx) rfl (h0 c1)
  · refine WP.run hP_122 2 (c' := (14, [some (.int p0), some (.int p1)], [.int 1], Wd f fl g gl hh v tx)) rfl ?_
    exact WP.ret hP_122 (r := some (.int 1)) (w' := Wd f fl g gl hh v tx) rfl (h1 c1)

set_option maxRecDepth 20000 in
theorem m_signMany (X : mm_X) (d : Nat) (f : Nat → Int32) (fl : Nat → Int64) (g : Nat → Nat → Int32) (gl : Nat → Nat → Int64) (hh : Nat → Nat → Option Nat) (v : Nat → Value) (tx : mm_W)  (P : Option Value → mm_W → Prop)
    (h0 : P (some (.int ((g 76) 55))) (Wd f fl g gl hh v tx)) :
    WP X d 129 (0, [some (.ref 74)], [], Wd f fl g gl hh v tx) P := by
  refine WP.run hP_129 4 (c' := (7, [some (.ref 74)], [.int ((g 76) 55)], Wd f fl g gl hh v tx)) rfl ?_
  exact WP.retI hP_129 rfl rfl h0

set_option maxRecDepth 20000 in
theorem m_size (X : mm_X) (d : Nat) (f : Nat → Int32) (fl : Nat → Int64) (g : Nat → Nat → Int32) (gl : Nat → Nat → Int64) (hh : Nat → Nat → Option Nat) (v : Nat → Value) (tx : mm_W)  (P : Option Value → mm_W → Prop)
    (h0 : P (some (.int ((g 76) 12))) (Wd f fl g gl hh v tx)) :
    WP X d 130 (0, [some (.ref 74)], [], Wd f fl g gl hh v tx) P := by
  refine WP.run hP_130 4 (c' := (7, [some (.ref 74)], [.int ((g 76) 12)], Wd f fl g gl hh v tx)) rfl ?_
  exact WP.retI hP_130 rfl rfl h0

set_option maxRecDepth 20000 in
theorem m_isSign (X : mm_X) (d : Nat) (f : Nat → Int32) (fl : Nat → Int64) (g : Nat → Nat → Int32) (gl : Nat → Nat → Int64) (hh : Nat → Nat → Option Nat) (v : Nat → Value) (tx : mm_W) (p0 : Int32) (P : Option Value → mm_W → Prop)
    (h0 : (p0 < (0 : Int32)) → P (some (.int 0)) (Wd f fl g gl hh v tx))
    (h1 : (¬ (p0 < (0 : Int32))) → ((((g 76) 55) - 1) < p0) → P (some (.int 0)) (Wd f fl g gl hh v tx))
    (h2 : (¬ (p0 < (0 : Int32))) → (¬ ((((g 76) 55) - 1) < p0)) → P (some (.int 1)) (Wd f fl g gl hh v tx)) :
    WP X (d + 1) 131 (0, [some (.ref 74), some (.int p0)], [], Wd f fl g gl hh v tx) P := by
  refine WP.run hP_131 3 (c' := (3, [some (.ref 74), some (.int p0)], [.ref 74, .int 0, .int p0], Wd f fl g gl hh v tx)) rfl ?_
  refine WP.call hP_131 hP_129 (as := [.ref 74]) (pc' := 6) (L' := [some (.ref 74), some (.int p0)]) (st' := [.int 0, .int p0]) (w1 := Wd f fl g gl hh v tx) rfl ⟨Nat.le_of_ble_eq_true rfl, Nat.le_of_ble_eq_true rfl⟩ rfl (m_signMany X (d) f fl g gl hh v tx  _  ?_)
  · refine WP.run hP_131 2 (c' := (8, [some (.ref 74), some (.int p0)], [.int (((g 76) 55) - 1), .int 0, .int p0], Wd f fl g gl hh v tx)) rfl ?_
    refine WP.call hP_131 hP_116 (as := [.int p0, .int 0, .int (((g 76) 55) - 1)]) (pc' := 11) (L' := [some (.ref 74), some (.int p0)]) (st' := []) (w1 := Wd f fl g gl hh v tx) rfl ⟨Nat.le_of_ble_eq_true rfl, Nat.le_of_ble_eq_true rfl⟩ rfl (m_lies X (d) f fl g gl hh v tx p0 0 (((g 76) 55) - 1) _  (fun c1 => ?_) (fun c2 c3 => ?_) (fun c4 c5 => ?_))
    · exact WP.ret hP_131 (r := some (.int 0)) (w' := Wd f fl g gl hh v tx) rfl (h0 c1)
    · exact WP.ret hP_131 (r := some (.int 0)) (w' := Wd f fl g gl hh v tx) rfl (h1 c2 c3)
    · exact WP.ret hP_131 (r := some (.int 1)) (w' := Wd f fl g gl hh v tx) rfl (h2 c4 c5)

set_option maxRecDepth 20000 in
theorem m_isShip (X : mm_X) (d : Nat) (f : Nat → Int32) (fl : Nat → Int64) (g : Nat → Nat → Int32) (gl : Nat → Nat → Int64) (hh : Nat → Nat → Option Nat) (v : Nat → Value) (tx : mm_W) (p0 : Int32) (P : Option Value → mm_W → Prop)
    (h0 : (p0 < (0 : Int32)) → P (some (.int 0)) (Wd f fl g gl hh v tx))
    (h1 : (¬ (p0 < (0 : Int32))) → ((((g 76) 56) - 1) < p0) → P (some (.int 0)) (Wd f fl g gl hh v tx))
    (h2 : (¬ (p0 < (0 : Int32))) → (¬ ((((g 76) 56) - 1) < p0)) → P (some (.int 1)) (Wd f fl g gl hh v tx)) :
    WP X (d + 1) 132 (0, [some (.ref 74), some (.int p0)], [], Wd f fl g gl hh v tx) P := by
  refine WP.run hP_132 8 (c' := (11, [some (.ref 74), some (.int p0)], [.int (((g 76) 56) - 1), .int 0, .int p0], Wd f fl g gl hh v tx)) rfl ?_
  refine WP.call hP_132 hP_116 (as := [.int p0, .int 0, .int (((g 76) 56) - 1)]) (pc' := 14) (L' := [some (.ref 74), some (.int p0)]) (st' := []) (w1 := Wd f fl g gl hh v tx) rfl ⟨Nat.le_of_ble_eq_true rfl, Nat.le_of_ble_eq_true rfl⟩ rfl (m_lies X (d) f fl g gl hh v tx p0 0 (((g 76) 56) - 1) _  (fun c1 => ?_) (fun c2 c3 => ?_) (fun c4 c5 => ?_))
  · exact WP.ret hP_132 (r := some (.int 0)) (w' := Wd f fl g gl hh v tx) rfl (h0 c1)
  · exact WP.ret hP_132 (r := some (.int 0)) (w' := Wd f fl g gl hh v tx) rfl (h1 c2 c3)
  · exact WP.ret hP_132 (r := some (.int 1)) (w' := Wd f fl g gl hh v tx) rfl (h2 c4 c5)

set_option maxRecDepth 20000 in
theorem m_ship (X : mm_X) (d : Nat) (f : Nat → Int32) (fl : Nat → Int64) (g : Nat → Nat → Int32) (gl : Nat → Nat → Int64) (hh : Nat → Nat → Option Nat) (v : Nat → Value) (tx : mm_W) (p0 : Int32) (p1 : Int32) (p2 : Int32) (P : Option Value → mm_W → Prop)
    (i0 : (¬ (p0 < (0 : Int32))) → (¬ ((24 : Int32) < p0)) → (¬ (p1 < (0 : Int32))) → (¬ ((3 : Int32) < p1)) → (¬ (p2 < (0 : Int32))) → (¬ ((9 : Int32) < p2)) → (¬ ((g 76) 56) = 3) → ¬ ((13 + ((g 76) 56)) < 0 ∨ 5667 ≤ (13 + ((g 76) 56)).toNatClampNeg))
    (i1 : (¬ (p0 < (0 : Int32))) → (¬ ((24 : Int32) < p0)) → (¬ (p1 < (0 : Int32))) → (¬ ((3 : Int32) < p1)) → (¬ (p2 < (0 : Int32))) → (¬ ((9 : Int32) < p2)) → (¬ ((g 76) 56) = 3) → ¬ ((16 + ((g 76) 56)) < 0 ∨ 5667 ≤ (16 + ((g 76) 56)).toNatClampNeg))
    (i2 : (¬ (p0 < (0 : Int32))) → (¬ ((24 : Int32) < p0)) → (¬ (p1 < (0 : Int32))) → (¬ ((3 : Int32) < p1)) → (¬ (p2 < (0 : Int32))) → (¬ ((9 : Int32) < p2)) → (¬ ((g 76) 56) = 3) → ¬ ((19 + ((g 76) 56)) < 0 ∨ 5667 ≤ (19 + ((g 76) 56)).toNatClampNeg))
    (h0 : (p0 < (0 : Int32)) → P (some (.int (-1 : Int32))) (Wd (va_up f 4736 (-1 : Int32)) fl (va_up g 75 (upd (g 75) (1 : Int32).toNatClampNeg (((g 75) (1 : Int32).toNatClampNeg) + 1))) gl hh v tx))
    (h1 : (¬ (p0 < (0 : Int32))) → ((24 : Int32) < p0) → P (some (.int (-1 : Int32))) (Wd (va_up f 4736 (-1 : Int32)) fl (va_up g 75 (upd (g 75) (1 : Int32).toNatClampNeg (((g 75) (1 : Int32).toNatClampNeg) + 1))) gl hh v tx))
    (h2 : (¬ (p0 < (0 : Int32))) → (¬ ((24 : Int32) < p0)) → (p1 < (0 : Int32)) → P (some (.int (-1 : Int32))) (Wd (va_up f 4736 (-1 : Int32)) fl (va_up g 75 (upd (g 75) (1 : Int32).toNatClampNeg (((g 75) (1 : Int32).toNatClampNeg) + 1))) gl hh v tx))
    (h3 : (¬ (p0 < (0 : Int32))) → (¬ ((24 : Int32) < p0)) → (¬ (p1 < (0 : Int32))) → ((3 : Int32) < p1) → P (some (.int (-1 : Int32))) (Wd (va_up f 4736 (-1 : Int32)) fl (va_up g 75 (upd (g 75) (1 : Int32).toNatClampNeg (((g 75) (1 : Int32).toNatClampNeg) + 1))) gl hh v tx))
    (h4 : (¬ (p0 < (0 : Int32))) → (¬ ((24 : Int32) < p0)) → (¬ (p1 < (0 : Int32))) → (¬ ((3 : Int32) < p1)) → (p2 < (0 : Int32)) → P (some (.int (-1 : Int32))) (Wd (va_up f 4736 (-1 : Int32)) fl (va_up g 75 (upd (g 75) (1 : Int32).toNatClampNeg (((g 75) (1 : Int32).toNatClampNeg) + 1))) gl hh v tx))
    (h5 : (¬ (p0 < (0 : Int32))) → (¬ ((24 : Int32) < p0)) → (¬ (p1 < (0 : Int32))) → (¬ ((3 : Int32) < p1)) → (¬ (p2 < (0 : Int32))) → ((9 : Int32) < p2) → P (some (.int (-1 : Int32))) (Wd (va_up f 4736 (-1 : Int32)) fl (va_up g 75 (upd (g 75) (1 : Int32).toNatClampNeg (((g 75) (1 : Int32).toNatClampNeg) + 1))) gl hh v tx))
    (h6 : (¬ (p0 < (0 : Int32))) → (¬ ((24 : Int32) < p0)) → (¬ (p1 < (0 : Int32))) → (¬ ((3 : Int32) < p1)) → (¬ (p2 < (0 : Int32))) → (¬ ((9 : Int32) < p2)) → (¬ ((g 76) 56) = 3) → P (some (.int ((g 76) 56))) (Wd (va_up (va_up f 4777 0) 4736 0) fl (va_up g 76 (upd (upd (upd (upd (g 76) (13 + ((g 76) 56)).toNatClampNeg p0) (16 + ((g 76) 56)).toNatClampNeg p1) (19 + ((g 76) 56)).toNatClampNeg p2) (56 : Int32).toNatClampNeg (((upd (upd (upd (g 76) (13 + ((g 76) 56)).toNatClampNeg p0) (16 + ((g 76) 56)).toNatClampNeg p1) (19 + ((g 76) 56)).toNatClampNeg p2) (56 : Int32).toNatClampNeg) + 1))) gl hh v tx))
    (h7 : (¬ (p0 < (0 : Int32))) → (¬ ((24 : Int32) < p0)) → (¬ (p1 < (0 : Int32))) → (¬ ((3 : Int32) < p1)) → (¬ (p2 < (0 : Int32))) → (¬ ((9 : Int32) < p2)) → (¬ (¬ ((g 76) 56) = 3)) → P (some (.int (-5 : Int32))) (Wd (va_up f 4736 (-5 : Int32)) fl (va_up g 75 (upd (g 75) (5 : Int32).toNatClampNeg (((g 75) (5 : Int32).toNatClampNeg) + 1))) gl hh v tx)) :
    WP X (d + 2) 139 (0, [some (.ref 74), some (.int p0), some (.int p1), some (.int p2), none], [], Wd f fl g gl hh v tx) P := by
  refine WP.run hP_139 3 (c' := (4, [some (.ref 74), some (.int p0), some (.int p1), some (.int p2), none], [.int 24, .int 0, .int p0], Wd f fl g gl hh v tx)) rfl ?_
  refine WP.call hP_139 hP_116 (as := [.int p0, .int 0, .int 24]) (pc' := 7) (L' := [some (.ref 74), some (.int p0), some (.int p1), some (.int p2), none]) (st' := []) (w1 := Wd f fl g gl hh v tx) rfl ⟨Nat.le_of_ble_eq_true rfl, Nat.le_of_ble_eq_true rfl⟩ rfl (m_lies X (d + 1) f fl g gl hh v tx p0 0 24 _  (fun c1 => ?_) (fun c2 c3 => ?_) (fun c4 c5 => ?_))
  · refine WP.run hP_139 3 (c' := (31, [some (.ref 74), none, none, none, none], [.int (-1), .ref 74], Wd f fl g gl hh v tx)) rfl ?_
    refine WP.call hP_139 hP_119 (as := [.ref 74, .int (-1)]) (pc' := 34) (L' := [some (.ref 74), none, none, none, none]) (st' := []) (w1 := Wd f fl g gl hh v tx) rfl ⟨Nat.le_of_ble_eq_true rfl, Nat.le_of_ble_eq_true rfl⟩ rfl (m_refuses X (d + 1) f fl g gl hh v tx (-1) _ (by decide) (by decide) ?_)
    · exact WP.retI hP_139 rfl rfl (h0 c1)
  · refine WP.run hP_139 3 (c' := (31, [some (.ref 74), none, none, none, none], [.int (-1), .ref 74], Wd f fl g gl hh v tx)) rfl ?_
    refine WP.call hP_139 hP_119 (as := [.ref 74, .int (-1)]) (pc' := 34) (L' := [some (.ref 74), none, none, none, none]) (st' := []) (w1 := Wd f fl g gl hh v tx) rfl ⟨Nat.le_of_ble_eq_true rfl, Nat.le_of_ble_eq_true rfl⟩ rfl (m_refuses X (d + 1) f fl g gl hh v tx (-1) _ (by decide) (by decide) ?_)
    · exact WP.retI hP_139 rfl rfl (h1 c2 c3)
  · refine WP.run hP_139 4 (c' := (13, [some (.ref 74), some (.int p0), some (.int p1), some (.int p2), none], [.int 3, .int 0, .int p1], Wd f fl g gl hh v tx)) rfl ?_
    refine WP.call hP_139 hP_116 (as := [.int p1, .int 0, .int 3]) (pc' := 16) (L' := [some (.ref 74), some (.int p0), some (.int p1), some (.int p2), none]) (st' := []) (w1 := Wd f fl g gl hh v tx) rfl ⟨Nat.le_of_ble_eq_true rfl, Nat.le_of_ble_eq_true rfl⟩ rfl (m_lies X (d + 1) f fl g gl hh v tx p1 0 3 _  (fun c6 => ?_) (fun c7 c8 => ?_) (fun c9 c10 => ?_))
    · refine WP.run hP_139 3 (c' := (31, [some (.ref 74), none, none, none, none], [.int (-1), .ref 74], Wd f fl g gl hh v tx)) rfl ?_
      refine WP.call hP_139 hP_119 (as := [.ref 74, .int (-1)]) (pc' := 34) (L' := [some (.ref 74), none, none, none, none]) (st' := []) (w1 := Wd f fl g gl hh v tx) rfl ⟨Nat.le_of_ble_eq_true rfl, Nat.le_of_ble_eq_true rfl⟩ rfl (m_refuses X (d + 1) f fl g gl hh v tx (-1) _ (by decide) (by decide) ?_)
      · exact WP.retI hP_139 rfl rfl (h2 c4 c5 c6)
    · refine WP.run hP_139 3 (c' := (31, [some (.ref 74), none, none, none, none], [.int (-1), .ref 74], Wd f fl g gl hh v tx)) rfl ?_
      refine WP.call hP_139 hP_119 (as := [.ref 74, .int (-1)]) (pc' := 34) (L' := [some (.ref 74), none, none, none, none]) (st' := []) (w1 := Wd f fl g gl hh v tx) rfl ⟨Nat.le_of_ble_eq_true rfl, Nat.le_of_ble_eq_true rfl⟩ rfl (m_refuses X (d + 1) f fl g gl hh v tx (-1) _ (by decide) (by decide) ?_)
      · exact WP.retI hP_139 rfl rfl (h3 c4 c5 c7 c8)
    · refine WP.run hP_139 4 (c' := (23, [some (.ref 74), some (.int p0), some (.int p1), some (.int p2), none], [.int 9, .int 0, .int p2], Wd f fl g gl hh v tx)) rfl ?_
      refine WP.call hP_139 hP_116 (as := [.int p2, .int 0, .int 9]) (pc' := 26) (L' := [some (.ref 74), some (.int p0), some (.int p1), some (.int p2), none]) (st' := []) (w1 := Wd f fl g gl hh v tx) rfl ⟨Nat.le_of_ble_eq_true rfl, Nat.le_of_ble_eq_true rfl⟩ rfl (m_lies X (d + 1) f fl g gl hh v tx p2 0 9 _  (fun c11 => ?_) (fun c12 c13 => ?_) (fun c14 c15 => ?_))
      · refine WP.run hP_139 3 (c' := (31, [some (.ref 74), none, none, none, none], [.int (-1), .ref 74], Wd f fl g gl hh v tx)) rfl ?_
        refine WP.call hP_139 hP_119 (as := [.ref 74, .int (-1)]) (pc' := 34) (L' := [some (.ref 74), none, none, none, none]) (st' := []) (w1 := Wd f fl g gl hh v tx) rfl ⟨Nat.le_of_ble_eq_true rfl, Nat.le_of_ble_eq_true rfl⟩ rfl (m_refuses X (d + 1) f fl g gl hh v tx (-1) _ (by decide) (by decide) ?_)
        · exact WP.retI hP_139 rfl rfl (h4 c4 c5 c9 c10 c11)
      · refine WP.run hP_139 3 (c' := (31, [some (.ref 74), none, none, none, none], [.int (-1), .ref 74], Wd f fl g gl hh v tx)) rfl ?_
        refine WP.call hP_139 hP_119 (as := [.ref 74, .int (-1)]) (pc' := 34) (L' := [some (.ref 74), none, none, none, none]) (st' := []) (w1 := Wd f fl g gl hh v tx) rfl ⟨Nat.le_of_ble_eq_true rfl, Nat.le_of_ble_eq_true rfl⟩ rfl (m_refuses X (d + 1) f fl g gl hh v tx (-1) _ (by decide) (by decide) ?_)
        · exact WP.retI hP_139 rfl rfl (h5 c4 c5 c9 c10 c12 c13)
      · refine WP.run hP_139 8 (c' := (47, [some (.ref 74), some (.int p0), some (.int p1), some (.int p2), some (.int ((g 76) 56))], [.int 3, .int ((g 76) 56)], Wd f fl g gl hh v tx)) rfl ?_
        refine WP.br hP_139 (q := ¬ ((g 76) 56) = 3) (t := 57) (f := 50) (L := [some (.ref 74), some (.int p0), some (.int p1), some (.int p2), some (.int ((g 76) 56))]) (st := []) (w := Wd f fl g gl hh v tx) rfl (fun c16 => ?_) (fun c16 => ?_)
        · refine WP.run hP_139 6 (c' := (67, [some (.ref 74), some (.int p0), some (.int p1), some (.int p2), some (.int ((g 76) 56))], [.int p0, .int (13 + ((g 76) 56)), .ref 76], Wd f fl g gl hh v tx)) rfl ?_
          refine WP.of (fun _ _ => Ex.iast hP_139 (w2 := Wd f fl (va_up g 76 (upd (g 76) (13 + ((g 76) 56)).toNatClampNeg p0)) gl hh v tx) rfl (Wa_76 _ _ _ _ _ _ _) (i0 c4 c5 c9 c10 c14 c15 c16) (Ws_76 _ _ _ _ _ _ _ _)) ?_
          refine WP.run hP_139 6 (c' := (78, [some (.ref 74), some (.int p0), some (.int p1), some (.int p2), some (.int ((g 76) 56))], [.int p1, .int (16 + ((g 76) 56)), .ref 76], Wd f fl (va_up g 76 (upd (g 76) (13 + ((g 76) 56)).toNatClampNeg p0)) gl hh v tx)) rfl ?_
          refine WP.of (fun _ _ => Ex.iast hP_139 (w2 := Wd f fl (va_up g 76 (upd (upd (g 76) (13 + ((g 76) 56)).toNatClampNeg p0) (16 + ((g 76) 56)).toNatClampNeg p1)) gl hh v tx) rfl (Wa_76 _ _ _ _ _ _ _) (i1 c4 c5 c9 c10 c14 c15 c16) (Ws_76 _ _ _ _ _ _ _ _)) ?_
          refine WP.run hP_139 6 (c' := (89, [some (.ref 74), some (.int p0), some (.int p1), some (.int p2), some (.int ((g 76) 56))], [.int p2, .int (19 + ((g 76) 56)), .ref 76], Wd f fl (va_up g 76 (upd (upd (g 76) (13 + ((g 76) 56)).toNatClampNeg p0) (16 + ((g 76) 56)).toNatClampNeg p1)) gl hh v tx)) rfl ?_
          refine WP.of (fun _ _ => Ex.iast hP_139 (w2 := Wd f fl (va_up g 76 (upd (upd (upd (g 76) (13 + ((g 76) 56)).toNatClampNeg p0) (16 + ((g 76) 56)).toNatClampNeg p1) (19 + ((g 76) 56)).toNatClampNeg p2)) gl hh v tx) rfl (Wa_76 _ _ _ _ _ _ _) (i2 c4 c5 c9 c10 c14 c15 c16) (Ws_76 _ _ _ _ _ _ _ _)) ?_
          refine WP.run hP_139 4 (c' := (97, [some (.ref 74), some (.int p0), some (.int p1), some (.int p2), some (.int ((g 76) 56))], [.int 56, .ref 76, .int 56, .ref 76], Wd f fl (va_up g 76 (upd (upd (upd (g 76) (13 + ((g 76) 56)).toNatClampNeg p0) (16 + ((g 76) 56)).toNatClampNeg p1) (19 + ((g 76) 56)).toNatClampNeg p2)) gl hh v tx)) rfl ?_
          refine WP.of (fun _ _ => Ex.iald hP_139 rfl (Wa_76 _ _ _ _ _ _ _) (by decide)) ?_
          refine WP.run hP_139 2 (c' := (100, [some (.ref 74), some (.int p0), some (.int p1), some (.int p2), some (.int ((g 76) 56))], [.int (((upd (upd (upd (g 76) (13 + ((g 76) 56)).toNatClampNeg p0) (16 + ((g 76) 56)).toNatClampNeg p1) (19 + ((g 76) 56)).toNatClampNeg p2) (56 : Int32).toNatClampNeg) + 1), .int 56, .ref 76], Wd f fl (va_up g 76 (upd (upd (upd (g 76) (13 + ((g 76) 56)).toNatClampNeg p0) (16 + ((g 76) 56)).toNatClampNeg p1) (19 + ((g 76) 56)).toNatClampNeg p2)) gl hh v tx)) rfl ?_
          refine WP.of (fun _ _ => Ex.iast hP_139 (w2 := Wd f fl (va_up g 76 (upd (upd (upd (upd (g 76) (13 + ((g 76) 56)).toNatClampNeg p0) (16 + ((g 76) 56)).toNatClampNeg p1) (19 + ((g 76) 56)).toNatClampNeg p2) (56 : Int32).toNatClampNeg (((upd (upd (upd (g 76) (13 + ((g 76) 56)).toNatClampNeg p0) (16 + ((g 76) 56)).toNatClampNeg p1) (19 + ((g 76) 56)).toNatClampNeg p2) (56 : Int32).toNatClampNeg) + 1))) gl hh v tx) rfl (Wa_76 _ _ _ _ _ _ _) (by decide) (Ws_76 _ _ _ _ _ _ _ _)) ?_
          refine WP.run hP_139 2 (c' := (104, [some (.ref 74), some (.int p0), some (.int p1), some (.int p2), some (.int ((g 76) 56))], [.int ((g 76) 56), .ref 74], Wd f fl (va_up g 76 (upd (upd (upd (upd (g 76) (13 + ((g 76) 56)).toNatClampNeg p0) (16 + ((g 76) 56)).toNatClampNeg p1) (19 + ((g 76) 56)).toNatClampNeg p2) (56 : Int32).toNatClampNeg (((upd (upd (upd (g 76) (13 + ((g 76) 56)).toNatClampNeg p0) (16 + ((g 76) 56)).toNatClampNeg p1) (19 + ((g 76) 56)).toNatClampNeg p2) (56 : Int32).toNatClampNeg) + 1))) gl hh v tx)) rfl ?_
          refine WP.call hP_139 hP_121 (as := [.ref 74, .int ((g 76) 56)]) (pc' := 107) (L' := [some (.ref 74), some (.int p0), some (.int p1), some (.int p2), some (.int ((g 76) 56))]) (st' := []) (w1 := Wd f fl (va_up g 76 (upd (upd (upd (upd (g 76) (13 + ((g 76) 56)).toNatClampNeg p0) (16 + ((g 76) 56)).toNatClampNeg p1) (19 + ((g 76) 56)).toNatClampNeg p2) (56 : Int32).toNatClampNeg (((upd (upd (upd (g 76) (13 + ((g 76) 56)).toNatClampNeg p0) (16 + ((g 76) 56)).toNatClampNeg p1) (19 + ((g 76) 56)).toNatClampNeg p2) (56 : Int32).toNatClampNeg) + 1))) gl hh v tx) rfl ⟨Nat.le_of_ble_eq_true rfl, Nat.le_of_ble_eq_true rfl⟩ rfl (m_settled X (d) f fl (va_up g 76 (upd (upd (upd (upd (g 76) (13 + ((g 76) 56)).toNatClampNeg p0) (16 + ((g 76) 56)).toNatClampNeg p1) (19 + ((g 76) 56)).toNatClampNeg p2) (56 : Int32).toNatClampNeg (((upd (upd (upd (g 76) (13 + ((g 76) 56)).toNatClampNeg p0) (16 + ((g 76) 56)).toNatClampNeg p1) (19 + ((g 76) 56)).toNatClampNeg p2) (56 : Int32).toNatClampNeg) + 1))) gl hh v tx ((g 76) 56) _  ?_)
          · exact WP.retI hP_139 rfl rfl (h6 c4 c5 c9 c10 c14 c15 c16)
        · refine WP.run hP_139 2 (c' := (53, [some (.ref 74), some (.int p0), some (.int p1), some (.int p2), some (.int ((g 76) 56))], [.int (-5), .ref 74], Wd f fl g gl hh v tx)) rfl ?_
          refine WP.call hP_139 hP_119 (as := [.ref 74, .int (-5)]) (pc' := 56) (L' := [some (.ref 74), some (.int p0), some (.int p1), some (.int p2), some (.int ((g 76) 56))]) (st' := []) (w1 := Wd f fl g gl hh v tx) rfl ⟨Nat.le_of_ble_eq_true rfl, Nat.le_of_ble_eq_true rfl⟩ rfl (m_refuses X (d + 1) f fl g gl hh v tx (-5) _ (by decide) (by decide) ?_)
          · exact WP.retI hP_139 rfl rfl (h7 c4 c5 c9 c10 c14 c15 c16)

set_option maxRecDepth 20000 in
theorem m_of (X : mm_X) (d : Nat) (f : Nat → Int32) (fl : Nat → Int64) (g : Nat → Nat → Int32) (gl : Nat → Nat → Int64) (hh : Nat → Nat → Option Nat) (v : Nat → Value) (tx : mm_W) (p0 : Int32) (p1 : Int32) (P : Option Value → mm_W → Prop)
    (i0 : (¬ (p0 < (0 : Int32))) → (¬ ((((g 76) 56) - 1) < p0)) → (p1 = 0) → ¬ ((13 + p0) < 0 ∨ 5667 ≤ (13 + p0).toNatClampNeg))
    (i1 : (¬ (p0 < (0 : Int32))) → (¬ ((((g 76) 56) - 1) < p0)) → (¬ p1 = 0) → (p1 = 1) → ¬ ((16 + p0) < 0 ∨ 5667 ≤ (16 + p0).toNatClampNeg))
    (i2 : (¬ (p0 < (0 : Int32))) → (¬ ((((g 76) 56) - 1) < p0)) → (¬ p1 = 0) → (¬ p1 = 1) → (p1 = 2) → ¬ ((19 + p0) < 0 ∨ 5667 ≤ (19 + p0).toNatClampNeg))
    (h0 : (p0 < (0 : Int32)) → P (some (.int (-1))) (Wd f fl g gl hh v tx))
    (h1 : (¬ (p0 < (0 : Int32))) → ((((g 76) 56) - 1) < p0) → P (some (.int (-1))) (Wd f fl g gl hh v tx))
    (h2 : (¬ (p0 < (0 : Int32))) → (¬ ((((g 76) 56) - 1) < p0)) → (p1 = 0) → P (some (.int ((g 76) (13 + p0).toNatClampNeg))) (Wd f fl g gl hh v tx))
    (h3 : (¬ (p0 < (0 : Int32))) → (¬ ((((g 76) 56) - 1) < p0)) → (¬ p1 = 0) → (p1 = 1) → P (some (.int ((g 76) (16 + p0).toNatClampNeg))) (Wd f fl g gl hh v tx))
    (h4 : (¬ (p0 < (0 : Int32))) → (¬ ((((g 76) 56) - 1) < p0)) → (¬ p1 = 0) → (¬ p1 = 1) → (p1 = 2) → P (some (.int ((g 76) (19 + p0).toNatClampNeg))) (Wd f fl g gl hh v tx))
    (h5 : (¬ (p0 < (0 : Int32))) → (¬ ((((g 76) 56) - 1) < p0)) → (¬ p1 = 0) → (¬ p1 = 1) → (¬ p1 = 2) → P (some (.int (-1))) (Wd f fl g gl hh v tx)) :
    WP X (d + 2) 140 (0, [some (.ref 74), some (.int p0), some (.int p1)], [], Wd f fl g gl hh v tx) P := by
  refine WP.run hP_140 2 (c' := (2, [some (.ref 74), some (.int p0), some (.int p1)], [.int p0, .ref 74], Wd f fl g gl hh v tx)) rfl ?_
  refine WP.call hP_140 hP_132 (as := [.ref 74, .int p0]) (pc' := 5) (L' := [some (.ref 74), some (.int p0), some (.int p1)]) (st' := []) (w1 := Wd f fl g gl hh v tx) rfl ⟨Nat.le_of_ble_eq_true rfl, Nat.le_of_ble_eq_true rfl⟩ rfl (m_isShip X (d) f fl g gl hh v tx p0 _  (fun c1 => ?_) (fun c2 c3 => ?_) (fun c4 c5 => ?_))
  · refine WP.run hP_140 2 (c' := (9, [some (.ref 74), some (.int p0), some (.int p1)], [.int (-1)], Wd f fl g gl hh v tx)) rfl ?_
    exact WP.retI hP_140 rfl rfl (h0 c1)
  · refine WP.run hP_140 2 (c' := (9, [some (.ref 74), some (.int p0), some (.int p1)], [.int (-1)], Wd f fl g gl hh v tx)) rfl ?_
    exact WP.retI hP_140 rfl rfl (h1 c2 c3)
  · refine WP.run hP_140 2 (c' := (11, [some (.ref 74), some (.int p0), some (.int p1)], [.int p1], Wd f fl g gl hh v tx)) rfl ?_
    refine WP.run hP_140 1 (c' := (mm_sw p1 0 [36, 46, 56] 66, [some (.ref 74), some (.int p0), some (.int p1)], [], Wd f fl g gl hh v tx)) rfl ?_
    refine WP.sw (lo' := 1) rfl (fun c6 => ?_) (fun c6 => ?_)
    · refine WP.run hP_140 5 (c' := (44, [some (.ref 74), some (.int p0), none], [.int (13 + p0), .ref 76], Wd f fl g gl hh v tx)) rfl ?_
      refine WP.of (fun _ _ => Ex.iald hP_140 rfl (Wa_76 _ _ _ _ _ _ _) (i0 c4 c5 c6)) ?_
      exact WP.retI hP_140 rfl rfl (h2 c4 c5 c6)
    refine WP.sw (lo' := 2) rfl (fun c7 => ?_) (fun c7 => ?_)
    · refine WP.run hP_140 5 (c' := (54, [some (.ref 74), some (.int p0), none], [.int (16 + p0), .ref 76], Wd f fl g gl hh v tx)) rfl ?_
      refine WP.of (fun _ _ => Ex.iald hP_140 rfl (Wa_76 _ _ _ _ _ _ _) (i1 c4 c5 c6 c7)) ?_
      exact WP.retI hP_140 rfl rfl (h3 c4 c5 c6 c7)
    refine WP.sw (lo' := 3) rfl (fun c8 => ?_) (fun c8 => ?_)
    · refine WP.run hP_140 5 (c' := (64, [some (.ref 74), some (.int p0), none], [.int (19 + p0), .ref 76], Wd f fl g gl hh v tx)) rfl ?_
      refine WP.of (fun _ _ => Ex.iald hP_140 rfl (Wa_76 _ _ _ _ _ _ _) (i2 c4 c5 c6 c7 c8)) ?_
      exact WP.retI hP_140 rfl rfl (h4 c4 c5 c6 c7 c8)
    show WP X _ 140 (66, [some (.ref 74), some (.int p0), some (.int p1)], [], Wd f fl g gl hh v tx) P
    refine WP.run hP_140 1 (c' := (67, [none, none, none], [.int (-1)], Wd f fl g gl hh v tx)) rfl ?_
    exact WP.retI hP_140 rfl rfl (h5 c4 c5 c6 c7 c8)

set_option maxRecDepth 20000 in
theorem m_setsAsked (X : mm_X) (d : Nat) (f : Nat → Int32) (fl : Nat → Int64) (g : Nat → Nat → Int32) (gl : Nat → Nat → Int64) (hh : Nat → Nat → Option Nat) (v : Nat → Value) (tx : mm_W) (p0 : Int32) (p1 : Int32) (p2 : Int32) (p3 : Int32) (p4 : Int32) (P : Option Value → mm_W → Prop)
    (i0 : (¬ p1 = (-1)) → ¬ ((31 + p1) < 0 ∨ 5667 ≤ (31 + p1).toNatClampNeg))
    (h0 : (¬ p1 = (-1)) → P (none) (Wd f fl (va_up g 86 (upd (upd (upd (upd (upd (upd (upd (upd (g 86) 0 p0) 1 p1) 2 ((g 76) (31 + p1).toNatClampNeg)) (3 : Int32).toNatClampNeg p2) (4 : Int32).toNatClampNeg ((g 76) 54)) (5 : Int32).toNatClampNeg p3) (6 : Int32).toNatClampNeg p4) (7 : Int32).toNatClampNeg ((g 76) 22))) gl hh v tx))
    (h1 : (¬ (¬ p1 = (-1))) → P (none) (Wd f fl (va_up g 86 (upd (upd (upd (upd (upd (upd (upd (upd (g 86) 0 p0) 1 p1) 2 (-1)) 3 p2) 4 ((g 76) 54)) 5 p3) 6 p4) 7 ((g 76) 22))) gl hh v tx)) :
    WP X d 189 (0, [some (.ref 74), some (.int p0), some (.int p1), some (.int p2), some (.int p3), some (.int p4)], [], Wd f fl g gl hh v tx) P := by
  refine WP.run hP_189 15 (c' := (21, [some (.ref 74), some (.int p0), some (.int p1), some (.int p2), some (.int p3), some (.int p4)], [.int (-1), .int p1, .int 2, .ref 86], Wd f fl (va_up g 86 (upd (upd (g 86) 0 p0) 1 p1)) gl hh v tx)) rfl ?_
  refine WP.br hP_189 (q := ¬ p1 = (-1)) (t := 28) (f := 24) (L := [some (.ref 74), some (.int p0), some (.int p1), some (.int p2), some (.int p3), some (.int p4)]) (st := [.int 2, .ref 86]) (w := Wd f fl (va_up g 86 (upd (upd (g 86) 0 p0) 1 p1)) gl hh v tx) rfl (fun c1 => ?_) (fun c1 => ?_)
  · refine WP.run hP_189 5 (c' := (36, [some (.ref 74), none, some (.int p1), some (.int p2), some (.int p3), some (.int p4)], [.int (31 + p1), .ref 76, .int 2, .ref 86], Wd f fl (va_up g 86 (upd (upd (g 86) 0 p0) 1 p1)) gl hh v tx)) rfl ?_
    refine WP.of (fun _ _ => Ex.iald hP_189 rfl (Wa_76 _ _ _ _ _ _ _) (i0 c1)) ?_
    refine WP.run hP_189 5 (c' := (44, [some (.ref 74), none, none, some (.int p2), some (.int p3), some (.int p4)], [.int p2, .int 3, .ref 86], Wd f fl (va_up g 86 (upd (upd (upd (g 86) 0 p0) 1 p1) 2 ((g 76) (31 + p1).toNatClampNeg))) gl hh v tx)) rfl ?_
    refine WP.of (fun _ _ => Ex.iast hP_189 (w2 := Wd f fl (va_up g 86 (upd (upd (upd (upd (g 86) 0 p0) 1 p1) 2 ((g 76) (31 + p1).toNatClampNeg)) (3 : Int32).toNatClampNeg p2)) gl hh v tx) rfl (Wa_86 _ _ _ _ _ _ _) (by decide) (Ws_86 _ _ _ _ _ _ _ _)) ?_
    refine WP.run hP_189 7 (c' := (57, [some (.ref 74), none, none, some (.int p2), some (.int p3), some (.int p4)], [.int ((g 76) 54), .int 4, .ref 86], Wd f fl (va_up g 86 (upd (upd (upd (upd (g 86) 0 p0) 1 p1) 2 ((g 76) (31 + p1).toNatClampNeg)) (3 : Int32).toNatClampNeg p2)) gl hh v tx)) rfl ?_
    refine WP.of (fun _ _ => Ex.iast hP_189 (w2 := Wd f fl (va_up g 86 (upd (upd (upd (upd (upd (g 86) 0 p0) 1 p1) 2 ((g 76) (31 + p1).toNatClampNeg)) (3 : Int32).toNatClampNeg p2) (4 : Int32).toNatClampNeg ((g 76) 54))) gl hh v tx) rfl (Wa_86 _ _ _ _ _ _ _) (by decide) (Ws_86 _ _ _ _ _ _ _ _)) ?_
    refine WP.run hP_189 4 (c' := (65, [some (.ref 74), none, none, some (.int p2), some (.int p3), some (.int p4)], [.int p3, .int 5, .ref 86], Wd f fl (va_up g 86 (upd (upd (upd (upd (upd (g 86) 0 p0) 1 p1) 2 ((g 76) (31 + p1).toNatClampNeg)) (3 : Int32).toNatClampNeg p2) (4 : Int32).toNatClampNeg ((g 76) 54))) gl hh v tx)) rfl ?_
    refine WP.of (fun _ _ => Ex.iast hP_189 (w2 := Wd f fl (va_up g 86 (upd (upd (upd (upd (upd (upd (g 86) 0 p0) 1 p1) 2 ((g 76) (31 + p1).toNatClampNeg)) (3 : Int32).toNatClampNeg p2) (4 : Int32).toNatClampNeg ((g 76) 54)) (5 : Int32).toNatClampNeg p3)) gl hh v tx) rfl (Wa_86 _ _ _ _ _ _ _) (by decide) (Ws_86 _ _ _ _ _ _ _ _)) ?_
    refine WP.run hP_189 4 (c' := (74, [some (.ref 74), none, none, some (.int p2), some (.int p3), some (.int p4)], [.int p4, .int 6, .ref 86], Wd f fl (va_up g 86 (upd (upd (upd (upd (upd (upd (g 86) 0 p0) 1 p1) 2 ((g 76) (31 + p1).toNatClampNeg)) (3 : Int32).toNatClampNeg p2) (4 : Int32).toNatClampNeg ((g 76) 54)) (5 : Int32).toNatClampNeg p3)) gl hh v tx)) rfl ?_
    refine WP.of (fun _ _ => Ex.iast hP_189 (w2 := Wd f fl (va_up g 86 (upd (upd (upd (upd (upd (upd (upd (g 86) 0 p0) 1 p1) 2 ((g 76) (31 + p1).toNatClampNeg)) (3 : Int32).toNatClampNeg p2) (4 : Int32).toNatClampNeg ((g 76) 54)) (5 : Int32).toNatClampNeg p3) (6 : Int32).toNatClampNeg p4)) gl hh v tx) rfl (Wa_86 _ _ _ _ _ _ _) (by decide) (Ws_86 _ _ _ _ _ _ _ _)) ?_
    refine WP.run hP_189 7 (c' := (88, [some (.ref 74), none, none, some (.int p2), some (.int p3), some (.int p4)], [.int ((g 76) 22), .int 7, .ref 86], Wd f fl (va_up g 86 (upd (upd (upd (upd (upd (upd (upd (g 86) 0 p0) 1 p1) 2 ((g 76) (31 + p1).toNatClampNeg)) (3 : Int32).toNatClampNeg p2) (4 : Int32).toNatClampNeg ((g 76) 54)) (5 : Int32).toNatClampNeg p3) (6 : Int32).toNatClampNeg p4)) gl hh v tx)) rfl ?_
    refine WP.of (fun _ _ => Ex.iast hP_189 (w2 := Wd f fl (va_up g 86 (upd (upd (upd (upd (upd (upd (upd (upd (g 86) 0 p0) 1 p1) 2 ((g 76) (31 + p1).toNatClampNeg)) (3 : Int32).toNatClampNeg p2) (4 : Int32).toNatClampNeg ((g 76) 54)) (5 : Int32).toNatClampNeg p3) (6 : Int32).toNatClampNeg p4) (7 : Int32).toNatClampNeg ((g 76) 22))) gl hh v tx) rfl (Wa_86 _ _ _ _ _ _ _) (by decide) (Ws_86 _ _ _ _ _ _ _ _)) ?_
    exact WP.ret hP_189 (r := none) (w' := Wd f fl (va_up g 86 (upd (upd (upd (upd (upd (upd (upd (upd (g 86) 0 p0) 1 p1) 2 ((g 76) (31 + p1).toNatClampNeg)) (3 : Int32).toNatClampNeg p2) (4 : Int32).toNatClampNeg ((g 76) 54)) (5 : Int32).toNatClampNeg p3) (6 : Int32).toNatClampNeg p4) (7 : Int32).toNatClampNeg ((g 76) 22))) gl hh v tx) rfl (h0 c1)
  · refine WP.run hP_189 34 (c' := (89, [some (.ref 74), none, none, some (.int p2), some (.int p3), some (.int p4)], [], Wd f fl (va_up g 86 (upd (upd (upd (upd (upd (upd (upd (upd (g 86) 0 p0) 1 p1) 2 (-1)) 3 p2) 4 ((g 76) 54)) 5 p3) 6 p4) 7 ((g 76) 22))) gl hh v tx)) rfl ?_
    exact WP.ret hP_189 (r := none) (w' := Wd f fl (va_up g 86 (upd (upd (upd (upd (upd (upd (upd (upd (g 86) 0 p0) 1 p1) 2 (-1)) 3 p2) 4 ((g 76) 54)) 5 p3) 6 p4) 7 ((g 76) 22))) gl hh v tx) rfl (h1 c1)

set_option maxRecDepth 20000 in
theorem m_codeAt (X : mm_X) (d : Nat) (f : Nat → Int32) (fl : Nat → Int64) (g : Nat → Nat → Int32) (gl : Nat → Nat → Int64) (hh : Nat → Nat → Option Nat) (v : Nat → Value) (tx : mm_W) (p0 : Int32) (P : Option Value → mm_W → Prop)
    (i0 : (¬ ((f 4759) ≤ p0)) → ¬ ((67 + p0) < 0 ∨ 5667 ≤ (67 + p0).toNatClampNeg))
    (h0 : ((f 4759) ≤ p0) → P (some (.int 0)) (Wd f fl g gl hh v tx))
    (h1 : (¬ ((f 4759) ≤ p0)) → P (some (.int ((g 76) (67 + p0).toNatClampNeg))) (Wd f fl g gl hh v tx)) :
    WP X d 178 (0, [some (.ref 74), some (.int p0)], [], Wd f fl g gl hh v tx) P := by
  refine WP.run hP_178 3 (c' := (5, [some (.ref 74), some (.int p0)], [.int (f 4759), .int p0], Wd f fl g gl hh v tx)) rfl ?_
  refine WP.br hP_178 (q := (f 4759) ≤ p0) (t := 20) (f := 8) (L := [some (.ref 74), some (.int p0)]) (st := []) (w := Wd f fl g gl hh v tx) rfl (fun c1 => ?_) (fun c1 => ?_)
  · refine WP.run hP_178 1 (c' := (21, [none, none], [.int 0], Wd f fl g gl hh v tx)) rfl ?_
    exact WP.retI hP_178 rfl rfl (h0 c1)
  · refine WP.run hP_178 5 (c' := (16, [some (.ref 74), some (.int p0)], [.int (67 + p0), .ref 76], Wd f fl g gl hh v tx)) rfl ?_
    refine WP.of (fun _ _ => Ex.iald hP_178 rfl (Wa_76 _ _ _ _ _ _ _) (i0 c1)) ?_
    refine WP.run hP_178 1 (c' := (21, [some (.ref 74), some (.int p0)], [.int ((g 76) (67 + p0).toNatClampNeg)], Wd f fl g gl hh v tx)) rfl ?_
    exact WP.retI hP_178 rfl rfl (h1 c1)

set_option maxRecDepth 20000 in
theorem m_glyph (X : mm_X) (d : Nat) (f : Nat → Int32) (fl : Nat → Int64) (g : Nat → Nat → Int32) (gl : Nat → Nat → Int64) (hh : Nat → Nat → Option Nat) (v : Nat → Value) (tx : mm_W) (p0 : Int32) (P : Option Value → mm_W → Prop)
    (h0 : P (some (.int (100 + p0))) (Wd f fl g gl hh v tx)) :
    WP X d 160 (0, [some (.int p0)], [], Wd f fl g gl hh v tx) P := by
  refine WP.run hP_160 3 (c' := (4, [some (.int p0)], [.int (100 + p0)], Wd f fl g gl hh v tx)) rfl ?_
  exact WP.retI hP_160 rfl rfl h0

set_option maxRecDepth 20000 in
theorem m_passes0 (X : mm_X) (d : Nat) (f : Nat → Int32) (fl : Nat → Int64) (g : Nat → Nat → Int32) (gl : Nat → Nat → Int64) (hh : Nat → Nat → Option Nat) (v : Nat → Value) (tx : mm_W) (p0 : Int32) (P : Option Value → mm_W → Prop)
    (i0 : (¬ ((f 4759) ≤ (f 4758))) → ¬ ((67 + (f 4758)) < 0 ∨ 5667 ≤ (67 + (f 4758)).toNatClampNeg))
    (h0 : ((f 4759) ≤ (f 4758)) → (¬ 0 = p0) → P (some (.int 0)) (Wd f fl g gl hh v tx))
    (h1 : ((f 4759) ≤ (f 4758)) → (¬ (¬ 0 = p0)) → P (some (.int 1)) (Wd (va_up f 4758 ((f 4758) + 1)) fl g gl hh v tx))
    (h2 : (¬ ((f 4759) ≤ (f 4758))) → (¬ ((g 76) (67 + (f 4758)).toNatClampNeg) = p0) → P (some (.int 0)) (Wd f fl g gl hh v tx))
    (h3 : (¬ ((f 4759) ≤ (f 4758))) → (¬ (¬ ((g 76) (67 + (f 4758)).toNatClampNeg) = p0)) → P (some (.int 1)) (Wd (va_up f 4758 ((f 4758) + 1)) fl g gl hh v tx)) :
    WP X (d + 1) 179 (0, [some (.ref 74), some (.int p0), none], [], Wd f fl g gl hh v tx) P := by
  refine WP.run hP_179 3 (c' := (5, [some (.ref 74), some (.int p0), none], [.int (f 4758), .ref 74], Wd f fl g gl hh v tx)) rfl ?_
  refine WP.call hP_179 hP_178 (as := [.ref 74, .int (f 4758)]) (pc' := 8) (L' := [some (.ref 74), some (.int p0), none]) (st' := []) (w1 := Wd f fl g gl hh v tx) rfl ⟨Nat.le_of_ble_eq_true rfl, Nat.le_of_ble_eq_true rfl⟩ rfl (m_codeAt X (d) f fl g gl hh v tx (f 4758) _ i0 (fun c1 => ?_) (fun c3 => ?_))
  · refine WP.run hP_179 1 (c' := (9, [some (.ref 74), some (.int p0), none], [.int p0, .int 0], Wd f fl g gl hh v tx)) rfl ?_
    refine WP.br hP_179 (q := ¬ 0 = p0) (t := 16) (f := 12) (L := [some (.ref 74), some (.int p0), none]) (st := []) (w := Wd f fl g gl hh v tx) rfl (fun c2 => ?_) (fun c2 => ?_)
    · refine WP.run hP_179 5 (c' := (33, [none, none, some (.int 0)], [.int 0], Wd f fl g gl hh v tx)) rfl ?_
      exact WP.ret hP_179 (r := some (.int 0)) (w' := Wd f fl g gl hh v tx) rfl (h0 c1 c2)
    · refine WP.run hP_179 12 (c' := (33, [none, none, some (.int 1)], [.int 1], Wd (va_up f 4758 ((f 4758) + 1)) fl g gl hh v tx)) rfl ?_
      exact WP.ret hP_179 (r := some (.int 1)) (w' := Wd (va_up f 4758 ((f 4758) + 1)) fl g gl hh v tx) rfl (h1 c1 c2)
  · refine WP.run hP_179 1 (c' := (9, [some (.ref 74), some (.int p0), none], [.int p0, .int ((g 76) (67 + (f 4758)).toNatClampNeg)], Wd f fl g gl hh v tx)) rfl ?_
    refine WP.br hP_179 (q := ¬ ((g 76) (67 + (f 4758)).toNatClampNeg) = p0) (t := 16) (f := 12) (L := [some (.ref 74), some (.int p0), none]) (st := []) (w := Wd f fl g gl hh v tx) rfl (fun c4 => ?_) (fun c4 => ?_)
    · refine WP.run hP_179 5 (c' := (33, [none, none, some (.int 0)], [.int 0], Wd f fl g gl hh v tx)) rfl ?_
      exact WP.ret hP_179 (r := some (.int 0)) (w' := Wd f fl g gl hh v tx) rfl (h2 c3 c4)
    · refine WP.run hP_179 12 (c' := (33, [none, none, some (.int 1)], [.int 1], Wd (va_up f 4758 ((f 4758) + 1)) fl g gl hh v tx)) rfl ?_
      exact WP.ret hP_179 (r := some (.int 1)) (w' := Wd (va_up f 4758 ((f 4758) + 1)) fl g gl hh v tx) rfl (h3 c3 c4)

set_option maxRecDepth 20000 in
theorem m_line (X : mm_X) (d : Nat) (f : Nat → Int32) (fl : Nat → Int64) (g : Nat → Nat → Int32) (gl : Nat → Nat → Int64) (hh : Nat → Nat → Option Nat) (v : Nat → Value) (tx : mm_W) (p0 : Int32) (P : Option Value → mm_W → Prop)
    (i0 : (¬ (p0 < (0 : Int32))) → (¬ ((((g 76) 12) - 1) < p0)) → ¬ ((0 + p0) < 0 ∨ 5667 ≤ (0 + p0).toNatClampNeg))
    (h0 : (p0 < (0 : Int32)) → P (some (.int (-1))) (Wd f fl g gl hh v tx))
    (h1 : (¬ (p0 < (0 : Int32))) → ((((g 76) 12) - 1) < p0) → P (some (.int (-1))) (Wd f fl g gl hh v tx))
    (h2 : (¬ (p0 < (0 : Int32))) → (¬ ((((g 76) 12) - 1) < p0)) → P (some (.int ((g 76) (0 + p0).toNatClampNeg))) (Wd f fl g gl hh v tx)) :
    WP X (d + 1) 142 (0, [some (.ref 74), some (.int p0)], [], Wd f fl g gl hh v tx) P := by
  refine WP.run hP_142 3 (c' := (3, [some (.ref 74), some (.int p0)], [.ref 74, .int 0, .int p0], Wd f fl g gl hh v tx)) rfl ?_
  refine WP.call hP_142 hP_130 (as := [.ref 74]) (pc' := 6) (L' := [some (.ref 74), some (.int p0)]) (st' := [.int 0, .int p0]) (w1 := Wd f fl g gl hh v tx) rfl ⟨Nat.le_of_ble_eq_true rfl, Nat.le_of_ble_eq_true rfl⟩ rfl (m_size X (d) f fl g gl hh v tx  _  ?_)
  · refine WP.run hP_142 2 (c' := (8, [some (.ref 74), some (.int p0)], [.int (((g 76) 12) - 1), .int 0, .int p0], Wd f fl g gl hh v tx)) rfl ?_
    refine WP.call hP_142 hP_116 (as := [.int p0, .int 0, .int (((g 76) 12) - 1)]) (pc' := 11) (L' := [some (.ref 74), some (.int p0)]) (st' := []) (w1 := Wd f fl g gl hh v tx) rfl ⟨Nat.le_of_ble_eq_true rfl, Nat.le_of_ble_eq_true rfl⟩ rfl (m_lies X (d) f fl g gl hh v tx p0 0 (((g 76) 12) - 1) _  (fun c1 => ?_) (fun c2 c3 => ?_) (fun c4 c5 => ?_))
    · refine WP.run hP_142 2 (c' := (26, [none, none], [.int (-1)], Wd f fl g gl hh v tx)) rfl ?_
      exact WP.retI hP_142 rfl rfl (h0 c1)
    · refine WP.run hP_142 2 (c' := (26, [none, none], [.int (-1)], Wd f fl g gl hh v tx)) rfl ?_
      exact WP.retI hP_142 rfl rfl (h1 c2 c3)
    · refine WP.run hP_142 6 (c' := (21, [some (.ref 74), some (.int p0)], [.int (0 + p0), .ref 76], Wd f fl g gl hh v tx)) rfl ?_
      refine WP.of (fun _ _ => Ex.iald hP_142 rfl (Wa_76 _ _ _ _ _ _ _) (i0 c4 c5)) ?_
      refine WP.run hP_142 1 (c' := (26, [some (.ref 74), some (.int p0)], [.int ((g 76) (0 + p0).toNatClampNeg)], Wd f fl g gl hh v tx)) rfl ?_
      exact WP.retI hP_142 rfl rfl (h2 c4 c5)

set_option maxRecDepth 20000 in
theorem m_isTerm (X : mm_X) (d : Nat) (f : Nat → Int32) (fl : Nat → Int64) (g : Nat → Nat → Int32) (gl : Nat → Nat → Int64) (hh : Nat → Nat → Option Nat) (v : Nat → Value) (tx : mm_W) (p0 : Int32) (p1 : Int32) (P : Option Value → mm_W → Prop)
    (h0 : (p0 = 0) → (p1 < (0 : Int32)) → P (some (.int 0)) (Wd f fl g gl hh v tx))
    (h1 : (p0 = 0) → (¬ (p1 < (0 : Int32))) → ((999 : Int32) < p1) → P (some (.int 0)) (Wd f fl g gl hh v tx))
    (h2 : (p0 = 0) → (¬ (p1 < (0 : Int32))) → (¬ ((999 : Int32) < p1)) → P (some (.int 1)) (Wd f fl g gl hh v tx))
    (h3 : (¬ p0 = 0) → (p0 = 1) → (p1 < (0 : Int32)) → P (some (.int 0)) (Wd f fl g gl hh v tx))
    (h4 : (¬ p0 = 0) → (p0 = 1) → (¬ (p1 < (0 : Int32))) → ((10 : Int32) < p1) → P (some (.int 0)) (Wd f fl g gl hh v tx))
    (h5 : (¬ p0 = 0) → (p0 = 1) → (¬ (p1 < (0 : Int32))) → (¬ ((10 : Int32) < p1)) → P (some (.int 1)) (Wd f fl g gl hh v tx))
    (h6 : (¬ p0 = 0) → (¬ p0 = 1) → (p0 = 2) → (p1 < (0 : Int32)) → P (some (.int 0)) (Wd f fl g gl hh v tx))
    (h7 : (¬ p0 = 0) → (¬ p0 = 1) → (p0 = 2) → (¬ (p1 < (0 : Int32))) → ((9 : Int32) < p1) → P (some (.int 0)) (Wd f fl g gl hh v tx))
    (h8 : (¬ p0 = 0) → (¬ p0 = 1) → (p0 = 2) → (¬ (p1 < (0 : Int32))) → (¬ ((9 : Int32) < p1)) → P (some (.int 1)) (Wd f fl g gl hh v tx))
    (h9 : (¬ p0 = 0) → (¬ p0 = 1) → (¬ p0 = 2) → P (some (.int 0)) (Wd f fl g gl hh v tx)) :
    WP X (d + 1) 143 (0, [some (.int p0), some (.int p1)], [], Wd f fl g gl hh v tx) P := by
  refine WP.run hP_143 1 (c' := (1, [some (.int p0), some (.int p1)], [.int p0], Wd f fl g gl hh v tx)) rfl ?_
  refine WP.run hP_143 1 (c' := (mm_sw p0 0 [28, 37, 45] 53, [some (.int p0), some (.int p1)], [], Wd f fl g gl hh v tx)) rfl ?_
  refine WP.sw (lo' := 1) rfl (fun c1 => ?_) (fun c1 => ?_)
  · refine WP.run hP_143 3 (c' := (33, [none, some (.int p1)], [.int 999, .int 0, .int p1], Wd f fl g gl hh v tx)) rfl ?_
    refine WP.call hP_143 hP_116 (as := [.int p1, .int 0, .int 999]) (pc' := 36) (L' := [none, some (.int p1)]) (st' := []) (w1 := Wd f fl g gl hh v tx) rfl ⟨Nat.le_of_ble_eq_true rfl, Nat.le_of_ble_eq_true rfl⟩ rfl (m_lies X (d) f fl g gl hh v tx p1 0 999 _  (fun c2 => ?_) (fun c3 c4 => ?_) (fun c5 c6 => ?_))
    · exact WP.ret hP_143 (r := some (.int 0)) (w' := Wd f fl g gl hh v tx) rfl (h0 c1 c2)
    · exact WP.ret hP_143 (r := some (.int 0)) (w' := Wd f fl g gl hh v tx) rfl (h1 c1 c3 c4)
    · exact WP.ret hP_143 (r := some (.int 1)) (w' := Wd f fl g gl hh v tx) rfl (h2 c1 c5 c6)
  refine WP.sw (lo' := 2) rfl (fun c7 => ?_) (fun c7 => ?_)
  · refine WP.run hP_143 3 (c' := (41, [none, some (.int p1)], [.int 10, .int 0, .int p1], Wd f fl g gl hh v tx)) rfl ?_
    refine WP.call hP_143 hP_116 (as := [.int p1, .int 0, .int 10]) (pc' := 44) (L' := [none, some (.int p1)]) (st' := []) (w1 := Wd f fl g gl hh v tx) rfl ⟨Nat.le_of_ble_eq_true rfl, Nat.le_of_ble_eq_true rfl⟩ rfl (m_lies X (d) f fl g gl hh v tx p1 0 10 _  (fun c8 => ?_) (fun c9 c10 => ?_) (fun c11 c12 => ?_))
    · exact WP.ret hP_143 (r := some (.int 0)) (w' := Wd f fl g gl hh v tx) rfl (h3 c1 c7 c8)
    · exact WP.ret hP_143 (r := some (.int 0)) (w' := Wd f fl g gl hh v tx) rfl (h4 c1 c7 c9 c10)
    · exact WP.ret hP_143 (r := some (.int 1)) (w' := Wd f fl g gl hh v tx) rfl (h5 c1 c7 c11 c12)
  refine WP.sw (lo' := 3) rfl (fun c13 => ?_) (fun c13 => ?_)
  · refine WP.run hP_143 3 (c' := (49, [none, some (.int p1)], [.int 9, .int 0, .int p1], Wd f fl g gl hh v tx)) rfl ?_
    refine WP.call hP_143 hP_116 (as := [.int p1, .int 0, .int 9]) (pc' := 52) (L' := [none, some (.int p1)]) (st' := []) (w1 := Wd f fl g gl hh v tx) rfl ⟨Nat.le_of_ble_eq_true rfl, Nat.le_of_ble_eq_true rfl⟩ rfl (m_lies X (d) f fl g gl hh v tx p1 0 9 _  (fun c14 => ?_) (fun c15 c16 => ?_) (fun c17 c18 => ?_))
    · exact WP.ret hP_143 (r := some (.int 0)) (w' := Wd f fl g gl hh v tx) rfl (h6 c1 c7 c13 c14)
    · exact WP.ret hP_143 (r := some (.int 0)) (w' := Wd f fl g gl hh v tx) rfl (h7 c1 c7 c13 c15 c16)
    · exact WP.ret hP_143 (r := some (.int 1)) (w' := Wd f fl g gl hh v tx) rfl (h8 c1 c7 c13 c17 c18)
  show WP X _ 143 (53, [some (.int p0), some (.int p1)], [], Wd f fl g gl hh v tx) P
  refine WP.run hP_143 1 (c' := (54, [none, none], [.int 0], Wd f fl g gl hh v tx)) rfl ?_
  exact WP.ret hP_143 (r := some (.int 0)) (w' := Wd f fl g gl hh v tx) rfl (h9 c1 c7 c13)

set_option maxRecDepth 20000 in
theorem m_termAt (X : mm_X) (d : Nat) (f : Nat → Int32) (fl : Nat → Int64) (g : Nat → Nat → Int32) (gl : Nat → Nat → Int64) (hh : Nat → Nat → Option Nat) (v : Nat → Value) (tx : mm_W) (p0 : Int32) (P : Option Value → mm_W → Prop)
    (h0 : (¬ p0 = 0) → (¬ p0 = 1) → P (some (.int 54)) (Wd f fl g gl hh v tx))
    (h1 : (¬ p0 = 0) → (¬ (¬ p0 = 1)) → P (some (.int 53)) (Wd f fl g gl hh v tx))
    (h2 : (¬ (¬ p0 = 0)) → P (some (.int 22)) (Wd f fl g gl hh v tx)) :
    WP X d 144 (0, [some (.int p0)], [], Wd f fl g gl hh v tx) P := by
  refine WP.run hP_144 1 (c' := (1, [some (.int p0)], [.int p0], Wd f fl g gl hh v tx)) rfl ?_
  refine WP.br hP_144 (q := ¬ p0 = 0) (t := 9) (f := 4) (L := [some (.int p0)]) (st := []) (w := Wd f fl g gl hh v tx) rfl (fun c1 => ?_) (fun c1 => ?_)
  · refine WP.run hP_144 2 (c' := (11, [some (.int p0)], [.int 1, .int p0], Wd f fl g gl hh v tx)) rfl ?_
    refine WP.br hP_144 (q := ¬ p0 = 1) (t := 19) (f := 14) (L := [some (.int p0)]) (st := []) (w := Wd f fl g gl hh v tx) rfl (fun c2 => ?_) (fun c2 => ?_)
    · refine WP.run hP_144 1 (c' := (21, [none], [.int 54], Wd f fl g gl hh v tx)) rfl ?_
      exact WP.retI hP_144 rfl rfl (h0 c1 c2)
    · refine WP.run hP_144 2 (c' := (21, [some (.int p0)], [.int 53], Wd f fl g gl hh v tx)) rfl ?_
      exact WP.retI hP_144 rfl rfl (h1 c1 c2)
  · refine WP.run hP_144 2 (c' := (21, [some (.int p0)], [.int 22], Wd f fl g gl hh v tx)) rfl ?_
    exact WP.retI hP_144 rfl rfl (h2 c1)

set_option maxRecDepth 20000 in
theorem m_soap (X : mm_X) (d : Nat) (f : Nat → Int32) (fl : Nat → Int64) (g : Nat → Nat → Int32) (gl : Nat → Nat → Int64) (hh : Nat → Nat → Option Nat) (v : Nat → Value) (tx : mm_W)  (P : Option Value → mm_W → Prop)
    (h0 : P (some (.int (f 4742))) (Wd f fl g gl hh v tx)) :
    WP X d 148 (0, [some (.ref 74)], [], Wd f fl g gl hh v tx) P := by
  refine WP.run hP_148 2 (c' := (4, [some (.ref 74)], [.int (f 4742)], Wd f fl g gl hh v tx)) rfl ?_
  exact WP.retI hP_148 rfl rfl h0

set_option maxRecDepth 20000 in
theorem m_end (X : mm_X) (d : Nat) (f : Nat → Int32) (fl : Nat → Int64) (g : Nat → Nat → Int32) (gl : Nat → Nat → Int64) (hh : Nat → Nat → Option Nat) (v : Nat → Value) (tx : mm_W) (p0 : Int32) (P : Option Value → mm_W → Prop)
    (h0 : (p0 < (0 : Int32)) → P (some (.int (-1))) (Wd f fl g gl hh v tx))
    (h1 : (¬ (p0 < (0 : Int32))) → ((f 4749) < p0) → P (some (.int (-1))) (Wd f fl g gl hh v tx))
    (h2 : (¬ (p0 < (0 : Int32))) → (¬ ((f 4749) < p0)) → P (some (.int p0)) (Wd (va_up f 4749 p0) fl g gl hh v tx)) :
    WP X (d + 1) 150 (0, [some (.ref 74), some (.int p0)], [], Wd f fl g gl hh v tx) P := by
  refine WP.run hP_150 4 (c' := (6, [some (.ref 74), some (.int p0)], [.int (f 4749), .int 0, .int p0], Wd f fl g gl hh v tx)) rfl ?_
  refine WP.call hP_150 hP_116 (as := [.int p0, .int 0, .int (f 4749)]) (pc' := 9) (L' := [some (.ref 74), some (.int p0)]) (st' := []) (w1 := Wd f fl g gl hh v tx) rfl ⟨Nat.le_of_ble_eq_true rfl, Nat.le_of_ble_eq_true rfl⟩ rfl (m_lies X (d) f fl g gl hh v tx p0 0 (f 4749) _  (fun c1 => ?_) (fun c2 c3 => ?_) (fun c4 c5 => ?_))
  · refine WP.run hP_150 2 (c' := (13, [some (.ref 74), some (.int p0)], [.int (-1)], Wd f fl g gl hh v tx)) rfl ?_
    exact WP.retI hP_150 rfl rfl (h0 c1)
  · refine WP.run hP_150 2 (c' := (13, [some (.ref 74), some (.int p0)], [.int (-1)], Wd f fl g gl hh v tx)) rfl ?_
    exact WP.retI hP_150 rfl rfl (h1 c2 c3)
  · refine WP.run hP_150 5 (c' := (20, [some (.ref 74), some (.int p0)], [.int p0], Wd (va_up f 4749 p0) fl g gl hh v tx)) rfl ?_
    exact WP.retI hP_150 rfl rfl (h2 c4 c5)

set_option maxRecDepth 20000 in
theorem m_isSmall (X : mm_X) (d : Nat) (f : Nat → Int32) (fl : Nat → Int64) (g : Nat → Nat → Int32) (gl : Nat → Nat → Int64) (hh : Nat → Nat → Option Nat) (v : Nat → Value) (tx : mm_W) (p0 : Int32) (P : Option Value → mm_W → Prop)
    (h0 : (p0 < 97) → P (some (.int 0)) (Wd f fl g gl hh v tx))
    (h1 : (¬ (p0 < 97)) → (122 < p0) → P (some (.int 0)) (Wd f fl g gl hh v tx))
    (h2 : (¬ (p0 < 97)) → (¬ (122 < p0)) → P (some (.int 1)) (Wd f fl g gl hh v tx)) :
    WP X d 151 (0, [some (.int p0)], [], Wd f fl g gl hh v tx) P := by
  refine WP.run hP_151 2 (c' := (3, [some (.int p0)], [.int 97, .int p0], Wd f fl g gl hh v tx)) rfl ?_
  refine WP.br hP_151 (q := p0 < 97) (t := 16) (f := 6) (L := [some (.int p0)]) (st := []) (w := Wd f fl g gl hh v tx) rfl (fun c1 => ?_) (fun c1 => ?_)
  · refine WP.run hP_151 1 (c' := (17, [none], [.int 0], Wd f fl g gl hh v tx)) rfl ?_
    exact WP.ret hP_151 (r := some (.int 0)) (w' := Wd f fl g gl hh v tx) rfl (h0 c1)
  · refine WP.run hP_151 2 (c' := (9, [some (.int p0)], [.int 122, .int p0], Wd f fl g gl hh v tx)) rfl ?_
    refine WP.br hP_151 (q := 122 < p0) (t := 16) (f := 12) (L := [some (.int p0)]) (st := []) (w := Wd f fl g gl hh v tx) rfl (fun c2 => ?_) (fun c2 => ?_)
    · refine WP.run hP_151 1 (c' := (17, [none], [.int 0], Wd f fl g gl hh v tx)) rfl ?_
      exact WP.ret hP_151 (r := some (.int 0)) (w' := Wd f fl g gl hh v tx) rfl (h1 c1 c2)
    · refine WP.run hP_151 2 (c' := (17, [some (.int p0)], [.int 1], Wd f fl g gl hh v tx)) rfl ?_
      exact WP.ret hP_151 (r := some (.int 1)) (w' := Wd f fl g gl hh v tx) rfl (h2 c1 c2)

set_option maxRecDepth 20000 in
theorem m_isDigit (X : mm_X) (d : Nat) (f : Nat → Int32) (fl : Nat → Int64) (g : Nat → Nat → Int32) (gl : Nat → Nat → Int64) (hh : Nat → Nat → Option Nat) (v : Nat → Value) (tx : mm_W) (p0 : Int32) (P : Option Value → mm_W → Prop)
    (h0 : (p0 < 48) → P (some (.int 0)) (Wd f fl g gl hh v tx))
    (h1 : (¬ (p0 < 48)) → (57 < p0) → P (some (.int 0)) (Wd f fl g gl hh v tx))
    (h2 : (¬ (p0 < 48)) → (¬ (57 < p0)) → P (some (.int 1)) (Wd f fl g gl hh v tx)) :
    WP X d 152 (0, [some (.int p0)], [], Wd f fl g gl hh v tx) P := by
  refine WP.run hP_152 2 (c' := (3, [some (.int p0)], [.int 48, .int p0], Wd f fl g gl hh v tx)) rfl ?_
  refine WP.br hP_152 (q := p0 < 48) (t := 16) (f := 6) (L := [some (.int p0)]) (st := []) (w := Wd f fl g gl hh v tx) rfl (fun c1 => ?_) (fun c1 => ?_)
  · refine WP.run hP_152 1 (c' := (17, [none], [.int 0], Wd f fl g gl hh v tx)) rfl ?_
    exact WP.ret hP_152 (r := some (.int 0)) (w' := Wd f fl g gl hh v tx) rfl (h0 c1)
  · refine WP.run hP_152 2 (c' := (9, [some (.int p0)], [.int 57, .int p0], Wd f fl g gl hh v tx)) rfl ?_
    refine WP.br hP_152 (q := 57 < p0) (t := 16) (f := 12) (L := [some (.int p0)]) (st := []) (w := Wd f fl g gl hh v tx) rfl (fun c2 => ?_) (fun c2 => ?_)
    · refine WP.run hP_152 1 (c' := (17, [none], [.int 0], Wd f fl g gl hh v tx)) rfl ?_
      exact WP.ret hP_152 (r := some (.int 0)) (w' := Wd f fl g gl hh v tx) rfl (h1 c1 c2)
    · refine WP.run hP_152 2 (c' := (17, [some (.int p0)], [.int 1], Wd f fl g gl hh v tx)) rfl ?_
      exact WP.ret hP_152 (r := some (.int 1)) (w' := Wd f fl g gl hh v tx) rfl (h2 c1 c2)

set_option maxRecDepth 20000 in
theorem m_fine (X : mm_X) (d : Nat) (f : Nat → Int32) (fl : Nat → Int64) (g : Nat → Nat → Int32) (gl : Nat → Nat → Int64) (hh : Nat → Nat → Option Nat) (v : Nat → Value) (tx : mm_W)  (P : Option Value → mm_W → Prop)
    (h0 : (¬ (f 4757) = (-1)) → P (some (.int 0)) (Wd f fl g gl hh v tx))
    (h1 : (¬ (¬ (f 4757) = (-1))) → P (some (.int 1)) (Wd f fl g gl hh v tx)) :
    WP X d 155 (0, [some (.ref 74)], [], Wd f fl g gl hh v tx) P := by
  refine WP.run hP_155 3 (c' := (5, [some (.ref 74)], [.int (-1), .int (f 4757)], Wd f fl g gl hh v tx)) rfl ?_
  refine WP.br hP_155 (q := ¬ (f 4757) = (-1)) (t := 12) (f := 8) (L := [some (.ref 74)]) (st := []) (w := Wd f fl g gl hh v tx) rfl (fun c1 => ?_) (fun c1 => ?_)
  · refine WP.run hP_155 1 (c' := (13, [none], [.int 0], Wd f fl g gl hh v tx)) rfl ?_
    exact WP.ret hP_155 (r := some (.int 0)) (w' := Wd f fl g gl hh v tx) rfl (h0 c1)
  · refine WP.run hP_155 2 (c' := (13, [some (.ref 74)], [.int 1], Wd f fl g gl hh v tx)) rfl ?_
    exact WP.ret hP_155 (r := some (.int 1)) (w' := Wd f fl g gl hh v tx) rfl (h1 c1)

set_option maxRecDepth 20000 in
theorem m_faults (X : mm_X) (d : Nat) (f : Nat → Int32) (fl : Nat → Int64) (g : Nat → Nat → Int32) (gl : Nat → Nat → Int64) (hh : Nat → Nat → Option Nat) (v : Nat → Value) (tx : mm_W)  (P : Option Value → mm_W → Prop)
    (i0 : (¬ (¬ (f 4757) = (-1))) → ¬ ((f 4755) < 0 ∨ 401 ≤ (f 4755).toNatClampNeg))
    (h0 : (¬ (f 4757) = (-1)) → P (none) (Wd f fl g gl hh v tx))
    (h1 : (¬ (¬ (f 4757) = (-1))) → P (none) (Wd (va_up f 4757 ((g 85) (f 4755).toNatClampNeg)) fl g gl hh v tx)) :
    WP X (d + 1) 156 (0, [some (.ref 74)], [], Wd f fl g gl hh v tx) P := by
  refine WP.run hP_156 1 (c' := (1, [some (.ref 74)], [.ref 74], Wd f fl g gl hh v tx)) rfl ?_
  refine WP.call hP_156 hP_155 (as := [.ref 74]) (pc' := 4) (L' := [some (.ref 74)]) (st' := []) (w1 := Wd f fl g gl hh v tx) rfl ⟨Nat.le_of_ble_eq_true rfl, Nat.le_of_ble_eq_true rfl⟩ rfl (m_fine X (d) f fl g gl hh v tx  _  (fun c1 => ?_) (fun c2 => ?_))
  · refine WP.run hP_156 1 (c' := (20, [some (.ref 74)], [], Wd f fl g gl hh v tx)) rfl ?_
    exact WP.ret hP_156 (r := none) (w' := Wd f fl g gl hh v tx) rfl (h0 c1)
  · refine WP.run hP_156 6 (c' := (16, [some (.ref 74)], [.int (f 4755), .ref 85, .ref 74], Wd f fl g gl hh v tx)) rfl ?_
    refine WP.of (fun _ _ => Ex.iald hP_156 rfl (Wa_85 _ _ _ _ _ _ _) (i0 c2)) ?_
    refine WP.run hP_156 1 (c' := (20, [some (.ref 74)], [], Wd (va_up f 4757 ((g 85) (f 4755).toNatClampNeg)) fl g gl hh v tx)) rfl ?_
    exact WP.ret hP_156 (r := none) (w' := Wd (va_up f 4757 ((g 85) (f 4755).toNatClampNeg)) fl g gl hh v tx) rfl (h1 c2)

set_option maxRecDepth 20000 in
theorem m_takes0 (X : mm_X) (d : Nat) (f : Nat → Int32) (fl : Nat → Int64) (g : Nat → Nat → Int32) (gl : Nat → Nat → Int64) (hh : Nat → Nat → Option Nat) (v : Nat → Value) (tx : mm_W) (p0 : Int32) (P : Option Value → mm_W → Prop)
    (i0 : (¬ (¬ (f 4757) = (-1))) → ¬ ((f 4755) < 0 ∨ 401 ≤ (f 4755).toNatClampNeg))
    (h0 : (¬ (f 4757) = (-1)) → P (some (.int 0)) (Wd f fl g gl hh v tx))
    (h1 : (¬ (¬ (f 4757) = (-1))) → (¬ ((g 83) (f 4755).toNatClampNeg) = p0) → P (some (.int 0)) (Wd f fl g gl hh v tx))
    (h2 : (¬ (¬ (f 4757) = (-1))) → (¬ (¬ ((g 83) (f 4755).toNatClampNeg) = p0)) → P (some (.int 1)) (Wd (va_up f 4755 ((f 4755) + 1)) fl g gl hh v tx)) :
    WP X (d + 1) 157 (0, [some (.ref 74), some (.int p0), none], [], Wd f fl g gl hh v tx) P := by
  refine WP.run hP_157 1 (c' := (1, [some (.ref 74), some (.int p0), none], [.ref 74], Wd f fl g gl hh v tx)) rfl ?_
  refine WP.call hP_157 hP_155 (as := [.ref 74]) (pc' := 4) (L' := [some (.ref 74), some (.int p0), none]) (st' := []) (w1 := Wd f fl g gl hh v tx) rfl ⟨Nat.le_of_ble_eq_true rfl, Nat.le_of_ble_eq_true rfl⟩ rfl (m_fine X (d) f fl g gl hh v tx  _  (fun c1 => ?_) (fun c2 => ?_))
  · refine WP.run hP_157 6 (c' := (41, [none, none, some (.int 0)], [.int 0], Wd f fl g gl hh v tx)) rfl ?_
    exact WP.ret hP_157 (r := some (.int 0)) (w' := Wd f fl g gl hh v tx) rfl (h0 c1)
  · refine WP.run hP_157 5 (c' := (15, [some (.ref 74), some (.int p0), none], [.int (f 4755), .ref 83], Wd f fl g gl hh v tx)) rfl ?_
    refine WP.of (fun _ _ => Ex.iald hP_157 rfl (Wa_83 _ _ _ _ _ _ _) (i0 c2)) ?_
    refine WP.run hP_157 1 (c' := (17, [some (.ref 74), some (.int p0), none], [.int p0, .int ((g 83) (f 4755).toNatClampNeg)], Wd f fl g gl hh v tx)) rfl ?_
    refine WP.br hP_157 (q := ¬ ((g 83) (f 4755).toNatClampNeg) = p0) (t := 24) (f := 20) (L := [some (.ref 74), some (.int p0), none]) (st := []) (w := Wd f fl g gl hh v tx) rfl (fun c3 => ?_) (fun c3 => ?_)
    · refine WP.run hP_157 5 (c' := (41, [none, none, some (.int 0)], [.int 0], Wd f fl g gl hh v tx)) rfl ?_
      exact WP.ret hP_157 (r := some (.int 0)) (w' := Wd f fl g gl hh v tx) rfl (h1 c2 c3)
    · refine WP.run hP_157 12 (c' := (41, [none, none, some (.int 1)], [.int 1], Wd (va_up f 4755 ((f 4755) + 1)) fl g gl hh v tx)) rfl ?_
      exact WP.ret hP_157 (r := some (.int 1)) (w' := Wd (va_up f 4755 ((f 4755) + 1)) fl g gl hh v tx) rfl (h2 c2 c3)

set_option maxRecDepth 20000 in
theorem m_must (X : mm_X) (d : Nat) (f : Nat → Int32) (fl : Nat → Int64) (g : Nat → Nat → Int32) (gl : Nat → Nat → Int64) (hh : Nat → Nat → Option Nat) (v : Nat → Value) (tx : mm_W) (p0 : Int32) (P : Option Value → mm_W → Prop)
    (i0 : (¬ (¬ (f 4757) = (-1))) → ¬ ((f 4755) < 0 ∨ 401 ≤ (f 4755).toNatClampNeg))
    (i1 : (¬ (f 4757) = (-1)) → (¬ (¬ (f 4757) = (-1))) → ¬ ((f 4755) < 0 ∨ 401 ≤ (f 4755).toNatClampNeg))
    (i2 : (¬ (¬ (f 4757) = (-1))) → (¬ ((g 83) (f 4755).toNatClampNeg) = p0) → (¬ (¬ (f 4757) = (-1))) → ¬ ((f 4755) < 0 ∨ 401 ≤ (f 4755).toNatClampNeg))
    (h0 : (¬ (f 4757) = (-1)) → (¬ (f 4757) = (-1)) → P (none) (Wd f fl g gl hh v tx))
    (h1 : (¬ (f 4757) = (-1)) → (¬ (¬ (f 4757) = (-1))) → P (none) (Wd (va_up f 4757 ((g 85) (f 4755).toNatClampNeg)) fl g gl hh v tx))
    (h2 : (¬ (¬ (f 4757) = (-1))) → (¬ ((g 83) (f 4755).toNatClampNeg) = p0) → (¬ (f 4757) = (-1)) → P (none) (Wd f fl g gl hh v tx))
    (h3 : (¬ (¬ (f 4757) = (-1))) → (¬ ((g 83) (f 4755).toNatClampNeg) = p0) → (¬ (¬ (f 4757) = (-1))) → P (none) (Wd (va_up f 4757 ((g 85) (f 4755).toNatClampNeg)) fl g gl hh v tx))
    (h4 : (¬ (¬ (f 4757) = (-1))) → (¬ (¬ ((g 83) (f 4755).toNatClampNeg) = p0)) → P (none) (Wd (va_up f 4755 ((f 4755) + 1)) fl g gl hh v tx)) :
    WP X (d + 2) 158 (0, [some (.ref 74), some (.int p0)], [], Wd f fl g gl hh v tx) P := by
  refine WP.run hP_158 2 (c' := (2, [some (.ref 74), some (.int p0)], [.int p0, .ref 74], Wd f fl g gl hh v tx)) rfl ?_
  refine WP.call hP_158 hP_157 (as := [.ref 74, .int p0]) (pc' := 5) (L' := [some (.ref 74), some (.int p0)]) (st' := []) (w1 := Wd f fl g gl hh v tx) rfl ⟨Nat.le_of_ble_eq_true rfl, Nat.le_of_ble_eq_true rfl⟩ rfl (m_takes0 X (d) f fl g gl hh v tx p0 _ i0 (fun c1 => ?_) (fun c4 c5 => ?_) (fun c8 c9 => ?_))
  · refine WP.run hP_158 2 (c' := (9, [some (.ref 74), some (.int p0)], [.ref 74], Wd f fl g gl hh v tx)) rfl ?_
    refine WP.call hP_158 hP_156 (as := [.ref 74]) (pc' := 12) (L' := [some (.ref 74), some (.int p0)]) (st' := []) (w1 := Wd f fl g gl hh v tx) rfl ⟨Nat.le_of_ble_eq_true rfl, Nat.le_of_ble_eq_true rfl⟩ rfl (m_faults X (d) f fl g gl hh v tx  _ (i1 c1) (fun c2 => ?_) (fun c3 => ?_))
    · exact WP.ret hP_158 (r := none) (w' := Wd f fl g gl hh v tx) rfl (h0 c1 c2)
    · exact WP.ret hP_158 (r := none) (w' := Wd (va_up f 4757 ((g 85) (f 4755).toNatClampNeg)) fl g gl hh v tx) rfl (h1 c1 c3)
  · refine WP.run hP_158 2 (c' := (9, [some (.ref 74), some (.int p0)], [.ref 74], Wd f fl g gl hh v tx)) rfl ?_
    refine WP.call hP_158 hP_156 (as := [.ref 74]) (pc' := 12) (L' := [some (.ref 74), some (.int p0)]) (st' := []) (w1 := Wd f fl g gl hh v tx) rfl ⟨Nat.le_of_ble_eq_true rfl, Nat.le_of_ble_eq_true rfl⟩ rfl (m_faults X (d) f fl g gl hh v tx  _ (i2 c4 c5) (fun c6 => ?_) (fun c7 => ?_))
    · exact WP.ret hP_158 (r := none) (w' := Wd f fl g gl hh v tx) rfl (h2 c4 c5 c6)
    · exact WP.ret hP_158 (r := none) (w' := Wd (va_up f 4757 ((g 85) (f 4755).toNatClampNeg)) fl g gl hh v tx) rfl (h3 c4 c5 c7)
  · refine WP.run hP_158 1 (c' := (12, [some (.ref 74), some (.int p0)], [], Wd (va_up f 4755 ((f 4755) + 1)) fl g gl hh v tx)) rfl ?_
    exact WP.ret hP_158 (r := none) (w' := Wd (va_up f 4755 ((f 4755) + 1)) fl g gl hh v tx) rfl (h4 c8 c9)

set_option maxRecDepth 20000 in
theorem m_leaf (X : mm_X) (d : Nat) (f : Nat → Int32) (fl : Nat → Int64) (g : Nat → Nat → Int32) (gl : Nat → Nat → Int64) (hh : Nat → Nat → Option Nat) (v : Nat → Value) (tx : mm_W)  (P : Option Value → mm_W → Prop)
    (i0 : (¬ (¬ (f 4756) = 50)) → (¬ (¬ (f 4757) = (-1))) → ¬ ((f 4755) < 0 ∨ 401 ≤ (f 4755).toNatClampNeg))
    (h0 : (¬ (f 4756) = 50) → (¬ ((va_up f 4756 ((f 4756) + 1)) 4757) = (-1)) → P (none) (Wd (va_up f 4756 ((f 4756) + 1)) fl g gl hh v tx))
    (h1 : (¬ (f 4756) = 50) → (¬ (¬ ((va_up f 4756 ((f 4756) + 1)) 4757) = (-1))) → P (none) (Wd (va_up (va_up f 4756 ((f 4756) + 1)) 4755 ((f 4755) + 1)) fl g gl hh v tx))
    (h2 : (¬ (¬ (f 4756) = 50)) → (¬ (f 4757) = (-1)) → (¬ ((va_up f 4756 ((f 4756) + 1)) 4757) = (-1)) → P (none) (Wd (va_up f 4756 ((f 4756) + 1)) fl g gl hh v tx))
    (h3 : (¬ (¬ (f 4756) = 50)) → (¬ (f 4757) = (-1)) → (¬ (¬ ((va_up f 4756 ((f 4756) + 1)) 4757) = (-1))) → P (none) (Wd (va_up (va_up f 4756 ((f 4756) + 1)) 4755 ((f 4755) + 1)) fl g gl hh v tx))
    (h4 : (¬ (¬ (f 4756) = 50)) → (¬ (¬ (f 4757) = (-1))) → (¬ ((va_up (va_up f 4757 ((g 85) (f 4755).toNatClampNeg)) 4756 ((f 4756) + 1)) 4757) = (-1)) → P (none) (Wd (va_up (va_up f 4757 ((g 85) (f 4755).toNatClampNeg)) 4756 ((f 4756) + 1)) fl g gl hh v tx))
    (h5 : (¬ (¬ (f 4756) = 50)) → (¬ (¬ (f 4757) = (-1))) → (¬ (¬ ((va_up (va_up f 4757 ((g 85) (f 4755).toNatClampNeg)) 4756 ((f 4756) + 1)) 4757) = (-1))) → P (none) (Wd (va_up (va_up (va_up f 4757 ((g 85) (f 4755).toNatClampNeg)) 4756 ((f 4756) + 1)) 4755 ((f 4755) + 1)) fl g gl hh v tx)) :
    WP X (d + 2) 159 (0, [some (.ref 74)], [], Wd f fl g gl hh v tx) P := by
  refine WP.run hP_159 3 (c' := (6, [some (.ref 74)], [.int 50, .int (f 4756)], Wd f fl g gl hh v tx)) rfl ?_
  refine WP.br hP_159 (q := ¬ (f 4756) = 50) (t := 13) (f := 9) (L := [some (.ref 74)]) (st := []) (w := Wd f fl g gl hh v tx) rfl (fun c1 => ?_) (fun c1 => ?_)
  · refine WP.run hP_159 7 (c' := (24, [some (.ref 74)], [.ref 74], Wd (va_up f 4756 ((f 4756) + 1)) fl g gl hh v tx)) rfl ?_
    refine WP.call hP_159 hP_155 (as := [.ref 74]) (pc' := 27) (L' := [some (.ref 74)]) (st' := []) (w1 := Wd (va_up f 4756 ((f 4756) + 1)) fl g gl hh v tx) rfl ⟨Nat.le_of_ble_eq_true rfl, Nat.le_of_ble_eq_true rfl⟩ rfl (m_fine X (d + 1) (va_up f 4756 ((f 4756) + 1)) fl g gl hh v tx  _  (fun c2 => ?_) (fun c3 => ?_))
    · refine WP.run hP_159 1 (c' := (40, [some (.ref 74)], [], Wd (va_up f 4756 ((f 4756) + 1)) fl g gl hh v tx)) rfl ?_
      exact WP.ret hP_159 (r := none) (w' := Wd (va_up f 4756 ((f 4756) + 1)) fl g gl hh v tx) rfl (h0 c1 c2)
    · refine WP.run hP_159 7 (c' := (40, [some (.ref 74)], [], Wd (va_up (va_up f 4756 ((f 4756) + 1)) 4755 ((f 4755) + 1)) fl g gl hh v tx)) rfl ?_
      exact WP.ret hP_159 (r := none) (w' := Wd (va_up (va_up f 4756 ((f 4756) + 1)) 4755 ((f 4755) + 1)) fl g gl hh v tx) rfl (h1 c1 c3)
  · refine WP.run hP_159 1 (c' := (10, [some (.ref 74)], [.ref 74], Wd f fl g gl hh v tx)) rfl ?_
    refine WP.call hP_159 hP_156 (as := [.ref 74]) (pc' := 13) (L' := [some (.ref 74)]) (st' := []) (w1 := Wd f fl g gl hh v tx) rfl ⟨Nat.le_of_ble_eq_true rfl, Nat.le_of_ble_eq_true rfl⟩ rfl (m_faults X (d) f fl g gl hh v tx  _ (i0 c1) (fun c4 => ?_) (fun c7 => ?_))
    · refine WP.run hP_159 7 (c' := (24, [some (.ref 74)], [.ref 74], Wd (va_up f 4756 ((f 4756) + 1)) fl g gl hh v tx)) rfl ?_
      refine WP.call hP_159 hP_155 (as := [.ref 74]) (pc' := 27) (L' := [some (.ref 74)]) (st' := []) (w1 := Wd (va_up f 4756 ((f 4756) + 1)) fl g gl hh v tx) rfl ⟨Nat.le_of_ble_eq_true rfl, Nat.le_of_ble_eq_true rfl⟩ rfl (m_fine X (d + 1) (va_up f 4756 ((f 4756) + 1)) fl g gl hh v tx  _  (fun c5 => ?_) (fun c6 => ?_))
      · refine WP.run hP_159 1 (c' := (40, [some (.ref 74)], [], Wd (va_up f 4756 ((f 4756) + 1)) fl g gl hh v tx)) rfl ?_
        exact WP.ret hP_159 (r := none) (w' := Wd (va_up f 4756 ((f 4756) + 1)) fl g gl hh v tx) rfl (h2 c1 c4 c5)
      · refine WP.run hP_159 7 (c' := (40, [some (.ref 74)], [], Wd (va_up (va_up f 4756 ((f 4756) + 1)) 4755 ((f 4755) + 1)) fl g gl hh v tx)) rfl ?_
        exact WP.ret hP_159 (r := none) (w' := Wd (va_up (va_up f 4756 ((f 4756) + 1)) 4755 ((f 4755) + 1)) fl g gl hh v tx) rfl (h3 c1 c4 c6)
    · refine WP.run hP_159 7 (c' := (24, [some (.ref 74)], [.ref 74], Wd (va_up (va_up f 4757 ((g 85) (f 4755).toNatClampNeg)) 4756 ((f 4756) + 1)) fl g gl hh v tx)) rfl ?_
      refine WP.call hP_159 hP_155 (as := [.ref 74]) (pc' := 27) (L' := [some (.ref 74)]) (st' := []) (w1 := Wd (va_up (va_up f 4757 ((g 85) (f 4755).toNatClampNeg)) 4756 ((f 4756) + 1)) fl g gl hh v tx) rfl ⟨Nat.le_of_ble_eq_true rfl, Nat.le_of_ble_eq_true rfl⟩ rfl (m_fine X (d + 1) (va_up (va_up f 4757 ((g 85) (f 4755).toNatClampNeg)) 4756 ((f 4756) + 1)) fl g gl hh v tx  _  (fun c8 => ?_) (fun c9 => ?_))
      · refine WP.run hP_159 1 (c' := (40, [some (.ref 74)], [], Wd (va_up (va_up f 4757 ((g 85) (f 4755).toNatClampNeg)) 4756 ((f 4756) + 1)) fl g gl hh v tx)) rfl ?_
        exact WP.ret hP_159 (r := none) (w' := Wd (va_up (va_up f 4757 ((g 85) (f 4755).toNatClampNeg)) 4756 ((f 4756) + 1)) fl g gl hh v tx) rfl (h4 c1 c7 c8)
      · refine WP.run hP_159 7 (c' := (40, [some (.ref 74)], [], Wd (va_up (va_up (va_up f 4757 ((g 85) (f 4755).toNatClampNeg)) 4756 ((f 4756) + 1)) 4755 ((f 4755) + 1)) fl g gl hh v tx)) rfl ?_
        exact WP.ret hP_159 (r := none) (w' := Wd (va_up (va_up (va_up f 4757 ((g 85) (f 4755).toNatClampNeg)) 4756 ((f 4756) + 1)) 4755 ((f 4755) + 1)) fl g gl hh v tx) rfl (h5 c1 c7 c9)

set_option maxRecDepth 20000 in
theorem m_fault (X : mm_X) (d : Nat) (f : Nat → Int32) (fl : Nat → Int64) (g : Nat → Nat → Int32) (gl : Nat → Nat → Int64) (hh : Nat → Nat → Option Nat) (v : Nat → Value) (tx : mm_W)  (P : Option Value → mm_W → Prop)
    (h0 : P (some (.int (f 4750))) (Wd f fl g gl hh v tx)) :
    WP X d 175 (0, [some (.ref 74)], [], Wd f fl g gl hh v tx) P := by
  refine WP.run hP_175 2 (c' := (4, [some (.ref 74)], [.int (f 4750)], Wd f fl g gl hh v tx)) rfl ?_
  exact WP.retI hP_175 rfl rfl h0

set_option maxRecDepth 20000 in
theorem m_isLaw (X : mm_X) (d : Nat) (f : Nat → Int32) (fl : Nat → Int64) (g : Nat → Nat → Int32) (gl : Nat → Nat → Int64) (hh : Nat → Nat → Option Nat) (v : Nat → Value) (tx : mm_W) (p0 : Int32) (P : Option Value → mm_W → Prop)
    (h0 : (p0 < (-1 : Int32)) → P (some (.int 0)) (Wd f fl g gl hh v tx))
    (h1 : (¬ (p0 < (-1 : Int32))) → ((((g 76) 58) - 1) < p0) → P (some (.int 0)) (Wd f fl g gl hh v tx))
    (h2 : (¬ (p0 < (-1 : Int32))) → (¬ ((((g 76) 58) - 1) < p0)) → P (some (.int 1)) (Wd f fl g gl hh v tx)) :
    WP X (d + 1) 176 (0, [some (.ref 74), some (.int p0)], [], Wd f fl g gl hh v tx) P := by
  refine WP.run hP_176 8 (c' := (11, [some (.ref 74), some (.int p0)], [.int (((g 76) 58) - 1), .int (-1), .int p0], Wd f fl g gl hh v tx)) rfl ?_
  refine WP.call hP_176 hP_116 (as := [.int p0, .int (-1), .int (((g 76) 58) - 1)]) (pc' := 14) (L' := [some (.ref 74), some (.int p0)]) (st' := []) (w1 := Wd f fl g gl hh v tx) rfl ⟨Nat.le_of_ble_eq_true rfl, Nat.le_of_ble_eq_true rfl⟩ rfl (m_lies X (d) f fl g gl hh v tx p0 (-1) (((g 76) 58) - 1) _  (fun c1 => ?_) (fun c2 c3 => ?_) (fun c4 c5 => ?_))
  · exact WP.ret hP_176 (r := some (.int 0)) (w' := Wd f fl g gl hh v tx) rfl (h0 c1)
  · exact WP.ret hP_176 (r := some (.int 0)) (w' := Wd f fl g gl hh v tx) rfl (h1 c2 c3)
  · exact WP.ret hP_176 (r := some (.int 1)) (w' := Wd f fl g gl hh v tx) rfl (h2 c4 c5)

set_option maxRecDepth 20000 in
theorem m_force (X : mm_X) (d : Nat) (f : Nat → Int32) (fl : Nat → Int64) (g : Nat → Nat → Int32) (gl : Nat → Nat → Int64) (hh : Nat → Nat → Option Nat) (v : Nat → Value) (tx : mm_W) (p0 : Int32) (P : Option Value → mm_W → Prop)
    (h0 : (p0 < (-1 : Int32)) → P (some (.int (-2 : Int32))) (Wd (va_up f 4736 (-2 : Int32)) fl (va_up g 75 (upd (g 75) (2 : Int32).toNatClampNeg (((g 75) (2 : Int32).toNatClampNeg) + 1))) gl hh v tx))
    (h1 : (¬ (p0 < (-1 : Int32))) → ((((g 76) 58) - 1) < p0) → P (some (.int (-2 : Int32))) (Wd (va_up f 4736 (-2 : Int32)) fl (va_up g 75 (upd (g 75) (2 : Int32).toNatClampNeg (((g 75) (2 : Int32).toNatClampNeg) + 1))) gl hh v tx))
    (h2 : (¬ (p0 < (-1 : Int32))) → (¬ ((((g 76) 58) - 1) < p0)) → P (some (.int ((g 76) 59))) (Wd (va_up f 4736 0) fl (va_up g 76 (upd (g 76) 59 p0)) gl hh v tx)) :
    WP X (d + 2) 177 (0, [some (.ref 74), some (.int p0), none], [], Wd f fl g gl hh v tx) P := by
  refine WP.run hP_177 2 (c' := (2, [some (.ref 74), some (.int p0), none], [.int p0, .ref 74], Wd f fl g gl hh v tx)) rfl ?_
  refine WP.call hP_177 hP_176 (as := [.ref 74, .int p0]) (pc' := 5) (L' := [some (.ref 74), some (.int p0), none]) (st' := []) (w1 := Wd f fl g gl hh v tx) rfl ⟨Nat.le_of_ble_eq_true rfl, Nat.le_of_ble_eq_true rfl⟩ rfl (m_isLaw X (d) f fl g gl hh v tx p0 _  (fun c1 => ?_) (fun c2 c3 => ?_) (fun c4 c5 => ?_))
  · refine WP.run hP_177 3 (c' := (11, [some (.ref 74), some (.int p0), none], [.int (-2), .ref 74], Wd f fl g gl hh v tx)) rfl ?_
    refine WP.call hP_177 hP_119 (as := [.ref 74, .int (-2)]) (pc' := 14) (L' := [some (.ref 74), some (.int p0), none]) (st' := []) (w1 := Wd f fl g gl hh v tx) rfl ⟨Nat.le_of_ble_eq_true rfl, Nat.le_of_ble_eq_true rfl⟩ rfl (m_refuses X (d + 1) f fl g gl hh v tx (-2) _ (by decide) (by decide) ?_)
    · exact WP.retI hP_177 rfl rfl (h0 c1)
  · refine WP.run hP_177 3 (c' := (11, [some (.ref 74), some (.int p0), none], [.int (-2), .ref 74], Wd f fl g gl hh v tx)) rfl ?_
    refine WP.call hP_177 hP_119 (as := [.ref 74, .int (-2)]) (pc' := 14) (L' := [some (.ref 74), some (.int p0), none]) (st' := []) (w1 := Wd f fl g gl hh v tx) rfl ⟨Nat.le_of_ble_eq_true rfl, Nat.le_of_ble_eq_true rfl⟩ rfl (m_refuses X (d + 1) f fl g gl hh v tx (-2) _ (by decide) (by decide) ?_)
    · exact WP.retI hP_177 rfl rfl (h1 c2 c3)
  · refine WP.run hP_177 13 (c' := (33, [some (.ref 74), some (.int p0), some (.int ((g 76) 59))], [.int ((g 76) 59), .ref 74], Wd f fl (va_up g 76 (upd (g 76) 59 p0)) gl hh v tx)) rfl ?_
    refine WP.call hP_177 hP_120 (as := [.ref 74, .int ((g 76) 59)]) (pc' := 36) (L' := [some (.ref 74), some (.int p0), some (.int ((g 76) 59))]) (st' := []) (w1 := Wd f fl (va_up g 76 (upd (g 76) 59 p0)) gl hh v tx) rfl ⟨Nat.le_of_ble_eq_true rfl, Nat.le_of_ble_eq_true rfl⟩ rfl (m_good X (d + 1) f fl (va_up g 76 (upd (g 76) 59 p0)) gl hh v tx ((g 76) 59) _  ?_)
    · exact WP.retI hP_177 rfl rfl (h2 c4 c5)

set_option maxRecDepth 20000 in
theorem m_bounded (X : mm_X) (d : Nat) (f : Nat → Int32) (fl : Nat → Int64) (g : Nat → Nat → Int32) (gl : Nat → Nat → Int64) (hh : Nat → Nat → Option Nat) (v : Nat → Value) (tx : mm_W) (p0 : Int64) (p1 : Int32) (P : Option Value → mm_W → Prop)
    (h0 : (p1 = 0) → ((f 4760) = 0) → P (some (.long p0)) (Wd f fl g gl hh v tx))
    (h1 : (p1 = 0) → (¬ ((f 4760) = 0)) → P (some (.long 0)) (Wd f fl g gl hh v tx))
    (h2 : (¬ (p1 = 0)) → (0 < (lg_cmp p0 1000000000)) → P (some (.long 0)) (Wd (va_up f 4760 1) fl g gl hh v tx))
    (h3 : (¬ (p1 = 0)) → (¬ (0 < (lg_cmp p0 1000000000))) → (0 ≤ (lg_cmp p0 (-1000000000))) → ((f 4760) = 0) → P (some (.long p0)) (Wd f fl g gl hh v tx))
    (h4 : (¬ (p1 = 0)) → (¬ (0 < (lg_cmp p0 1000000000))) → (0 ≤ (lg_cmp p0 (-1000000000))) → (¬ ((f 4760) = 0)) → P (some (.long 0)) (Wd f fl g gl hh v tx))
    (h5 : (¬ (p1 = 0)) → (¬ (0 < (lg_cmp p0 1000000000))) → (¬ (0 ≤ (lg_cmp p0 (-1000000000)))) → P (some (.long 0)) (Wd (va_up f 4760 1) fl g gl hh v tx)) :
    WP X d 180 (0, [some (.ref 74), some (.long p0), none, some (.int p1)], [], Wd f fl g gl hh v tx) P := by
  refine WP.run hP_180 1 (c' := (1, [some (.ref 74), some (.long p0), none, some (.int p1)], [.int p1], Wd f fl g gl hh v tx)) rfl ?_
  refine WP.br hP_180 (q := p1 = 0) (t := 25) (f := 4) (L := [some (.ref 74), some (.long p0), none, some (.int p1)]) (st := []) (w := Wd f fl g gl hh v tx) rfl (fun c1 => ?_) (fun c1 => ?_)
  · refine WP.run hP_180 2 (c' := (29, [some (.ref 74), some (.long p0), none, none], [.int (f 4760)], Wd f fl g gl hh v tx)) rfl ?_
    refine WP.br hP_180 (q := (f 4760) = 0) (t := 36) (f := 32) (L := [some (.ref 74), some (.long p0), none, none]) (st := []) (w := Wd f fl g gl hh v tx) rfl (fun c2 => ?_) (fun c2 => ?_)
    · refine WP.run hP_180 1 (c' := (37, [none, some (.long p0), none, none], [.long p0], Wd f fl g gl hh v tx)) rfl ?_
      exact WP.ret hP_180 (r := some (.long p0)) (w' := Wd f fl g gl hh v tx) rfl (h0 c1 c2)
    · refine WP.run hP_180 2 (c' := (37, [some (.ref 74), some (.long p0), none, none], [.long 0], Wd f fl g gl hh v tx)) rfl ?_
      exact WP.ret hP_180 (r := some (.long 0)) (w' := Wd f fl g gl hh v tx) rfl (h1 c1 c2)
  · refine WP.run hP_180 3 (c' := (9, [some (.ref 74), some (.long p0), none, some (.int p1)], [.int (lg_cmp p0 1000000000)], Wd f fl g gl hh v tx)) rfl ?_
    refine WP.br hP_180 (q := 0 < (lg_cmp p0 1000000000)) (t := 20) (f := 12) (L := [some (.ref 74), some (.long p0), none, some (.int p1)]) (st := []) (w := Wd f fl g gl hh v tx) rfl (fun c3 => ?_) (fun c3 => ?_)
    · refine WP.run hP_180 8 (c' := (37, [some (.ref 74), some (.long p0), none, none], [.long 0], Wd (va_up f 4760 1) fl g gl hh v tx)) rfl ?_
      exact WP.ret hP_180 (r := some (.long 0)) (w' := Wd (va_up f 4760 1) fl g gl hh v tx) rfl (h2 c1 c3)
    · refine WP.run hP_180 3 (c' := (17, [some (.ref 74), some (.long p0), none, some (.int p1)], [.int (lg_cmp p0 (-1000000000))], Wd f fl g gl hh v tx)) rfl ?_
      refine WP.br hP_180 (q := 0 ≤ (lg_cmp p0 (-1000000000))) (t := 25) (f := 20) (L := [some (.ref 74), some (.long p0), none, some (.int p1)]) (st := []) (w := Wd f fl g gl hh v tx) rfl (fun c4 => ?_) (fun c4 => ?_)
      · refine WP.run hP_180 2 (c' := (29, [some (.ref 74), some (.long p0), none, none], [.int (f 4760)], Wd f fl g gl hh v tx)) rfl ?_
        refine WP.br hP_180 (q := (f 4760) = 0) (t := 36) (f := 32) (L := [some (.ref 74), some (.long p0), none, none]) (st := []) (w := Wd f fl g gl hh v tx) rfl (fun c5 => ?_) (fun c5 => ?_)
        · refine WP.run hP_180 1 (c' := (37, [none, some (.long p0), none, none], [.long p0], Wd f fl g gl hh v tx)) rfl ?_
          exact WP.ret hP_180 (r := some (.long p0)) (w' := Wd f fl g gl hh v tx) rfl (h3 c1 c3 c4 c5)
        · refine WP.run hP_180 2 (c' := (37, [some (.ref 74), some (.long p0), none, none], [.long 0], Wd f fl g gl hh v tx)) rfl ?_
          exact WP.ret hP_180 (r := some (.long 0)) (w' := Wd f fl g gl hh v tx) rfl (h4 c1 c3 c4 c5)
      · refine WP.run hP_180 8 (c' := (37, [some (.ref 74), some (.long p0), none, none], [.long 0], Wd (va_up f 4760 1) fl g gl hh v tx)) rfl ?_
        exact WP.ret hP_180 (r := some (.long 0)) (w' := Wd (va_up f 4760 1) fl g gl hh v tx) rfl (h5 c1 c3 c4)

set_option maxRecDepth 20000 in
theorem m_goesOn (X : mm_X) (d : Nat) (f : Nat → Int32) (fl : Nat → Int64) (g : Nat → Nat → Int32) (gl : Nat → Nat → Int64) (hh : Nat → Nat → Option Nat) (v : Nat → Value) (tx : mm_W) (p0 : Int32) (p1 : Int32) (p2 : Int32) (P : Option Value → mm_W → Prop)
    (h0 : (p1 = 0) → (((p0 / 5) + p2) ≤ (4 : Int32)) → P (some (.int ((5 * ((p0 / 5) + p2)) + (p0 - (p0 / 5) * 5)))) (Wd f fl g gl hh v tx))
    (h1 : (p1 = 0) → (¬ (((p0 / 5) + p2) ≤ (4 : Int32))) → P (some (.int (20 + (p0 - (p0 / 5) * 5)))) (Wd f fl g gl hh v tx))
    (h2 : (¬ p1 = 0) → (p1 = 1) → (((p0 - (p0 / 5) * 5) + p2) ≤ (4 : Int32)) → P (some (.int ((5 * (p0 / 5)) + ((p0 - (p0 / 5) * 5) + p2)))) (Wd f fl g gl hh v tx))
    (h3 : (¬ p1 = 0) → (p1 = 1) → (¬ (((p0 - (p0 / 5) * 5) + p2) ≤ (4 : Int32))) → P (some (.int ((5 * (p0 / 5)) + (4 : Int32)))) (Wd f fl g gl hh v tx))
    (h4 : (¬ p1 = 0) → (¬ p1 = 1) → (p1 = 2) → ((0 : Int32) ≤ ((p0 / 5) - p2)) → P (some (.int ((5 * ((p0 / 5) - p2)) + (p0 - (p0 / 5) * 5)))) (Wd f fl g gl hh v tx))
    (h5 : (¬ p1 = 0) → (¬ p1 = 1) → (p1 = 2) → (¬ ((0 : Int32) ≤ ((p0 / 5) - p2))) → P (some (.int (0 + (p0 - (p0 / 5) * 5)))) (Wd f fl g gl hh v tx))
    (h6 : (¬ p1 = 0) → (¬ p1 = 1) → (¬ p1 = 2) → ((0 : Int32) ≤ ((p0 - (p0 / 5) * 5) - p2)) → P (some (.int ((5 * (p0 / 5)) + ((p0 - (p0 / 5) * 5) - p2)))) (Wd f fl g gl hh v tx))
    (h7 : (¬ p1 = 0) → (¬ p1 = 1) → (¬ p1 = 2) → (¬ ((0 : Int32) ≤ ((p0 - (p0 / 5) * 5) - p2))) → P (some (.int ((5 * (p0 / 5)) + (0 : Int32)))) (Wd f fl g gl hh v tx)) :
    WP X (d + 1) 205 (0, [some (.int p0), some (.int p1), some (.int p2), none, none], [], Wd f fl g gl hh v tx) P := by
  refine WP.run hP_205 9 (c' := (10, [some (.int p0), some (.int p1), some (.int p2), some (.int (p0 - (p0 / 5) * 5)), some (.int (p0 / 5))], [.int p1], Wd f fl g gl hh v tx)) rfl ?_
  refine WP.run hP_205 1 (c' := (mm_sw p1 0 [36, 49, 62] 75, [some (.int p0), some (.int p1), some (.int p2), some (.int (p0 - (p0 / 5) * 5)), some (.int (p0 / 5))], [], Wd f fl g gl hh v tx)) rfl ?_
  refine WP.sw (lo' := 1) rfl (fun c1 => ?_) (fun c1 => ?_)
  · refine WP.run hP_205 5 (c' := (42, [none, none, some (.int p2), some (.int (p0 - (p0 / 5) * 5)), some (.int (p0 / 5))], [.int ((p0 / 5) + p2), .int 4, .int 5], Wd f fl g gl hh v tx)) rfl ?_
    refine WP.call hP_205 hP_117 (as := [.int 4, .int ((p0 / 5) + p2)]) (pc' := 45) (L' := [none, none, some (.int p2), some (.int (p0 - (p0 / 5) * 5)), some (.int (p0 / 5))]) (st' := [.int 5]) (w1 := Wd f fl g gl hh v tx) rfl ⟨Nat.le_of_ble_eq_true rfl, Nat.le_of_ble_eq_true rfl⟩ rfl (m_lesser X (d) f fl g gl hh v tx 4 ((p0 / 5) + p2) _  (fun c2 => ?_) (fun c3 => ?_))
    · refine WP.run hP_205 3 (c' := (48, [none, none, some (.int p2), some (.int (p0 - (p0 / 5) * 5)), some (.int (p0 / 5))], [.int ((5 * ((p0 / 5) + p2)) + (p0 - (p0 / 5) * 5))], Wd f fl g gl hh v tx)) rfl ?_
      exact WP.retI hP_205 rfl rfl (h0 c1 c2)
    · refine WP.run hP_205 3 (c' := (48, [none, none, some (.int p2), some (.int (p0 - (p0 / 5) * 5)), some (.int (p0 / 5))], [.int (20 + (p0 - (p0 / 5) * 5))], Wd f fl g gl hh v tx)) rfl ?_
      exact WP.retI hP_205 rfl rfl (h1 c1 c3)
  refine WP.sw (lo' := 2) rfl (fun c4 => ?_) (fun c4 => ?_)
  · refine WP.run hP_205 7 (c' := (57, [none, none, some (.int p2), some (.int (p0 - (p0 / 5) * 5)), some (.int (p0 / 5))], [.int ((p0 - (p0 / 5) * 5) + p2), .int 4, .int (5 * (p0 / 5))], Wd f fl g gl hh v tx)) rfl ?_
    refine WP.call hP_205 hP_117 (as := [.int 4, .int ((p0 - (p0 / 5) * 5) + p2)]) (pc' := 60) (L' := [none, none, some (.int p2), some (.int (p0 - (p0 / 5) * 5)), some (.int (p0 / 5))]) (st' := [.int (5 * (p0 / 5))]) (w1 := Wd f fl g gl hh v tx) rfl ⟨Nat.le_of_ble_eq_true rfl, Nat.le_of_ble_eq_true rfl⟩ rfl (m_lesser X (d) f fl g gl hh v tx 4 ((p0 - (p0 / 5) * 5) + p2) _  (fun c5 => ?_) (fun c6 => ?_))
    · refine WP.run hP_205 1 (c' := (61, [none, none, some (.int p2), some (.int (p0 - (p0 / 5) * 5)), some (.int (p0 / 5))], [.int ((5 * (p0 / 5)) + ((p0 - (p0 / 5) * 5) + p2))], Wd f fl g gl hh v tx)) rfl ?_
      exact WP.retI hP_205 rfl rfl (h2 c1 c4 c5)
    · refine WP.run hP_205 1 (c' := (61, [none, none, some (.int p2), some (.int (p0 - (p0 / 5) * 5)), some (.int (p0 / 5))], [.int ((5 * (p0 / 5)) + (4 : Int32))], Wd f fl g gl hh v tx)) rfl ?_
      exact WP.retI hP_205 rfl rfl (h3 c1 c4 c6)
  refine WP.sw (lo' := 3) rfl (fun c7 => ?_) (fun c7 => ?_)
  · refine WP.run hP_205 5 (c' := (68, [none, none, some (.int p2), some (.int (p0 - (p0 / 5) * 5)), some (.int (p0 / 5))], [.int ((p0 / 5) - p2), .int 0, .int 5], Wd f fl g gl hh v tx)) rfl ?_
    refine WP.call hP_205 hP_118 (as := [.int 0, .int ((p0 / 5) - p2)]) (pc' := 71) (L' := [none, none, some (.int p2), some (.int (p0 - (p0 / 5) * 5)), some (.int (p0 / 5))]) (st' := [.int 5]) (w1 := Wd f fl g gl hh v tx) rfl ⟨Nat.le_of_ble_eq_true rfl, Nat.le_of_ble_eq_true rfl⟩ rfl (m_greater X (d) f fl g gl hh v tx 0 ((p0 / 5) - p2) _  (fun c8 => ?_) (fun c9 => ?_))
    · refine WP.run hP_205 3 (c' := (74, [none, none, some (.int p2), some (.int (p0 - (p0 / 5) * 5)), some (.int (p0 / 5))], [.int ((5 * ((p0 / 5) - p2)) + (p0 - (p0 / 5) * 5))], Wd f fl g gl hh v tx)) rfl ?_
      exact WP.retI hP_205 rfl rfl (h4 c1 c4 c7 c8)
    · refine WP.run hP_205 3 (c' := (74, [none, none, some (.int p2), some (.int (p0 - (p0 / 5) * 5)), some (.int (p0 / 5))], [.int (0 + (p0 - (p0 / 5) * 5))], Wd f fl g gl hh v tx)) rfl ?_
      exact WP.retI hP_205 rfl rfl (h5 c1 c4 c7 c9)
  show WP X _ 205 (75, [some (.int p0), some (.int p1), some (.int p2), some (.int (p0 - (p0 / 5) * 5)), some (.int (p0 / 5))], [], Wd f fl g gl hh v tx) P
  refine WP.run hP_205 7 (c' := (83, [none, none, some (.int p2), some (.int (p0 - (p0 / 5) * 5)), some (.int (p0 / 5))], [.int ((p0 - (p0 / 5) * 5) - p2), .int 0, .int (5 * (p0 / 5))], Wd f fl g gl hh v tx)) rfl ?_
  refine WP.call hP_205 hP_118 (as := [.int 0, .int ((p0 - (p0 / 5) * 5) - p2)]) (pc' := 86) (L' := [none, none, some (.int p2), some (.int (p0 - (p0 / 5) * 5)), some (.int (p0 / 5))]) (st' := [.int (5 * (p0 / 5))]) (w1 := Wd f fl g gl hh v tx) rfl ⟨Nat.le_of_ble_eq_true rfl, Nat.le_of_ble_eq_true rfl⟩ rfl (m_greater X (d) f fl g gl hh v tx 0 ((p0 - (p0 / 5) * 5) - p2) _  (fun c10 => ?_) (fun c11 => ?_))
  · refine WP.run hP_205 1 (c' := (87, [none, none, some (.int p2), some (.int (p0 - (p0 / 5) * 5)), some (.int (p0 / 5))], [.int ((5 * (p0 / 5)) + ((p0 - (p0 / 5) * 5) - p2))], Wd f fl g gl hh v tx)) rfl ?_
    exact WP.retI hP_205 rfl rfl (h6 c1 c4 c7 c10)
  · refine WP.run hP_205 1 (c' := (87, [none, none, some (.int p2), some (.int (p0 - (p0 / 5) * 5)), some (.int (p0 / 5))], [.int ((5 * (p0 / 5)) + (0 : Int32))], Wd f fl g gl hh v tx)) rfl ?_
    exact WP.retI hP_205 rfl rfl (h7 c1 c4 c7 c11)

set_option maxRecDepth 20000 in
theorem m_stateOf (X : mm_X) (d : Nat) (f : Nat → Int32) (fl : Nat → Int64) (g : Nat → Nat → Int32) (gl : Nat → Nat → Int64) (hh : Nat → Nat → Option Nat) (v : Nat → Value) (tx : mm_W) (p0 : Int32) (p1 : Int32) (p2 : Int32) (P : Option Value → mm_W → Prop)
    (h0 : P (some (.int ((((4 * p0) + p1) * 10) + p2))) (Wd f fl g gl hh v tx)) :
    WP X d 206 (0, [some (.int p0), some (.int p1), some (.int p2)], [], Wd f fl g gl hh v tx) P := by
  refine WP.run hP_206 9 (c' := (10, [some (.int p0), some (.int p1), some (.int p2)], [.int ((((4 * p0) + p1) * 10) + p2)], Wd f fl g gl hh v tx)) rfl ?_
  exact WP.retI hP_206 rfl rfl h0

set_option maxRecDepth 20000 in
theorem m_stateNow (X : mm_X) (d : Nat) (f : Nat → Int32) (fl : Nat → Int64) (g : Nat → Nat → Int32) (gl : Nat → Nat → Int64) (hh : Nat → Nat → Option Nat) (v : Nat → Value) (tx : mm_W) (p0 : Int32) (P : Option Value → mm_W → Prop)
    (i0 : ¬ ((13 + p0) < 0 ∨ 5667 ≤ (13 + p0).toNatClampNeg))
    (i1 : ¬ ((16 + p0) < 0 ∨ 5667 ≤ (16 + p0).toNatClampNeg))
    (i2 : ¬ ((19 + p0) < 0 ∨ 5667 ≤ (19 + p0).toNatClampNeg))
    (h0 : P (some (.int ((((4 * ((g 76) (13 + p0).toNatClampNeg)) + ((g 76) (16 + p0).toNatClampNeg)) * 10) + ((g 76) (19 + p0).toNatClampNeg)))) (Wd f fl g gl hh v tx)) :
    WP X (d + 1) 208 (0, [some (.ref 74), some (.int p0)], [], Wd f fl g gl hh v tx) P := by
  refine WP.run hP_208 5 (c' := (8, [some (.ref 74), some (.int p0)], [.int (13 + p0), .ref 76], Wd f fl g gl hh v tx)) rfl ?_
  refine WP.of (fun _ _ => Ex.iald hP_208 rfl (Wa_76 _ _ _ _ _ _ _) i0) ?_
  refine WP.run hP_208 5 (c' := (17, [some (.ref 74), some (.int p0)], [.int (16 + p0), .ref 76, .int ((g 76) (13 + p0).toNatClampNeg)], Wd f fl g gl hh v tx)) rfl ?_
  refine WP.of (fun _ _ => Ex.iald hP_208 rfl (Wa_76 _ _ _ _ _ _ _) i1) ?_
  refine WP.run hP_208 5 (c' := (26, [some (.ref 74), some (.int p0)], [.int (19 + p0), .ref 76, .int ((g 76) (16 + p0).toNatClampNeg), .int ((g 76) (13 + p0).toNatClampNeg)], Wd f fl g gl hh v tx)) rfl ?_
  refine WP.of (fun _ _ => Ex.iald hP_208 rfl (Wa_76 _ _ _ _ _ _ _) i2) ?_
  refine WP.call hP_208 hP_206 (as := [.int ((g 76) (13 + p0).toNatClampNeg), .int ((g 76) (16 + p0).toNatClampNeg), .int ((g 76) (19 + p0).toNatClampNeg)]) (pc' := 30) (L' := [some (.ref 74), some (.int p0)]) (st' := []) (w1 := Wd f fl g gl hh v tx) rfl ⟨Nat.le_of_ble_eq_true rfl, Nat.le_of_ble_eq_true rfl⟩ rfl (m_stateOf X (d) f fl g gl hh v tx ((g 76) (13 + p0).toNatClampNeg) ((g 76) (16 + p0).toNatClampNeg) ((g 76) (19 + p0).toNatClampNeg) _  ?_)
  · exact WP.retI hP_208 rfl rfl h0

set_option maxRecDepth 20000 in
theorem m_movesTo (X : mm_X) (d : Nat) (f : Nat → Int32) (fl : Nat → Int64) (g : Nat → Nat → Int32) (gl : Nat → Nat → Int64) (hh : Nat → Nat → Option Nat) (v : Nat → Value) (tx : mm_W) (p0 : Int32) (p1 : Int32) (P : Option Value → mm_W → Prop)
    (i0 : ¬ ((13 + p0) < 0 ∨ 5667 ≤ (13 + p0).toNatClampNeg))
    (i1 : ¬ ((16 + p0) < 0 ∨ 5667 ≤ (16 + p0).toNatClampNeg))
    (i2 : ¬ ((19 + p0) < 0 ∨ 5667 ≤ (19 + p0).toNatClampNeg))
    (h0 : P (none) (Wd f fl (va_up g 76 (upd (upd (upd (g 76) (13 + p0).toNatClampNeg ((p1 / 10) / 4)) (16 + p0).toNatClampNeg ((p1 / 10) - ((p1 / 10) / 4) * 4)) (19 + p0).toNatClampNeg (p1 - (p1 / 10) * 10))) gl hh v tx)) :
    WP X d 210 (0, [some (.ref 74), some (.int p0), some (.int p1)], [], Wd f fl g gl hh v tx) P := by
  refine WP.run hP_210 10 (c' := (14, [some (.ref 74), some (.int p0), some (.int p1)], [.int ((p1 / 10) / 4), .int (13 + p0), .ref 76], Wd f fl g gl hh v tx)) rfl ?_
  refine WP.of (fun _ _ => Ex.iast hP_210 (w2 := Wd f fl (va_up g 76 (upd (g 76) (13 + p0).toNatClampNeg ((p1 / 10) / 4))) gl hh v tx) rfl (Wa_76 _ _ _ _ _ _ _) i0 (Ws_76 _ _ _ _ _ _ _ _)) ?_
  refine WP.run hP_210 10 (c' := (29, [some (.ref 74), some (.int p0), some (.int p1)], [.int ((p1 / 10) - ((p1 / 10) / 4) * 4), .int (16 + p0), .ref 76], Wd f fl (va_up g 76 (upd (g 76) (13 + p0).toNatClampNeg ((p1 / 10) / 4))) gl hh v tx)) rfl ?_
  refine WP.of (fun _ _ => Ex.iast hP_210 (w2 := Wd f fl (va_up g 76 (upd (upd (g 76) (13 + p0).toNatClampNeg ((p1 / 10) / 4)) (16 + p0).toNatClampNeg ((p1 / 10) - ((p1 / 10) / 4) * 4))) gl hh v tx) rfl (Wa_76 _ _ _ _ _ _ _) i1 (Ws_76 _ _ _ _ _ _ _ _)) ?_
  refine WP.run hP_210 8 (c' := (42, [some (.ref 74), some (.int p0), some (.int p1)], [.int (p1 - (p1 / 10) * 10), .int (19 + p0), .ref 76], Wd f fl (va_up g 76 (upd (upd (g 76) (13 + p0).toNatClampNeg ((p1 / 10) / 4)) (16 + p0).toNatClampNeg ((p1 / 10) - ((p1 / 10) / 4) * 4))) gl hh v tx)) rfl ?_
  refine WP.of (fun _ _ => Ex.iast hP_210 (w2 := Wd f fl (va_up g 76 (upd (upd (upd (g 76) (13 + p0).toNatClampNeg ((p1 / 10) / 4)) (16 + p0).toNatClampNeg ((p1 / 10) - ((p1 / 10) / 4) * 4)) (19 + p0).toNatClampNeg (p1 - (p1 / 10) * 10))) gl hh v tx) rfl (Wa_76 _ _ _ _ _ _ _) i2 (Ws_76 _ _ _ _ _ _ _ _)) ?_
  exact WP.ret hP_210 (r := none) (w' := Wd f fl (va_up g 76 (upd (upd (upd (g 76) (13 + p0).toNatClampNeg ((p1 / 10) / 4)) (16 + p0).toNatClampNeg ((p1 / 10) - ((p1 / 10) / 4) * 4)) (19 + p0).toNatClampNeg (p1 - (p1 / 10) * 10))) gl hh v tx) rfl h0

set_option maxRecDepth 20000 in
theorem m_leftWith (X : mm_X) (d : Nat) (f : Nat → Int32) (fl : Nat → Int64) (g : Nat → Nat → Int32) (gl : Nat → Nat → Int64) (hh : Nat → Nat → Option Nat) (v : Nat → Value) (tx : mm_W) (p0 : Int32) (p1 : Int32) (P : Option Value → mm_W → Prop)
    (i0 : ¬ ((39 + p1) < 0 ∨ 5667 ≤ (39 + p1).toNatClampNeg))
    (i1 : ¬ (((6 * p0) + ((g 76) (39 + p1).toNatClampNeg)) < 0 ∨ 6000 ≤ ((6 * p0) + ((g 76) (39 + p1).toNatClampNeg)).toNatClampNeg))
    (i2 : ¬ (((g 91) ((6 * p0) + ((g 76) (39 + p1).toNatClampNeg)).toNatClampNeg) < 0 ∨ 1000 ≤ ((g 91) ((6 * p0) + ((g 76) (39 + p1).toNatClampNeg)).toNatClampNeg).toNatClampNeg))
    (i3 : ¬ ((31 + p1) < 0 ∨ 5667 ≤ (31 + p1).toNatClampNeg))
    (h0 : ((((g 92) ((g 91) ((6 * p0) + ((g 76) (39 + p1).toNatClampNeg)).toNatClampNeg).toNatClampNeg) + ((g 76) (31 + p1).toNatClampNeg)) ≤ (1000000 : Int32)) → P (some (.int (((g 92) ((g 91) ((6 * p0) + ((g 76) (39 + p1).toNatClampNeg)).toNatClampNeg).toNatClampNeg) + ((g 76) (31 + p1).toNatClampNeg)))) (Wd f fl g gl hh v tx))
    (h1 : (¬ ((((g 92) ((g 91) ((6 * p0) + ((g 76) (39 + p1).toNatClampNeg)).toNatClampNeg).toNatClampNeg) + ((g 76) (31 + p1).toNatClampNeg)) ≤ (1000000 : Int32))) → P (some (.int (1000000 : Int32))) (Wd f fl g gl hh v tx)) :
    WP X (d + 1) 213 (0, [some (.ref 74), some (.int p0), some (.int p1)], [], Wd f fl g gl hh v tx) P := by
  refine WP.run hP_213 13 (c' := (22, [some (.ref 74), some (.int p0), some (.int p1)], [.int (39 + p1), .ref 76, .int (6 * p0), .ref 91, .ref 92, .int 1000000], Wd f fl g gl hh v tx)) rfl ?_
  refine WP.of (fun _ _ => Ex.iald hP_213 rfl (Wa_76 _ _ _ _ _ _ _) i0) ?_
  refine WP.run hP_213 1 (c' := (24, [some (.ref 74), some (.int p0), some (.int p1)], [.int ((6 * p0) + ((g 76) (39 + p1).toNatClampNeg)), .ref 91, .ref 92, .int 1000000], Wd f fl g gl hh v tx)) rfl ?_
  refine WP.of (fun _ _ => Ex.iald hP_213 rfl (Wa_91 _ _ _ _ _ _ _) i1) ?_
  refine WP.of (fun _ _ => Ex.iald hP_213 rfl (Wa_92 _ _ _ _ _ _ _) i2) ?_
  refine WP.run hP_213 5 (c' := (34, [some (.ref 74), some (.int p0), some (.int p1)], [.int (31 + p1), .ref 76, .int ((g 92) ((g 91) ((6 * p0) + ((g 76) (39 + p1).toNatClampNeg)).toNatClampNeg).toNatClampNeg), .int 1000000], Wd f fl g gl hh v tx)) rfl ?_
  refine WP.of (fun _ _ => Ex.iald hP_213 rfl (Wa_76 _ _ _ _ _ _ _) i3) ?_
  refine WP.run hP_213 1 (c' := (36, [some (.ref 74), some (.int p0), some (.int p1)], [.int (((g 92) ((g 91) ((6 * p0) + ((g 76) (39 + p1).toNatClampNeg)).toNatClampNeg).toNatClampNeg) + ((g 76) (31 + p1).toNatClampNeg)), .int 1000000], Wd f fl g gl hh v tx)) rfl ?_
  refine WP.call hP_213 hP_117 (as := [.int 1000000, .int (((g 92) ((g 91) ((6 * p0) + ((g 76) (39 + p1).toNatClampNeg)).toNatClampNeg).toNatClampNeg) + ((g 76) (31 + p1).toNatClampNeg))]) (pc' := 39) (L' := [some (.ref 74), some (.int p0), some (.int p1)]) (st' := []) (w1 := Wd f fl g gl hh v tx) rfl ⟨Nat.le_of_ble_eq_true rfl, Nat.le_of_ble_eq_true rfl⟩ rfl (m_lesser X (d) f fl g gl hh v tx 1000000 (((g 92) ((g 91) ((6 * p0) + ((g 76) (39 + p1).toNatClampNeg)).toNatClampNeg).toNatClampNeg) + ((g 76) (31 + p1).toNatClampNeg)) _  (fun c1 => ?_) (fun c2 => ?_))
  · exact WP.retI hP_213 rfl rfl (h0 c1)
  · exact WP.retI hP_213 rfl rfl (h1 c2)

set_option maxRecDepth 20000 in
theorem m_comesNear (X : mm_X) (d : Nat) (f : Nat → Int32) (fl : Nat → Int64) (g : Nat → Nat → Int32) (gl : Nat → Nat → Int64) (hh : Nat → Nat → Option Nat) (v : Nat → Value) (tx : mm_W) (p0 : Int32) (p1 : Int32) (P : Option Value → mm_W → Prop)
    (i0 : ¬ (p0 < 0 ∨ 125 ≤ p0.toNatClampNeg))
    (i1 : (((g 93) p0.toNatClampNeg) ≤ p1) → ¬ (p0 < 0 ∨ 125 ≤ p0.toNatClampNeg))
    (i2 : (((g 93) p0.toNatClampNeg) ≤ p1) → (p1 ≤ ((g 93) p0.toNatClampNeg)) → ¬ (p0 < 0 ∨ 125 ≤ p0.toNatClampNeg))
    (i3 : (((g 93) p0.toNatClampNeg) ≤ p1) → (¬ (p1 ≤ ((g 93) p0.toNatClampNeg))) → ¬ (p0 < 0 ∨ 125 ≤ p0.toNatClampNeg))
    (i4 : (¬ (((g 93) p0.toNatClampNeg) ≤ p1)) → ¬ (p0 < 0 ∨ 125 ≤ p0.toNatClampNeg))
    (i5 : (¬ (((g 93) p0.toNatClampNeg) ≤ p1)) → (p1 ≤ ((g 93) p0.toNatClampNeg)) → ¬ (p0 < 0 ∨ 125 ≤ p0.toNatClampNeg))
    (i6 : (¬ (((g 93) p0.toNatClampNeg) ≤ p1)) → (¬ (p1 ≤ ((g 93) p0.toNatClampNeg))) → ¬ (p0 < 0 ∨ 125 ≤ p0.toNatClampNeg))
    (h0 : (((g 93) p0.toNatClampNeg) ≤ p1) → (p1 ≤ ((g 93) p0.toNatClampNeg)) → P (some (.int 0)) (Wd f fl (va_up g 93 (upd (g 93) p0.toNatClampNeg p1)) gl hh v tx))
    (h1 : (((g 93) p0.toNatClampNeg) ≤ p1) → (¬ (p1 ≤ ((g 93) p0.toNatClampNeg))) → P (some (.int 0)) (Wd f fl (va_up g 93 (upd (g 93) p0.toNatClampNeg ((g 93) p0.toNatClampNeg))) gl hh v tx))
    (h2 : (¬ (((g 93) p0.toNatClampNeg) ≤ p1)) → (p1 ≤ ((g 93) p0.toNatClampNeg)) → P (some (.int 1)) (Wd f fl (va_up g 93 (upd (g 93) p0.toNatClampNeg p1)) gl hh v tx))
    (h3 : (¬ (((g 93) p0.toNatClampNeg) ≤ p1)) → (¬ (p1 ≤ ((g 93) p0.toNatClampNeg))) → P (some (.int 1)) (Wd f fl (va_up g 93 (upd (g 93) p0.toNatClampNeg ((g 93) p0.toNatClampNeg))) gl hh v tx)) :
    WP X (d + 1) 221 (0, [some (.ref 74), some (.int p0), some (.int p1), none], [], Wd f fl g gl hh v tx) P := by
  refine WP.run hP_221 4 (c' := (6, [some (.ref 74), some (.int p0), some (.int p1), none], [.int p0, .ref 93, .int p1], Wd f fl g gl hh v tx)) rfl ?_
  refine WP.of (fun _ _ => Ex.iald hP_221 rfl (Wa_93 _ _ _ _ _ _ _) i0) ?_
  refine WP.br hP_221 (q := ((g 93) p0.toNatClampNeg) ≤ p1) (t := 14) (f := 10) (L := [some (.ref 74), some (.int p0), some (.int p1), none]) (st := []) (w := Wd f fl g gl hh v tx) rfl (fun c1 => ?_) (fun c1 => ?_)
  · refine WP.run hP_221 8 (c' := (26, [some (.ref 74), some (.int p0), some (.int p1), some (.int 0)], [.int p0, .ref 93, .int p0, .ref 93], Wd f fl g gl hh v tx)) rfl ?_
    refine WP.of (fun _ _ => Ex.iald hP_221 rfl (Wa_93 _ _ _ _ _ _ _) (i1 c1)) ?_
    refine WP.run hP_221 1 (c' := (28, [some (.ref 74), some (.int p0), some (.int p1), some (.int 0)], [.int p1, .int ((g 93) p0.toNatClampNeg), .int p0, .ref 93], Wd f fl g gl hh v tx)) rfl ?_
    refine WP.call hP_221 hP_117 (as := [.int ((g 93) p0.toNatClampNeg), .int p1]) (pc' := 31) (L' := [some (.ref 74), some (.int p0), some (.int p1), some (.int 0)]) (st' := [.int p0, .ref 93]) (w1 := Wd f fl g gl hh v tx) rfl ⟨Nat.le_of_ble_eq_true rfl, Nat.le_of_ble_eq_true rfl⟩ rfl (m_lesser X (d) f fl g gl hh v tx ((g 93) p0.toNatClampNeg) p1 _  (fun c2 => ?_) (fun c3 => ?_))
    · refine WP.of (fun _ _ => Ex.iast hP_221 (w2 := Wd f fl (va_up g 93 (upd (g 93) p0.toNatClampNeg p1)) gl hh v tx) rfl (Wa_93 _ _ _ _ _ _ _) (i2 c1 c2) (Ws_93 _ _ _ _ _ _ _ _)) ?_
      refine WP.run hP_221 1 (c' := (33, [some (.ref 74), some (.int p0), some (.int p1), some (.int 0)], [.int 0], Wd f fl (va_up g 93 (upd (g 93) p0.toNatClampNeg p1)) gl hh v tx)) rfl ?_
      exact WP.ret hP_221 (r := some (.int 0)) (w' := Wd f fl (va_up g 93 (upd (g 93) p0.toNatClampNeg p1)) gl hh v tx) rfl (h0 c1 c2)
    · refine WP.of (fun _ _ => Ex.iast hP_221 (w2 := Wd f fl (va_up g 93 (upd (g 93) p0.toNatClampNeg ((g 93) p0.toNatClampNeg))) gl hh v tx) rfl (Wa_93 _ _ _ _ _ _ _) (i3 c1 c3) (Ws_93 _ _ _ _ _ _ _ _)) ?_
      refine WP.run hP_221 1 (c' := (33, [some (.ref 74), some (.int p0), some (.int p1), some (.int 0)], [.int 0], Wd f fl (va_up g 93 (upd (g 93) p0.toNatClampNeg ((g 93) p0.toNatClampNeg))) gl hh v tx)) rfl ?_
      exact WP.ret hP_221 (r := some (.int 0)) (w' := Wd f fl (va_up g 93 (upd (g 93) p0.toNatClampNeg ((g 93) p0.toNatClampNeg))) gl hh v tx) rfl (h1 c1 c3)
  · refine WP.run hP_221 9 (c' := (26, [some (.ref 74), some (.int p0), some (.int p1), some (.int 1)], [.int p0, .ref 93, .int p0, .ref 93], Wd f fl g gl hh v tx)) rfl ?_
    refine WP.of (fun _ _ => Ex.iald hP_221 rfl (Wa_93 _ _ _ _ _ _ _) (i4 c1)) ?_
    refine WP.run hP_221 1 (c' := (28, [some (.ref 74), some (.int p0), some (.int p1), some (.int 1)], [.int p1, .int ((g 93) p0.toNatClampNeg), .int p0, .ref 93], Wd f fl g gl hh v tx)) rfl ?_
    refine WP.call hP_221 hP_117 (as := [.int ((g 93) p0.toNatClampNeg), .int p1]) (pc' := 31) (L' := [some (.ref 74), some (.int p0), some (.int p1), some (.int 1)]) (st' := [.int p0, .ref 93]) (w1 := Wd f fl g gl hh v tx) rfl ⟨Nat.le_of_ble_eq_true rfl, Nat.le_of_ble_eq_true rfl⟩ rfl (m_lesser X (d) f fl g gl hh v tx ((g 93) p0.toNatClampNeg) p1 _  (fun c4 => ?_) (fun c5 => ?_))
    · refine WP.of (fun _ _ => Ex.iast hP_221 (w2 := Wd f fl (va_up g 93 (upd (g 93) p0.toNatClampNeg p1)) gl hh v tx) rfl (Wa_93 _ _ _ _ _ _ _) (i5 c1 c4) (Ws_93 _ _ _ _ _ _ _ _)) ?_
      refine WP.run hP_221 1 (c' := (33, [some (.ref 74), some (.int p0), some (.int p1), some (.int 1)], [.int 1], Wd f fl (va_up g 93 (upd (g 93) p0.toNatClampNeg p1)) gl hh v tx)) rfl ?_
      exact WP.ret hP_221 (r := some (.int 1)) (w' := Wd f fl (va_up g 93 (upd (g 93) p0.toNatClampNeg p1)) gl hh v tx) rfl (h2 c1 c4)
    · refine WP.of (fun _ _ => Ex.iast hP_221 (w2 := Wd f fl (va_up g 93 (upd (g 93) p0.toNatClampNeg ((g 93) p0.toNatClampNeg))) gl hh v tx) rfl (Wa_93 _ _ _ _ _ _ _) (i6 c1 c5) (Ws_93 _ _ _ _ _ _ _ _)) ?_
      refine WP.run hP_221 1 (c' := (33, [some (.ref 74), some (.int p0), some (.int p1), some (.int 1)], [.int 1], Wd f fl (va_up g 93 (upd (g 93) p0.toNatClampNeg ((g 93) p0.toNatClampNeg))) gl hh v tx)) rfl ?_
      exact WP.ret hP_221 (r := some (.int 1)) (w' := Wd f fl (va_up g 93 (upd (g 93) p0.toNatClampNeg ((g 93) p0.toNatClampNeg))) gl hh v tx) rfl (h3 c1 c5)

set_option maxRecDepth 20000 in
theorem m_seen (X : mm_X) (d : Nat) (f : Nat → Int32) (fl : Nat → Int64) (g : Nat → Nat → Int32) (gl : Nat → Nat → Int64) (hh : Nat → Nat → Option Nat) (v : Nat → Value) (tx : mm_W) (p0 : Int32) (P : Option Value → mm_W → Prop)
    (i0 : (¬ (p0 < (0 : Int32))) → (¬ ((5 : Int32) < p0)) → (¬ ((g 76) 57) = 6) → ¬ ((47 + ((g 76) 57)) < 0 ∨ 5667 ≤ (47 + ((g 76) 57)).toNatClampNeg))
    (h0 : (p0 < (0 : Int32)) → P (some (.int (-1 : Int32))) (Wd (va_up f 4736 (-1 : Int32)) fl (va_up g 75 (upd (g 75) (1 : Int32).toNatClampNeg (((g 75) (1 : Int32).toNatClampNeg) + 1))) gl hh v tx))
    (h1 : (¬ (p0 < (0 : Int32))) → ((5 : Int32) < p0) → P (some (.int (-1 : Int32))) (Wd (va_up f 4736 (-1 : Int32)) fl (va_up g 75 (upd (g 75) (1 : Int32).toNatClampNeg (((g 75) (1 : Int32).toNatClampNeg) + 1))) gl hh v tx))
    (h2 : (¬ (p0 < (0 : Int32))) → (¬ ((5 : Int32) < p0)) → (¬ ((g 76) 57) = 6) → P (some (.int (((g 76) 57) + 1))) (Wd (va_up f 4736 0) fl (va_up g 76 (upd (upd (g 76) (47 + ((g 76) 57)).toNatClampNeg p0) (57 : Int32).toNatClampNeg (((upd (g 76) (47 + ((g 76) 57)).toNatClampNeg p0) (57 : Int32).toNatClampNeg) + 1))) gl hh v tx))
    (h3 : (¬ (p0 < (0 : Int32))) → (¬ ((5 : Int32) < p0)) → (¬ (¬ ((g 76) 57) = 6)) → P (some (.int (-5 : Int32))) (Wd (va_up f 4736 (-5 : Int32)) fl (va_up g 75 (upd (g 75) (5 : Int32).toNatClampNeg (((g 75) (5 : Int32).toNatClampNeg) + 1))) gl hh v tx)) :
    WP X (d + 1) 228 (0, [some (.ref 74), some (.int p0), none], [], Wd f fl g gl hh v tx) P := by
  refine WP.run hP_228 3 (c' := (3, [some (.ref 74), some (.int p0), none], [.int 5, .int 0, .int p0], Wd f fl g gl hh v tx)) rfl ?_
  refine WP.call hP_228 hP_116 (as := [.int p0, .int 0, .int 5]) (pc' := 6) (L' := [some (.ref 74), some (.int p0), none]) (st' := []) (w1 := Wd f fl g gl hh v tx) rfl ⟨Nat.le_of_ble_eq_true rfl, Nat.le_of_ble_eq_true rfl⟩ rfl (m_lies X (d) f fl g gl hh v tx p0 0 5 _  (fun c1 => ?_) (fun c2 c3 => ?_) (fun c4 c5 => ?_))
  · refine WP.run hP_228 3 (c' := (11, [some (.ref 74), some (.int p0), none], [.int (-1), .ref 74], Wd f fl g gl hh v tx)) rfl ?_
    refine WP.call hP_228 hP_119 (as := [.ref 74, .int (-1)]) (pc' := 14) (L' := [some (.ref 74), some (.int p0), none]) (st' := []) (w1 := Wd f fl g gl hh v tx) rfl ⟨Nat.le_of_ble_eq_true rfl, Nat.le_of_ble_eq_true rfl⟩ rfl (m_refuses X (d) f fl g gl hh v tx (-1) _ (by decide) (by decide) ?_)
    · exact WP.retI hP_228 rfl rfl (h0 c1)
  · refine WP.run hP_228 3 (c' := (11, [some (.ref 74), some (.int p0), none], [.int (-1), .ref 74], Wd f fl g gl hh v tx)) rfl ?_
    refine WP.call hP_228 hP_119 (as := [.ref 74, .int (-1)]) (pc' := 14) (L' := [some (.ref 74), some (.int p0), none]) (st' := []) (w1 := Wd f fl g gl hh v tx) rfl ⟨Nat.le_of_ble_eq_true rfl, Nat.le_of_ble_eq_true rfl⟩ rfl (m_refuses X (d) f fl g gl hh v tx (-1) _ (by decide) (by decide) ?_)
    · exact WP.retI hP_228 rfl rfl (h1 c2 c3)
  · refine WP.run hP_228 8 (c' := (26, [some (.ref 74), some (.int p0), some (.int ((g 76) 57))], [.int 6, .int ((g 76) 57)], Wd f fl g gl hh v tx)) rfl ?_
    refine WP.br hP_228 (q := ¬ ((g 76) 57) = 6) (t := 36) (f := 29) (L := [some (.ref 74), some (.int p0), some (.int ((g 76) 57))]) (st := []) (w := Wd f fl g gl hh v tx) rfl (fun c6 => ?_) (fun c6 => ?_)
    · refine WP.run hP_228 6 (c' := (45, [some (.ref 74), some (.int p0), some (.int ((g 76) 57))], [.int p0, .int (47 + ((g 76) 57)), .ref 76], Wd f fl g gl hh v tx)) rfl ?_
      refine WP.of (fun _ _ => Ex.iast hP_228 (w2 := Wd f fl (va_up g 76 (upd (g 76) (47 + ((g 76) 57)).toNatClampNeg p0)) gl hh v tx) rfl (Wa_76 _ _ _ _ _ _ _) (i0 c4 c5 c6) (Ws_76 _ _ _ _ _ _ _ _)) ?_
      refine WP.run hP_228 4 (c' := (53, [some (.ref 74), some (.int p0), some (.int ((g 76) 57))], [.int 57, .ref 76, .int 57, .ref 76], Wd f fl (va_up g 76 (upd (g 76) (47 + ((g 76) 57)).toNatClampNeg p0)) gl hh v tx)) rfl ?_
      refine WP.of (fun _ _ => Ex.iald hP_228 rfl (Wa_76 _ _ _ _ _ _ _) (by decide)) ?_
      refine WP.run hP_228 2 (c' := (56, [some (.ref 74), some (.int p0), some (.int ((g 76) 57))], [.int (((upd (g 76) (47 + ((g 76) 57)).toNatClampNeg p0) (57 : Int32).toNatClampNeg) + 1), .int 57, .ref 76], Wd f fl (va_up g 76 (upd (g 76) (47 + ((g 76) 57)).toNatClampNeg p0)) gl hh v tx)) rfl ?_
      refine WP.of (fun _ _ => Ex.iast hP_228 (w2 := Wd f fl (va_up g 76 (upd (upd (g 76) (47 + ((g 76) 57)).toNatClampNeg p0) (57 : Int32).toNatClampNeg (((upd (g 76) (47 + ((g 76) 57)).toNatClampNeg p0) (57 : Int32).toNatClampNeg) + 1))) gl hh v tx) rfl (Wa_76 _ _ _ _ _ _ _) (by decide) (Ws_76 _ _ _ _ _ _ _ _)) ?_
      refine WP.run hP_228 4 (c' := (61, [some (.ref 74), some (.int p0), some (.int ((g 76) 57))], [.int (((g 76) 57) + 1), .ref 74], Wd f fl (va_up g 76 (upd (upd (g 76) (47 + ((g 76) 57)).toNatClampNeg p0) (57 : Int32).toNatClampNeg (((upd (g 76) (47 + ((g 76) 57)).toNatClampNeg p0) (57 : Int32).toNatClampNeg) + 1))) gl hh v tx)) rfl ?_
      refine WP.call hP_228 hP_120 (as := [.ref 74, .int (((g 76) 57) + 1)]) (pc' := 64) (L' := [some (.ref 74), some (.int p0), some (.int ((g 76) 57))]) (st' := []) (w1 := Wd f fl (va_up g 76 (upd (upd (g 76) (47 + ((g 76) 57)).toNatClampNeg p0) (57 : Int32).toNatClampNeg (((upd (g 76) (47 + ((g 76) 57)).toNatClampNeg p0) (57 : Int32).toNatClampNeg) + 1))) gl hh v tx) rfl ⟨Nat.le_of_ble_eq_true rfl, Nat.le_of_ble_eq_true rfl⟩ rfl (m_good X (d) f fl (va_up g 76 (upd (upd (g 76) (47 + ((g 76) 57)).toNatClampNeg p0) (57 : Int32).toNatClampNeg (((upd (g 76) (47 + ((g 76) 57)).toNatClampNeg p0) (57 : Int32).toNatClampNeg) + 1))) gl hh v tx (((g 76) 57) + 1) _  ?_)
      · exact WP.retI hP_228 rfl rfl (h2 c4 c5 c6)
    · refine WP.run hP_228 2 (c' := (32, [some (.ref 74), some (.int p0), some (.int ((g 76) 57))], [.int (-5), .ref 74], Wd f fl g gl hh v tx)) rfl ?_
      refine WP.call hP_228 hP_119 (as := [.ref 74, .int (-5)]) (pc' := 35) (L' := [some (.ref 74), some (.int p0), some (.int ((g 76) 57))]) (st' := []) (w1 := Wd f fl g gl hh v tx) rfl ⟨Nat.le_of_ble_eq_true rfl, Nat.le_of_ble_eq_true rfl⟩ rfl (m_refuses X (d) f fl g gl hh v tx (-5) _ (by decide) (by decide) ?_)
      · exact WP.retI hP_228 rfl rfl (h3 c4 c5 c6)

set_option maxRecDepth 20000 in
theorem m_forget (X : mm_X) (d : Nat) (f : Nat → Int32) (fl : Nat → Int64) (g : Nat → Nat → Int32) (gl : Nat → Nat → Int64) (hh : Nat → Nat → Option Nat) (v : Nat → Value) (tx : mm_W)  (P : Option Value → mm_W → Prop)
    (h0 : P (some (.int ((g 76) 57))) (Wd f fl (va_up g 76 (upd (g 76) 57 0)) gl hh v tx)) :
    WP X d 229 (0, [some (.ref 74), none], [], Wd f fl g gl hh v tx) P := by
  refine WP.run hP_229 11 (c' := (17, [some (.ref 74), some (.int ((g 76) 57))], [.int ((g 76) 57)], Wd f fl (va_up g 76 (upd (g 76) 57 0)) gl hh v tx)) rfl ?_
  exact WP.retI hP_229 rfl rfl h0

set_option maxRecDepth 20000 in
theorem m_goodOr (X : mm_X) (d : Nat) (f : Nat → Int32) (fl : Nat → Int64) (g : Nat → Nat → Int32) (gl : Nat → Nat → Int64) (hh : Nat → Nat → Option Nat) (v : Nat → Value) (tx : mm_W) (p0 : Int32) (P : Option Value → mm_W → Prop)
    (i0 : (¬ (0 ≤ p0)) → ¬ ((-p0) < 0 ∨ 7 ≤ (-p0).toNatClampNeg))
    (i1 : (¬ (0 ≤ p0)) → ¬ ((-p0) < 0 ∨ 7 ≤ (-p0).toNatClampNeg))
    (h0 : (0 ≤ p0) → P (some (.int p0)) (Wd (va_up f 4736 0) fl g gl hh v tx))
    (h1 : (¬ (0 ≤ p0)) → P (some (.int p0)) (Wd (va_up f 4736 p0) fl (va_up g 75 (upd (g 75) (-p0).toNatClampNeg (((g 75) (-p0).toNatClampNeg) + 1))) gl hh v tx)) :
    WP X (d + 1) 234 (0, [some (.ref 74), some (.int p0)], [], Wd f fl g gl hh v tx) P := by
  refine WP.run hP_234 1 (c' := (1, [some (.ref 74), some (.int p0)], [.int p0], Wd f fl g gl hh v tx)) rfl ?_
  refine WP.br hP_234 (q := 0 ≤ p0) (t := 12) (f := 4) (L := [some (.ref 74), some (.int p0)]) (st := []) (w := Wd f fl g gl hh v tx) rfl (fun c1 => ?_) (fun c1 => ?_)
  · refine WP.run hP_234 2 (c' := (14, [some (.ref 74), some (.int p0)], [.int p0, .ref 74], Wd f fl g gl hh v tx)) rfl ?_
    refine WP.call hP_234 hP_120 (as := [.ref 74, .int p0]) (pc' := 17) (L' := [some (.ref 74), some (.int p0)]) (st' := []) (w1 := Wd f fl g gl hh v tx) rfl ⟨Nat.le_of_ble_eq_true rfl, Nat.le_of_ble_eq_true rfl⟩ rfl (m_good X (d) f fl g gl hh v tx p0 _  ?_)
    · exact WP.retI hP_234 rfl rfl (h0 c1)
  · refine WP.run hP_234 2 (c' := (6, [some (.ref 74), some (.int p0)], [.int p0, .ref 74], Wd f fl g gl hh v tx)) rfl ?_
    refine WP.call hP_234 hP_119 (as := [.ref 74, .int p0]) (pc' := 9) (L' := [some (.ref 74), some (.int p0)]) (st' := []) (w1 := Wd f fl g gl hh v tx) rfl ⟨Nat.le_of_ble_eq_true rfl, Nat.le_of_ble_eq_true rfl⟩ rfl (m_refuses X (d) f fl g gl hh v tx p0 _ (i0 c1) (i1 c1) ?_)
    · refine WP.run hP_234 1 (c' := (17, [some (.ref 74), some (.int p0)], [.int p0], Wd (va_up f 4736 p0) fl (va_up g 75 (upd (g 75) (-p0).toNatClampNeg (((g 75) (-p0).toNatClampNeg) + 1))) gl hh v tx)) rfl ?_
      exact WP.retI hP_234 rfl rfl (h1 c1)

set_option maxRecDepth 20000 in
theorem m_hangs (X : mm_X) (d : Nat) (f : Nat → Int32) (fl : Nat → Int64) (g : Nat → Nat → Int32) (gl : Nat → Nat → Int64) (hh : Nat → Nat → Option Nat) (v : Nat → Value) (tx : mm_W) (p0 : Int32) (P : Option Value → mm_W → Prop)
    (i0 : ¬ ((0 + ((g 76) 12)) < 0 ∨ 5667 ≤ (0 + ((g 76) 12)).toNatClampNeg))
    (h0 : P (none) (Wd f fl (va_up g 76 (upd (upd (g 76) (0 + ((g 76) 12)).toNatClampNeg p0) (12 : Int32).toNatClampNeg (((upd (g 76) (0 + ((g 76) 12)).toNatClampNeg p0) (12 : Int32).toNatClampNeg) + 1))) gl hh v tx)) :
    WP X (d + 1) 235 (0, [some (.ref 74), some (.int p0)], [], Wd f fl g gl hh v tx) P := by
  refine WP.run hP_235 4 (c' := (6, [some (.ref 74), some (.int p0)], [.ref 74, .int 0, .ref 76], Wd f fl g gl hh v tx)) rfl ?_
  refine WP.call hP_235 hP_130 (as := [.ref 74]) (pc' := 9) (L' := [some (.ref 74), some (.int p0)]) (st' := [.int 0, .ref 76]) (w1 := Wd f fl g gl hh v tx) rfl ⟨Nat.le_of_ble_eq_true rfl, Nat.le_of_ble_eq_true rfl⟩ rfl (m_size X (d) f fl g gl hh v tx  _  ?_)
  · refine WP.run hP_235 2 (c' := (11, [some (.ref 74), some (.int p0)], [.int p0, .int (0 + ((g 76) 12)), .ref 76], Wd f fl g gl hh v tx)) rfl ?_
    refine WP.of (fun _ _ => Ex.iast hP_235 (w2 := Wd f fl (va_up g 76 (upd (g 76) (0 + ((g 76) 12)).toNatClampNeg p0)) gl hh v tx) rfl (Wa_76 _ _ _ _ _ _ _) i0 (Ws_76 _ _ _ _ _ _ _ _)) ?_
    refine WP.run hP_235 4 (c' := (19, [some (.ref 74), some (.int p0)], [.int 12, .ref 76, .int 12, .ref 76], Wd f fl (va_up g 76 (upd (g 76) (0 + ((g 76) 12)).toNatClampNeg p0)) gl hh v tx)) rfl ?_
    refine WP.of (fun _ _ => Ex.iald hP_235 rfl (Wa_76 _ _ _ _ _ _ _) (by decide)) ?_
    refine WP.run hP_235 2 (c' := (22, [some (.ref 74), some (.int p0)], [.int (((upd (g 76) (0 + ((g 76) 12)).toNatClampNeg p0) (12 : Int32).toNatClampNeg) + 1), .int 12, .ref 76], Wd f fl (va_up g 76 (upd (g 76) (0 + ((g 76) 12)).toNatClampNeg p0)) gl hh v tx)) rfl ?_
    refine WP.of (fun _ _ => Ex.iast hP_235 (w2 := Wd f fl (va_up g 76 (upd (upd (g 76) (0 + ((g 76) 12)).toNatClampNeg p0) (12 : Int32).toNatClampNeg (((upd (g 76) (0 + ((g 76) 12)).toNatClampNeg p0) (12 : Int32).toNatClampNeg) + 1))) gl hh v tx) rfl (Wa_76 _ _ _ _ _ _ _) (by decide) (Ws_76 _ _ _ _ _ _ _ _)) ?_
    exact WP.ret hP_235 (r := none) (w' := Wd f fl (va_up g 76 (upd (upd (g 76) (0 + ((g 76) 12)).toNatClampNeg p0) (12 : Int32).toNatClampNeg (((upd (g 76) (0 + ((g 76) 12)).toNatClampNeg p0) (12 : Int32).toNatClampNeg) + 1))) gl hh v tx) rfl h0

set_option maxRecDepth 20000 in
theorem m_stopped (X : mm_X) (d : Nat) (f : Nat → Int32) (fl : Nat → Int64) (g : Nat → Nat → Int32) (gl : Nat → Nat → Int64) (hh : Nat → Nat → Option Nat) (v : Nat → Value) (tx : mm_W)  (P : Option Value → mm_W → Prop)
    (h0 : P (some (.int (f 4778))) (Wd f fl g gl hh v tx)) :
    WP X d 244 (0, [some (.ref 74)], [], Wd f fl g gl hh v tx) P := by
  refine WP.run hP_244 2 (c' := (4, [some (.ref 74)], [.int (f 4778)], Wd f fl g gl hh v tx)) rfl ?_
  exact WP.retI hP_244 rfl rfl h0

set_option maxRecDepth 20000 in
theorem m_small (X : mm_X) (d : Nat) (f : Nat → Int32) (fl : Nat → Int64) (g : Nat → Nat → Int32) (gl : Nat → Nat → Int64) (hh : Nat → Nat → Option Nat) (v : Nat → Value) (tx : mm_W) (p0 : Int64) (P : Option Value → mm_W → Prop)
    (h0 : ((lg_cmp p0 0) < 0) → P (some (.int (-1))) (Wd f fl g gl hh v tx))
    (h1 : (¬ ((lg_cmp p0 0) < 0)) → ((lg_cmp p0 1000000) ≤ 0) → P (some (.int ((p0 : Int64).toInt32))) (Wd f fl g gl hh v tx))
    (h2 : (¬ ((lg_cmp p0 0) < 0)) → (¬ ((lg_cmp p0 1000000) ≤ 0)) → P (some (.int (-1))) (Wd f fl g gl hh v tx)) :
    WP X d 247 (0, [some (.long p0), none], [], Wd f fl g gl hh v tx) P := by
  refine WP.run hP_247 3 (c' := (3, [some (.long p0), none], [.int (lg_cmp p0 0)], Wd f fl g gl hh v tx)) rfl ?_
  refine WP.br hP_247 (q := (lg_cmp p0 0) < 0) (t := 14) (f := 6) (L := [some (.long p0), none]) (st := []) (w := Wd f fl g gl hh v tx) rfl (fun c1 => ?_) (fun c1 => ?_)
  · refine WP.run hP_247 2 (c' := (20, [none, none], [.int (-1)], Wd f fl g gl hh v tx)) rfl ?_
    exact WP.retI hP_247 rfl rfl (h0 c1)
  · refine WP.run hP_247 3 (c' := (11, [some (.long p0), none], [.int (lg_cmp p0 1000000)], Wd f fl g gl hh v tx)) rfl ?_
    refine WP.br hP_247 (q := (lg_cmp p0 1000000) ≤ 0) (t := 18) (f := 14) (L := [some (.long p0), none]) (st := []) (w := Wd f fl g gl hh v tx) rfl (fun c2 => ?_) (fun c2 => ?_)
    · refine WP.run hP_247 2 (c' := (20, [some (.long p0), none], [.int ((p0 : Int64).toInt32)], Wd f fl g gl hh v tx)) rfl ?_
      exact WP.retI hP_247 rfl rfl (h1 c1 c2)
    · refine WP.run hP_247 2 (c' := (20, [none, none], [.int (-1)], Wd f fl g gl hh v tx)) rfl ?_
      exact WP.retI hP_247 rfl rfl (h2 c1 c2)

set_option maxRecDepth 20000 in
theorem m_draws (X : mm_X) (d : Nat) (f : Nat → Int32) (fl : Nat → Int64) (g : Nat → Nat → Int32) (gl : Nat → Nat → Int64) (hh : Nat → Nat → Option Nat) (v : Nat → Value) (tx : mm_W) (p0 : Int32) (P : Option Value → mm_W → Prop)
    (i0 : ¬ p0 = 0)
    (h0 : P (some (.int ((((((1103 * (((f 4787) : Int32).toInt64)) + 12345) - (((1103 * (((f 4787) : Int32).toInt64)) + 12345) / 1000003) * 1000003) : Int64).toInt32) - ((((((1103 * (((f 4787) : Int32).toInt64)) + 12345) - (((1103 * (((f 4787) : Int32).toInt64)) + 12345) / 1000003) * 1000003) : Int64).toInt32) / p0) * p0))) (Wd (va_up f 4787 (((((1103 * (((f 4787) : Int32).toInt64)) + 12345) - (((1103 * (((f 4787) : Int32).toInt64)) + 12345) / 1000003) * 1000003) : Int64).toInt32)) fl g gl hh v tx)) :
    WP X d 250 (0, [some (.ref 74), some (.int p0)], [], Wd f fl g gl hh v tx) P := by
  refine WP.run hP_250 15 (c' := (27, [some (.ref 74), some (.int p0)], [.int p0, .int (((((1103 * (((f 4787) : Int32).toInt64)) + 12345) - (((1103 * (((f 4787) : Int32).toInt64)) + 12345) / 1000003) * 1000003) : Int64).toInt32)], Wd (va_up f 4787 (((((1103 * (((f 4787) : Int32).toInt64)) + 12345) - (((1103 * (((f 4787) : Int32).toInt64)) + 12345) / 1000003) * 1000003) : Int64).toInt32)) fl g gl hh v tx)) rfl ?_
  refine WP.of (fun _ _ => Ex.irem hP_250 rfl i0) ?_
  exact WP.retI hP_250 rfl rfl h0

set_option maxRecDepth 20000 in
theorem m_drawn (X : mm_X) (d : Nat) (f : Nat → Int32) (fl : Nat → Int64) (g : Nat → Nat → Int32) (gl : Nat → Nat → Int64) (hh : Nat → Nat → Option Nat) (v : Nat → Value) (tx : mm_W) (p0 : Int32) (p1 : Int32) (P : Option Value → mm_W → Prop)
    (i0 : (¬ (p0 < (0 : Int32))) → (¬ (((f 4786) - 1) < p0)) → (¬ (p1 < (0 : Int32))) → (¬ ((2 : Int32) < p1)) → (¬ p1 = 0) → (¬ p1 = 1) → ¬ ((19 + p0) < 0 ∨ 23 ≤ (19 + p0).toNatClampNeg))
    (i1 : (¬ (p0 < (0 : Int32))) → (¬ (((f 4786) - 1) < p0)) → (¬ (p1 < (0 : Int32))) → (¬ ((2 : Int32) < p1)) → (¬ p1 = 0) → (¬ (¬ p1 = 1)) → ¬ ((16 + p0) < 0 ∨ 23 ≤ (16 + p0).toNatClampNeg))
    (i2 : (¬ (p0 < (0 : Int32))) → (¬ (((f 4786) - 1) < p0)) → (¬ (p1 < (0 : Int32))) → (¬ ((2 : Int32) < p1)) → (¬ (¬ p1 = 0)) → ¬ ((13 + p0) < 0 ∨ 23 ≤ (13 + p0).toNatClampNeg))
    (h0 : (p0 < (0 : Int32)) → P (some (.int (-1))) (Wd f fl g gl hh v tx))
    (h1 : (¬ (p0 < (0 : Int32))) → (((f 4786) - 1) < p0) → P (some (.int (-1))) (Wd f fl g gl hh v tx))
    (h2 : (¬ (p0 < (0 : Int32))) → (¬ (((f 4786) - 1) < p0)) → (p1 < (0 : Int32)) → P (some (.int (-1))) (Wd f fl g gl hh v tx))
    (h3 : (¬ (p0 < (0 : Int32))) → (¬ (((f 4786) - 1) < p0)) → (¬ (p1 < (0 : Int32))) → ((2 : Int32) < p1) → P (some (.int (-1))) (Wd f fl g gl hh v tx))
    (h4 : (¬ (p0 < (0 : Int32))) → (¬ (((f 4786) - 1) < p0)) → (¬ (p1 < (0 : Int32))) → (¬ ((2 : Int32) < p1)) → (¬ p1 = 0) → (¬ p1 = 1) → P (some (.int ((g 99) (19 + p0).toNatClampNeg))) (Wd f fl g gl hh v tx))
    (h5 : (¬ (p0 < (0 : Int32))) → (¬ (((f 4786) - 1) < p0)) → (¬ (p1 < (0 : Int32))) → (¬ ((2 : Int32) < p1)) → (¬ p1 = 0) → (¬ (¬ p1 = 1)) → P (some (.int ((g 99) (16 + p0).toNatClampNeg))) (Wd f fl g gl hh v tx))
    (h6 : (¬ (p0 < (0 : Int32))) → (¬ (((f 4786) - 1) < p0)) → (¬ (p1 < (0 : Int32))) → (¬ ((2 : Int32) < p1)) → (¬ (¬ p1 = 0)) → P (some (.int ((g 99) (13 + p0).toNatClampNeg))) (Wd f fl g gl hh v tx)) :
    WP X (d + 1) 253 (0, [some (.ref 74), some (.int p0), some (.int p1)], [], Wd f fl g gl hh v tx) P := by
  refine WP.run hP_253 6 (c' := (8, [some (.ref 74), some (.int p0), some (.int p1)], [.int ((f 4786) - 1), .int 0, .int p0], Wd f fl g gl hh v tx)) rfl ?_
  refine WP.call hP_253 hP_116 (as := [.int p0, .int 0, .int ((f 4786) - 1)]) (pc' := 11) (L' := [some (.ref 74), some (.int p0), some (.int p1)]) (st' := []) (w1 := Wd f fl g gl hh v tx) rfl ⟨Nat.le_of_ble_eq_true rfl, Nat.le_of_ble_eq_true rfl⟩ rfl (m_lies X (d) f fl g gl hh v tx p0 0 ((f 4786) - 1) _  (fun c1 => ?_) (fun c2 c3 => ?_) (fun c4 c5 => ?_))
  · refine WP.run hP_253 2 (c' := (24, [none, none, none], [.int (-1)], Wd f fl g gl hh v tx)) rfl ?_
    exact WP.retI hP_253 rfl rfl (h0 c1)
  · refine WP.run hP_253 2 (c' := (24, [none, none, none], [.int (-1)], Wd f fl g gl hh v tx)) rfl ?_
    exact WP.retI hP_253 rfl rfl (h1 c2 c3)
  · refine WP.run hP_253 4 (c' := (17, [some (.ref 74), some (.int p0), some (.int p1)], [.int 2, .int 0, .int p1], Wd f fl g gl hh v tx)) rfl ?_
    refine WP.call hP_253 hP_116 (as := [.int p1, .int 0, .int 2]) (pc' := 20) (L' := [some (.ref 74), some (.int p0), some (.int p1)]) (st' := []) (w1 := Wd f fl g gl hh v tx) rfl ⟨Nat.le_of_ble_eq_true rfl, Nat.le_of_ble_eq_true rfl⟩ rfl (m_lies X (d) f fl g gl hh v tx p1 0 2 _  (fun c6 => ?_) (fun c7 c8 => ?_) (fun c9 c10 => ?_))
    · refine WP.run hP_253 2 (c' := (24, [none, none, none], [.int (-1)], Wd f fl g gl hh v tx)) rfl ?_
      exact WP.retI hP_253 rfl rfl (h2 c4 c5 c6)
    · refine WP.run hP_253 2 (c' := (24, [none, none, none], [.int (-1)], Wd f fl g gl hh v tx)) rfl ?_
      exact WP.retI hP_253 rfl rfl (h3 c4 c5 c7 c8)
    · refine WP.run hP_253 4 (c' := (30, [some (.ref 74), some (.int p0), some (.int p1)], [.int p1, .ref 99], Wd f fl g gl hh v tx)) rfl ?_
      refine WP.br hP_253 (q := ¬ p1 = 0) (t := 38) (f := 33) (L := [some (.ref 74), some (.int p0), some (.int p1)]) (st := [.ref 99]) (w := Wd f fl g gl hh v tx) rfl (fun c11 => ?_) (fun c11 => ?_)
      · refine WP.run hP_253 2 (c' := (40, [none, some (.int p0), some (.int p1)], [.int 1, .int p1, .ref 99], Wd f fl g gl hh v tx)) rfl ?_
        refine WP.br hP_253 (q := ¬ p1 = 1) (t := 48) (f := 43) (L := [none, some (.int p0), some (.int p1)]) (st := [.ref 99]) (w := Wd f fl g gl hh v tx) rfl (fun c12 => ?_) (fun c12 => ?_)
        · refine WP.run hP_253 3 (c' := (52, [none, some (.int p0), none], [.int (19 + p0), .ref 99], Wd f fl g gl hh v tx)) rfl ?_
          refine WP.of (fun _ _ => Ex.iald hP_253 rfl (Wa_99 _ _ _ _ _ _ _) (i0 c4 c5 c9 c10 c11 c12)) ?_
          exact WP.retI hP_253 rfl rfl (h4 c4 c5 c9 c10 c11 c12)
        · refine WP.run hP_253 4 (c' := (52, [none, some (.int p0), none], [.int (16 + p0), .ref 99], Wd f fl g gl hh v tx)) rfl ?_
          refine WP.of (fun _ _ => Ex.iald hP_253 rfl (Wa_99 _ _ _ _ _ _ _) (i1 c4 c5 c9 c10 c11 c12)) ?_
          exact WP.retI hP_253 rfl rfl (h5 c4 c5 c9 c10 c11 c12)
      · refine WP.run hP_253 4 (c' := (52, [none, some (.int p0), none], [.int (13 + p0), .ref 99], Wd f fl g gl hh v tx)) rfl ?_
        refine WP.of (fun _ _ => Ex.iald hP_253 rfl (Wa_99 _ _ _ _ _ _ _) (i2 c4 c5 c9 c10 c11)) ?_
        exact WP.retI hP_253 rfl rfl (h6 c4 c5 c9 c10 c11)

set_option maxRecDepth 20000 in
theorem m_status (X : mm_X) (d : Nat) (f : Nat → Int32) (fl : Nat → Int64) (g : Nat → Nat → Int32) (gl : Nat → Nat → Int64) (hh : Nat → Nat → Option Nat) (v : Nat → Value) (tx : mm_W)  (P : Option Value → mm_W → Prop)
    (h0 : P (some (.int (f 4736))) (Wd f fl g gl hh v tx)) :
    WP X d 255 (0, [some (.ref 74)], [], Wd f fl g gl hh v tx) P := by
  refine WP.run hP_255 2 (c' := (4, [some (.ref 74)], [.int (f 4736)], Wd f fl g gl hh v tx)) rfl ?_
  exact WP.retI hP_255 rfl rfl h0
