set_option maxRecDepth 20000 in
theorem b_m_readPart_0 (X : mm_X) (d : Nat) (f : Nat → Int32) (fl : Nat → Int64) (g : Nat → Nat → Int32) (gl : Nat → Nat → Int64) (hh : Nat → Nat → Option Nat) (v : Nat → Value) (tx : mm_W) (p0 : Int32)  (P : Option Value → mm_W → Prop)
    (h : ((¬ (f 4757) = (-1)) → P none (Wd f fl g gl hh v tx)) ∧
    (((f 4757) = (-1)) → ((¬ ((f 4755) < 0 ∨ 401 ≤ (f 4755).toNatClampNeg)) ∧ (((¬ ((g 83) (f 4755).toNatClampNeg) = 191) → (((¬ ((g 83) (f 4755).toNatClampNeg) = 50) → WP X (d + 2) 170 (95, [some (.ref 74), none, some (.int ((g 83) (f 4755).toNatClampNeg))], [], Wd f fl g gl hh v tx) P) ∧
        ((((g 83) (f 4755).toNatClampNeg) = 50) → ((¬ ((f 4755) < 0 ∨ 401 ≤ (f 4755).toNatClampNeg)) ∧ (((((g 84) (f 4755).toNatClampNeg) ≤ 1000) → WP X (d + 2) 170 (111, [some (.ref 74), none, some (.int ((g 83) (f 4755).toNatClampNeg))], [], Wd f fl g gl hh v tx) P) ∧
          ((¬ (((g 84) (f 4755).toNatClampNeg) ≤ 1000)) → WP X (d + 2) 170 (95, [some (.ref 74), none, some (.int ((g 83) (f 4755).toNatClampNeg))], [], Wd f fl g gl hh v tx) P)))))) ∧
      ((((g 83) (f 4755).toNatClampNeg) = 191) → (((¬ p0 = 8) → WP X (d + 2) 170 (37, [some (.ref 74), some (.int p0), none], [], Wd f fl g gl hh v tx) P) ∧
        ((p0 = 8) → (((¬ (f 4757) = (-1)) → WP X (d + 2) 170 (37, [some (.ref 74), some (.int p0), none], [], Wd f fl g gl hh v tx) P) ∧
          (((f 4757) = (-1)) → ((¬ ((f 4755) < 0 ∨ 401 ≤ (f 4755).toNatClampNeg)) ∧ WP X (d + 2) 170 (37, [some (.ref 74), some (.int p0), none], [], Wd (va_up f 4757 ((g 85) (f 4755).toNatClampNeg)) fl g gl hh v tx) P)))))))))) :
    WP X (d + 2) 170 (0, [some (.ref 74), some (.int p0), none], [], Wd f fl g gl hh v tx) P := by
  refine WP.run hP_170 1 (c' := (1, [some (.ref 74), some (.int p0), none], [.ref 74], Wd f fl g gl hh v tx)) rfl ?_
  refine WP.call hP_170 hP_155 (as := [.ref 74]) (pc' := 4) (L' := [some (.ref 74), some (.int p0), none]) (st' := []) (w1 := Wd f fl g gl hh v tx) rfl ⟨Nat.le_of_ble_eq_true rfl, Nat.le_of_ble_eq_true rfl⟩ rfl (b_m_fine_0 X (d + 1) f fl g gl hh v tx  _ ?_)
  refine ⟨fun c1 => ?_, fun c1 => ?_⟩
  · have h2 := h.1 c1
    refine WP.run hP_170 1 (c' := (7, [some (.ref 74), some (.int p0), none], [], Wd f fl g gl hh v tx)) rfl ?_
    exact WP.ret hP_170 (r := none) (w' := Wd f fl g gl hh v tx) rfl h2
  · have h3 := h.2 c1
    refine WP.run hP_170 5 (c' := (16, [some (.ref 74), some (.int p0), none], [.int (f 4755), .ref 83], Wd f fl g gl hh v tx)) rfl ?_
    refine WP.of (fun _ _ => Ex.iald hP_170 rfl (Wa_83 _ _ _ _ _ _ _) h3.1) ?_
    have h4 := h3.2
    refine WP.run hP_170 3 (c' := (21, [some (.ref 74), some (.int p0), some (.int ((g 83) (f 4755).toNatClampNeg))], [.int 91, .int ((g 83) (f 4755).toNatClampNeg)], Wd f fl g gl hh v tx)) rfl ?_
    refine WP.call hP_170 hP_160 (as := [.int 91]) (pc' := 24) (L' := [some (.ref 74), some (.int p0), some (.int ((g 83) (f 4755).toNatClampNeg))]) (st' := [.int ((g 83) (f 4755).toNatClampNeg)]) (w1 := Wd f fl g gl hh v tx) rfl ⟨Nat.le_of_ble_eq_true rfl, Nat.le_of_ble_eq_true rfl⟩ rfl (b_m_glyph_0 X (d + 1) f fl g gl hh v tx 91 _ ?_)
    refine WP.br hP_170 (q := ¬ ((g 83) (f 4755).toNatClampNeg) = 191) (t := 74) (f := 27) (L := [some (.ref 74), some (.int p0), some (.int ((g 83) (f 4755).toNatClampNeg))]) (st := []) (w := Wd f fl g gl hh v tx) rfl (fun c5 => ?_) (fun c5 => ?_)
    · have h6 := h4.1 c5
      refine WP.run hP_170 2 (c' := (77, [some (.ref 74), none, some (.int ((g 83) (f 4755).toNatClampNeg))], [.int 50, .int ((g 83) (f 4755).toNatClampNeg)], Wd f fl g gl hh v tx)) rfl ?_
      refine WP.br hP_170 (q := ¬ ((g 83) (f 4755).toNatClampNeg) = 50) (t := 95) (f := 80) (L := [some (.ref 74), none, some (.int ((g 83) (f 4755).toNatClampNeg))]) (st := []) (w := Wd f fl g gl hh v tx) rfl (fun c7 => ?_) (fun c7 => ?_)
      · have h8 := h6.1 c7
        exact h8
      · have h9 := h6.2 (Classical.not_not.mp c7)
        refine WP.run hP_170 4 (c' := (88, [some (.ref 74), none, some (.int ((g 83) (f 4755).toNatClampNeg))], [.int (f 4755), .ref 84], Wd f fl g gl hh v tx)) rfl ?_
        refine WP.of (fun _ _ => Ex.iald hP_170 rfl (Wa_84 _ _ _ _ _ _ _) h9.1) ?_
        have h10 := h9.2
        refine WP.run hP_170 1 (c' := (92, [some (.ref 74), none, some (.int ((g 83) (f 4755).toNatClampNeg))], [.int 1000, .int ((g 84) (f 4755).toNatClampNeg)], Wd f fl g gl hh v tx)) rfl ?_
        refine WP.br hP_170 (q := ((g 84) (f 4755).toNatClampNeg) ≤ 1000) (t := 111) (f := 95) (L := [some (.ref 74), none, some (.int ((g 83) (f 4755).toNatClampNeg))]) (st := []) (w := Wd f fl g gl hh v tx) rfl (fun c11 => ?_) (fun c11 => ?_)
        · have h12 := h10.1 c11
          exact h12
        · have h13 := h10.2 c11
          exact h13
    · have h14 := h4.2 (Classical.not_not.mp c5)
      refine WP.run hP_170 2 (c' := (30, [some (.ref 74), some (.int p0), some (.int ((g 83) (f 4755).toNatClampNeg))], [.int 8, .int p0], Wd f fl g gl hh v tx)) rfl ?_
      refine WP.br hP_170 (q := ¬ p0 = 8) (t := 37) (f := 33) (L := [some (.ref 74), some (.int p0), some (.int ((g 83) (f 4755).toNatClampNeg))]) (st := []) (w := Wd f fl g gl hh v tx) rfl (fun c15 => ?_) (fun c15 => ?_)
      · have h16 := h14.1 c15
        refine WP.clr hP_170 (pc := 37) rfl ?_
        exact h16
      · have h17 := h14.2 (Classical.not_not.mp c15)
        refine WP.run hP_170 1 (c' := (34, [some (.ref 74), some (.int p0), some (.int ((g 83) (f 4755).toNatClampNeg))], [.ref 74], Wd f fl g gl hh v tx)) rfl ?_
        refine WP.call hP_170 hP_156 (as := [.ref 74]) (pc' := 37) (L' := [some (.ref 74), some (.int p0), some (.int ((g 83) (f 4755).toNatClampNeg))]) (st' := []) (w1 := Wd f fl g gl hh v tx) rfl ⟨Nat.le_of_ble_eq_true rfl, Nat.le_of_ble_eq_true rfl⟩ rfl (b_m_faults_0 X (d) f fl g gl hh v tx  _ ?_)
        refine ⟨fun c18 => ?_, fun c18 => ?_⟩
        · have h19 := h17.1 c18
          refine WP.clr hP_170 (pc := 37) rfl ?_
          exact h19
        · have h20 := h17.2 c18
          refine ⟨h20.1, ?_⟩
          have h21 := h20.2
          refine WP.clr hP_170 (pc := 37) rfl ?_
          exact h21

set_option maxRecDepth 20000 in
theorem b_m_readPart_95 (X : mm_X) (d : Nat) (f : Nat → Int32) (fl : Nat → Int64) (g : Nat → Nat → Int32) (gl : Nat → Nat → Int64) (hh : Nat → Nat → Option Nat) (v : Nat → Value) (tx : mm_W) (l2 : Int32)  (P : Option Value → mm_W → Prop)
    (h : ((l2 < (f 4744)) → (((¬ (f 4757) = (-1)) → P none (Wd f fl g gl hh v tx)) ∧
      (((f 4757) = (-1)) → ((¬ ((f 4755) < 0 ∨ 401 ≤ (f 4755).toNatClampNeg)) ∧ P none (Wd (va_up f 4757 ((g 85) (f 4755).toNatClampNeg)) fl g gl hh v tx))))) ∧
    ((¬ (l2 < (f 4744))) → ((((f 4745) < l2) → (((¬ (f 4757) = (-1)) → P none (Wd f fl g gl hh v tx)) ∧
        (((f 4757) = (-1)) → ((¬ ((f 4755) < 0 ∨ 401 ≤ (f 4755).toNatClampNeg)) ∧ P none (Wd (va_up f 4757 ((g 85) (f 4755).toNatClampNeg)) fl g gl hh v tx))))) ∧
      ((¬ ((f 4745) < l2)) → WP X (d + 2) 170 (111, [some (.ref 74), none, some (.int l2)], [], Wd f fl g gl hh v tx) P)))) :
    WP X (d + 2) 170 (95, [some (.ref 74), none, some (.int l2)], [], Wd f fl g gl hh v tx) P := by
  refine WP.run hP_170 3 (c' := (100, [some (.ref 74), none, some (.int l2)], [.int (f 4744), .int l2], Wd f fl g gl hh v tx)) rfl ?_
  refine WP.br hP_170 (q := l2 < (f 4744)) (t := 143) (f := 103) (L := [some (.ref 74), none, some (.int l2)]) (st := []) (w := Wd f fl g gl hh v tx) rfl (fun c1 => ?_) (fun c1 => ?_)
  · have h2 := h.1 c1
    refine WP.run hP_170 1 (c' := (144, [some (.ref 74), none, none], [.ref 74], Wd f fl g gl hh v tx)) rfl ?_
    refine WP.call hP_170 hP_156 (as := [.ref 74]) (pc' := 147) (L' := [some (.ref 74), none, none]) (st' := []) (w1 := Wd f fl g gl hh v tx) rfl ⟨Nat.le_of_ble_eq_true rfl, Nat.le_of_ble_eq_true rfl⟩ rfl (b_m_faults_0 X (d) f fl g gl hh v tx  _ ?_)
    refine ⟨fun c3 => ?_, fun c3 => ?_⟩
    · have h4 := h2.1 c3
      exact WP.ret hP_170 (r := none) (w' := Wd f fl g gl hh v tx) rfl h4
    · have h5 := h2.2 c3
      refine ⟨h5.1, ?_⟩
      have h6 := h5.2
      exact WP.ret hP_170 (r := none) (w' := Wd (va_up f 4757 ((g 85) (f 4755).toNatClampNeg)) fl g gl hh v tx) rfl h6
  · have h7 := h.2 c1
    refine WP.run hP_170 3 (c' := (108, [some (.ref 74), none, some (.int l2)], [.int (f 4745), .int l2], Wd f fl g gl hh v tx)) rfl ?_
    refine WP.br hP_170 (q := (f 4745) < l2) (t := 143) (f := 111) (L := [some (.ref 74), none, some (.int l2)]) (st := []) (w := Wd f fl g gl hh v tx) rfl (fun c8 => ?_) (fun c8 => ?_)
    · have h9 := h7.1 c8
      refine WP.run hP_170 1 (c' := (144, [some (.ref 74), none, none], [.ref 74], Wd f fl g gl hh v tx)) rfl ?_
      refine WP.call hP_170 hP_156 (as := [.ref 74]) (pc' := 147) (L' := [some (.ref 74), none, none]) (st' := []) (w1 := Wd f fl g gl hh v tx) rfl ⟨Nat.le_of_ble_eq_true rfl, Nat.le_of_ble_eq_true rfl⟩ rfl (b_m_faults_0 X (d) f fl g gl hh v tx  _ ?_)
      refine ⟨fun c10 => ?_, fun c10 => ?_⟩
      · have h11 := h9.1 c10
        exact WP.ret hP_170 (r := none) (w' := Wd f fl g gl hh v tx) rfl h11
      · have h12 := h9.2 c10
        refine ⟨h12.1, ?_⟩
        have h13 := h12.2
        exact WP.ret hP_170 (r := none) (w' := Wd (va_up f 4757 ((g 85) (f 4755).toNatClampNeg)) fl g gl hh v tx) rfl h13
    · have h14 := h7.2 c8
      exact h14

set_option maxRecDepth 20000 in
theorem b_m_readPart_111 (X : mm_X) (d : Nat) (f : Nat → Int32) (fl : Nat → Int64) (g : Nat → Nat → Int32) (gl : Nat → Nat → Int64) (hh : Nat → Nat → Option Nat) (v : Nat → Value) (tx : mm_W) (l2 : Int32)  (P : Option Value → mm_W → Prop)
    (h : WP X (d) 159 (0, [some (.ref 74)], [], Wd f fl g gl hh v tx) (fun rv w2 => WP X (d + 1) 170 (115, [some (.ref 74), none, some (.int l2)], rv.toList ++ [], w2) P)) :
    WP X (d + 1) 170 (111, [some (.ref 74), none, some (.int l2)], [], Wd f fl g gl hh v tx) P := by
  refine WP.run hP_170 1 (c' := (112, [some (.ref 74), none, some (.int l2)], [.ref 74], Wd f fl g gl hh v tx)) rfl ?_
  refine WP.call hP_170 hP_159 (as := [.ref 74]) (pc' := 115) (L' := [some (.ref 74), none, some (.int l2)]) (st' := []) (w1 := Wd f fl g gl hh v tx) rfl ⟨Nat.le_of_ble_eq_true rfl, Nat.le_of_ble_eq_true rfl⟩ rfl ?_
  exact h

set_option maxRecDepth 20000 in
theorem b_m_readPart_37 (X : mm_X) (d : Nat) (f : Nat → Int32) (fl : Nat → Int64) (g : Nat → Nat → Int32) (gl : Nat → Nat → Int64) (hh : Nat → Nat → Option Nat) (v : Nat → Value) (tx : mm_W) (l1 : Int32)  (P : Option Value → mm_W → Prop)
    (h : ((¬ (f 4757) = (-1)) → P none (Wd f fl g gl hh v tx)) ∧
    (((f 4757) = (-1)) → WP X (d) 168 (0, [some (.ref 74), some (.int (l1 + (1 : Int32)))], [], Wd (va_up f 4755 ((f 4755) + (1 : Int32))) fl g gl hh v tx) (fun rv w2 => WP X (d + 1) 170 (62, [some (.ref 74), some (.int l1), none], rv.toList ++ [], w2) P))) :
    WP X (d + 1) 170 (37, [some (.ref 74), some (.int l1), none], [], Wd f fl g gl hh v tx) P := by
  refine WP.run hP_170 1 (c' := (38, [some (.ref 74), some (.int l1), none], [.ref 74], Wd f fl g gl hh v tx)) rfl ?_
  refine WP.call hP_170 hP_155 (as := [.ref 74]) (pc' := 41) (L' := [some (.ref 74), some (.int l1), none]) (st' := []) (w1 := Wd f fl g gl hh v tx) rfl ⟨Nat.le_of_ble_eq_true rfl, Nat.le_of_ble_eq_true rfl⟩ rfl (b_m_fine_0 X (d) f fl g gl hh v tx  _ ?_)
  refine ⟨fun c1 => ?_, fun c1 => ?_⟩
  · have h2 := h.1 c1
    refine WP.run hP_170 1 (c' := (44, [some (.ref 74), some (.int l1), none], [], Wd f fl g gl hh v tx)) rfl ?_
    exact WP.ret hP_170 (r := none) (w' := Wd f fl g gl hh v tx) rfl h2
  · have h3 := h.2 c1
    refine WP.run hP_170 11 (c' := (59, [some (.ref 74), some (.int l1), none], [.int (l1 + (1 : Int32)), .ref 74], Wd (va_up f 4755 ((f 4755) + (1 : Int32))) fl g gl hh v tx)) rfl ?_
    refine WP.call hP_170 hP_168 (as := [.ref 74, .int (l1 + (1 : Int32))]) (pc' := 62) (L' := [some (.ref 74), some (.int l1), none]) (st' := []) (w1 := Wd (va_up f 4755 ((f 4755) + (1 : Int32))) fl g gl hh v tx) rfl ⟨Nat.le_of_ble_eq_true rfl, Nat.le_of_ble_eq_true rfl⟩ rfl ?_
    exact h3

set_option maxRecDepth 20000 in
theorem b_m_readPart_115 (X : mm_X) (d : Nat) (f : Nat → Int32) (fl : Nat → Int64) (g : Nat → Nat → Int32) (gl : Nat → Nat → Int64) (hh : Nat → Nat → Option Nat) (v : Nat → Value) (tx : mm_W) (l2 : Int32)  (P : Option Value → mm_W → Prop)
    (h : (((f 4746) = 0) → P none (Wd f fl g gl hh v tx)) ∧
    ((¬ (f 4746) = 0) → (((l2 = 13) → WP X (d) 161 (0, [some (.ref 74), some (.int 0), some (.int 2)], [], Wd f fl g gl hh v tx) (fun rv w2 => WP X (d + 1) 170 (140, [some (.ref 74), none, none], rv.toList ++ [], w2) P)) ∧
      ((¬ l2 = 13) → (((¬ l2 = 14) → P none (Wd f fl g gl hh v tx)) ∧
        ((l2 = 14) → WP X (d) 161 (0, [some (.ref 74), some (.int 0), some (.int 2)], [], Wd f fl g gl hh v tx) (fun rv w2 => WP X (d + 1) 170 (140, [some (.ref 74), none, none], rv.toList ++ [], w2) P))))))) :
    WP X (d + 1) 170 (115, [some (.ref 74), none, some (.int l2)], [], Wd f fl g gl hh v tx) P := by
  refine WP.run hP_170 2 (c' := (119, [some (.ref 74), none, some (.int l2)], [.int (f 4746)], Wd f fl g gl hh v tx)) rfl ?_
  refine WP.br hP_170 (q := (f 4746) = 0) (t := 147) (f := 122) (L := [some (.ref 74), none, some (.int l2)]) (st := []) (w := Wd f fl g gl hh v tx) rfl (fun c1 => ?_) (fun c1 => ?_)
  · have h2 := h.1 c1
    exact WP.ret hP_170 (r := none) (w' := Wd f fl g gl hh v tx) rfl h2
  · have h3 := h.2 c1
    refine WP.run hP_170 2 (c' := (125, [some (.ref 74), none, some (.int l2)], [.int 13, .int l2], Wd f fl g gl hh v tx)) rfl ?_
    refine WP.br hP_170 (q := l2 = 13) (t := 134) (f := 128) (L := [some (.ref 74), none, some (.int l2)]) (st := []) (w := Wd f fl g gl hh v tx) rfl (fun c4 => ?_) (fun c4 => ?_)
    · have h5 := h3.1 c4
      refine WP.run hP_170 3 (c' := (137, [some (.ref 74), none, none], [.int 2, .int 0, .ref 74], Wd f fl g gl hh v tx)) rfl ?_
      refine WP.call hP_170 hP_161 (as := [.ref 74, .int 0, .int 2]) (pc' := 140) (L' := [some (.ref 74), none, none]) (st' := []) (w1 := Wd f fl g gl hh v tx) rfl ⟨Nat.le_of_ble_eq_true rfl, Nat.le_of_ble_eq_true rfl⟩ rfl ?_
      exact h5
    · have h6 := h3.2 c4
      refine WP.run hP_170 2 (c' := (131, [some (.ref 74), none, some (.int l2)], [.int 14, .int l2], Wd f fl g gl hh v tx)) rfl ?_
      refine WP.br hP_170 (q := ¬ l2 = 14) (t := 147) (f := 134) (L := [some (.ref 74), none, some (.int l2)]) (st := []) (w := Wd f fl g gl hh v tx) rfl (fun c7 => ?_) (fun c7 => ?_)
      · have h8 := h6.1 c7
        exact WP.ret hP_170 (r := none) (w' := Wd f fl g gl hh v tx) rfl h8
      · have h9 := h6.2 (Classical.not_not.mp c7)
        refine WP.run hP_170 3 (c' := (137, [some (.ref 74), none, none], [.int 2, .int 0, .ref 74], Wd f fl g gl hh v tx)) rfl ?_
        refine WP.call hP_170 hP_161 (as := [.ref 74, .int 0, .int 2]) (pc' := 140) (L' := [some (.ref 74), none, none]) (st' := []) (w1 := Wd f fl g gl hh v tx) rfl ⟨Nat.le_of_ble_eq_true rfl, Nat.le_of_ble_eq_true rfl⟩ rfl ?_
        exact h9

set_option maxRecDepth 20000 in
theorem b_m_readPart_62 (X : mm_X) (d : Nat) (f : Nat → Int32) (fl : Nat → Int64) (g : Nat → Nat → Int32) (gl : Nat → Nat → Int64) (hh : Nat → Nat → Option Nat) (v : Nat → Value) (tx : mm_W) (l1 : Int32)  (P : Option Value → mm_W → Prop)
    (h : WP X (d) 158 (0, [some (.ref 74), some (.int 193)], [], Wd f fl g gl hh v tx) (fun rv w2 => WP X (d + 1) 170 (71, [some (.ref 74), some (.int l1), none], rv.toList ++ [], w2) P)) :
    WP X (d + 1) 170 (62, [some (.ref 74), some (.int l1), none], [], Wd f fl g gl hh v tx) P := by
  refine WP.run hP_170 2 (c' := (65, [some (.ref 74), some (.int l1), none], [.int 93, .ref 74], Wd f fl g gl hh v tx)) rfl ?_
  refine WP.call hP_170 hP_160 (as := [.int 93]) (pc' := 68) (L' := [some (.ref 74), some (.int l1), none]) (st' := [.ref 74]) (w1 := Wd f fl g gl hh v tx) rfl ⟨Nat.le_of_ble_eq_true rfl, Nat.le_of_ble_eq_true rfl⟩ rfl (b_m_glyph_0 X (d) f fl g gl hh v tx 93 _ ?_)
  refine WP.call hP_170 hP_158 (as := [.ref 74, .int 193]) (pc' := 71) (L' := [some (.ref 74), some (.int l1), none]) (st' := []) (w1 := Wd f fl g gl hh v tx) rfl ⟨Nat.le_of_ble_eq_true rfl, Nat.le_of_ble_eq_true rfl⟩ rfl ?_
  exact h

set_option maxRecDepth 20000 in
theorem b_m_readPart_140 (X : mm_X) (d : Nat) (f : Nat → Int32) (fl : Nat → Int64) (g : Nat → Nat → Int32) (gl : Nat → Nat → Int64) (hh : Nat → Nat → Option Nat) (v : Nat → Value) (tx : mm_W)   (P : Option Value → mm_W → Prop)
    (h : P none (Wd f fl g gl hh v tx)) :
    WP X (d) 170 (140, [some (.ref 74), none, none], [], Wd f fl g gl hh v tx) P := by
  refine WP.run hP_170 1 (c' := (147, [some (.ref 74), none, none], [], Wd f fl g gl hh v tx)) rfl ?_
  exact WP.ret hP_170 (r := none) (w' := Wd f fl g gl hh v tx) rfl h

set_option maxRecDepth 20000 in
theorem b_m_readPart_71 (X : mm_X) (d : Nat) (f : Nat → Int32) (fl : Nat → Int64) (g : Nat → Nat → Int32) (gl : Nat → Nat → Int64) (hh : Nat → Nat → Option Nat) (v : Nat → Value) (tx : mm_W) (l1 : Int32)  (P : Option Value → mm_W → Prop)
    (h : P none (Wd f fl g gl hh v tx)) :
    WP X (d) 170 (71, [some (.ref 74), some (.int l1), none], [], Wd f fl g gl hh v tx) P := by
  refine WP.run hP_170 1 (c' := (147, [some (.ref 74), some (.int l1), none], [], Wd f fl g gl hh v tx)) rfl ?_
  exact WP.ret hP_170 (r := none) (w' := Wd f fl g gl hh v tx) rfl h

set_option maxRecDepth 20000 in
theorem b_m_readTerm_0 (X : mm_X) (d : Nat) (f : Nat → Int32) (fl : Nat → Int64) (g : Nat → Nat → Int32) (gl : Nat → Nat → Int64) (hh : Nat → Nat → Option Nat) (v : Nat → Value) (tx : mm_W) (p0 : Int32)  (P : Option Value → mm_W → Prop)
    (h : WP X (d) 170 (0, [some (.ref 74), some (.int p0), none], [], Wd f fl g gl hh v tx) (fun rv w2 => WP X (d + 1) 169 (5, [some (.ref 74), some (.int p0)], rv.toList ++ [], w2) P)) :
    WP X (d + 1) 169 (0, [some (.ref 74), some (.int p0)], [], Wd f fl g gl hh v tx) P := by
  refine WP.run hP_169 2 (c' := (2, [some (.ref 74), some (.int p0)], [.int p0, .ref 74], Wd f fl g gl hh v tx)) rfl ?_
  refine WP.call hP_169 hP_170 (as := [.ref 74, .int p0]) (pc' := 5) (L' := [some (.ref 74), some (.int p0)]) (st' := []) (w1 := Wd f fl g gl hh v tx) rfl ⟨Nat.le_of_ble_eq_true rfl, Nat.le_of_ble_eq_true rfl⟩ rfl ?_
  exact h

set_option maxRecDepth 20000 in
theorem b_m_readTerm_5 (X : mm_X) (d : Nat) (f : Nat → Int32) (fl : Nat → Int64) (g : Nat → Nat → Int32) (gl : Nat → Nat → Int64) (hh : Nat → Nat → Option Nat) (v : Nat → Value) (tx : mm_W) (l1 : Int32)  (P : Option Value → mm_W → Prop)
    (h : WP X (d) 157 (0, [some (.ref 74), some (.int 142), none], [], Wd f fl g gl hh v tx) (fun rv w2 => WP X (d + 1) 169 (14, [some (.ref 74), some (.int l1)], rv.toList ++ [], w2) P)) :
    WP X (d + 1) 169 (5, [some (.ref 74), some (.int l1)], [], Wd f fl g gl hh v tx) P := by
  refine WP.run hP_169 2 (c' := (8, [some (.ref 74), some (.int l1)], [.int 42, .ref 74], Wd f fl g gl hh v tx)) rfl ?_
  refine WP.call hP_169 hP_160 (as := [.int 42]) (pc' := 11) (L' := [some (.ref 74), some (.int l1)]) (st' := [.ref 74]) (w1 := Wd f fl g gl hh v tx) rfl ⟨Nat.le_of_ble_eq_true rfl, Nat.le_of_ble_eq_true rfl⟩ rfl (b_m_glyph_0 X (d) f fl g gl hh v tx 42 _ ?_)
  refine WP.call hP_169 hP_157 (as := [.ref 74, .int 142]) (pc' := 14) (L' := [some (.ref 74), some (.int l1)]) (st' := []) (w1 := Wd f fl g gl hh v tx) rfl ⟨Nat.le_of_ble_eq_true rfl, Nat.le_of_ble_eq_true rfl⟩ rfl ?_
  exact h

set_option maxRecDepth 20000 in
theorem b_m_readTerm_14 (X : mm_X) (d : Nat) (f : Nat → Int32) (fl : Nat → Int64) (g : Nat → Nat → Int32) (gl : Nat → Nat → Int64) (hh : Nat → Nat → Option Nat) (v : Nat → Value) (tx : mm_W) (l1 : Int32) (s0 : Int32)  (P : Option Value → mm_W → Prop)
    (h : ((¬ s0 = 0) → WP X (d) 170 (0, [some (.ref 74), some (.int l1), none], [], Wd f fl g gl hh v tx) (fun rv w2 => WP X (d + 1) 169 (46, [some (.ref 74), some (.int l1)], rv.toList ++ [], w2) P)) ∧
    ((s0 = 0) → WP X (d) 157 (0, [some (.ref 74), some (.int 147), none], [], Wd f fl g gl hh v tx) (fun rv w2 => WP X (d + 1) 169 (26, [some (.ref 74), some (.int l1)], rv.toList ++ [], w2) P))) :
    WP X (d + 1) 169 (14, [some (.ref 74), some (.int l1)], [.int s0], Wd f fl g gl hh v tx) P := by
  refine WP.br hP_169 (q := ¬ s0 = 0) (t := 41) (f := 17) (L := [some (.ref 74), some (.int l1)]) (st := []) (w := Wd f fl g gl hh v tx) rfl (fun c1 => ?_) (fun c1 => ?_)
  · have h2 := h.1 c1
    refine WP.run hP_169 2 (c' := (43, [some (.ref 74), some (.int l1)], [.int l1, .ref 74], Wd f fl g gl hh v tx)) rfl ?_
    refine WP.call hP_169 hP_170 (as := [.ref 74, .int l1]) (pc' := 46) (L' := [some (.ref 74), some (.int l1)]) (st' := []) (w1 := Wd f fl g gl hh v tx) rfl ⟨Nat.le_of_ble_eq_true rfl, Nat.le_of_ble_eq_true rfl⟩ rfl ?_
    exact h2
  · have h3 := h.2 (Classical.not_not.mp c1)
    refine WP.run hP_169 2 (c' := (20, [some (.ref 74), some (.int l1)], [.int 47, .ref 74], Wd f fl g gl hh v tx)) rfl ?_
    refine WP.call hP_169 hP_160 (as := [.int 47]) (pc' := 23) (L' := [some (.ref 74), some (.int l1)]) (st' := [.ref 74]) (w1 := Wd f fl g gl hh v tx) rfl ⟨Nat.le_of_ble_eq_true rfl, Nat.le_of_ble_eq_true rfl⟩ rfl (b_m_glyph_0 X (d) f fl g gl hh v tx 47 _ ?_)
    refine WP.call hP_169 hP_157 (as := [.ref 74, .int 147]) (pc' := 26) (L' := [some (.ref 74), some (.int l1)]) (st' := []) (w1 := Wd f fl g gl hh v tx) rfl ⟨Nat.le_of_ble_eq_true rfl, Nat.le_of_ble_eq_true rfl⟩ rfl ?_
    exact h3

set_option maxRecDepth 20000 in
theorem b_m_readTerm_46 (X : mm_X) (d : Nat) (f : Nat → Int32) (fl : Nat → Int64) (g : Nat → Nat → Int32) (gl : Nat → Nat → Int64) (hh : Nat → Nat → Option Nat) (v : Nat → Value) (tx : mm_W) (l1 : Int32)  (P : Option Value → mm_W → Prop)
    (h : WP X (d) 169 (5, [some (.ref 74), some (.int l1)], [], Wd f fl g gl hh v tx) P) :
    WP X (d) 169 (46, [some (.ref 74), some (.int l1)], [], Wd f fl g gl hh v tx) P := by
  refine WP.run hP_169 1 (c' := (5, [some (.ref 74), some (.int l1)], [], Wd f fl g gl hh v tx)) rfl ?_
  exact h

set_option maxRecDepth 20000 in
theorem b_m_readTerm_26 (X : mm_X) (d : Nat) (f : Nat → Int32) (fl : Nat → Int64) (g : Nat → Nat → Int32) (gl : Nat → Nat → Int64) (hh : Nat → Nat → Option Nat) (v : Nat → Value) (tx : mm_W) (l1 : Int32) (s0 : Int32)  (P : Option Value → mm_W → Prop)
    (h : ((¬ s0 = 0) → WP X (d) 170 (0, [some (.ref 74), some (.int l1), none], [], Wd f fl g gl hh v tx) (fun rv w2 => WP X (d + 1) 169 (46, [some (.ref 74), some (.int l1)], rv.toList ++ [], w2) P)) ∧
    ((s0 = 0) → WP X (d) 157 (0, [some (.ref 74), some (.int 137), none], [], Wd f fl g gl hh v tx) (fun rv w2 => WP X (d + 1) 169 (38, [some (.ref 74), some (.int l1)], rv.toList ++ [], w2) P))) :
    WP X (d + 1) 169 (26, [some (.ref 74), some (.int l1)], [.int s0], Wd f fl g gl hh v tx) P := by
  refine WP.br hP_169 (q := ¬ s0 = 0) (t := 41) (f := 29) (L := [some (.ref 74), some (.int l1)]) (st := []) (w := Wd f fl g gl hh v tx) rfl (fun c1 => ?_) (fun c1 => ?_)
  · have h2 := h.1 c1
    refine WP.run hP_169 2 (c' := (43, [some (.ref 74), some (.int l1)], [.int l1, .ref 74], Wd f fl g gl hh v tx)) rfl ?_
    refine WP.call hP_169 hP_170 (as := [.ref 74, .int l1]) (pc' := 46) (L' := [some (.ref 74), some (.int l1)]) (st' := []) (w1 := Wd f fl g gl hh v tx) rfl ⟨Nat.le_of_ble_eq_true rfl, Nat.le_of_ble_eq_true rfl⟩ rfl ?_
    exact h2
  · have h3 := h.2 (Classical.not_not.mp c1)
    refine WP.run hP_169 2 (c' := (32, [some (.ref 74), some (.int l1)], [.int 37, .ref 74], Wd f fl g gl hh v tx)) rfl ?_
    refine WP.call hP_169 hP_160 (as := [.int 37]) (pc' := 35) (L' := [some (.ref 74), some (.int l1)]) (st' := [.ref 74]) (w1 := Wd f fl g gl hh v tx) rfl ⟨Nat.le_of_ble_eq_true rfl, Nat.le_of_ble_eq_true rfl⟩ rfl (b_m_glyph_0 X (d) f fl g gl hh v tx 37 _ ?_)
    refine WP.call hP_169 hP_157 (as := [.ref 74, .int 137]) (pc' := 38) (L' := [some (.ref 74), some (.int l1)]) (st' := []) (w1 := Wd f fl g gl hh v tx) rfl ⟨Nat.le_of_ble_eq_true rfl, Nat.le_of_ble_eq_true rfl⟩ rfl ?_
    exact h3

set_option maxRecDepth 20000 in
theorem b_m_readTerm_38 (X : mm_X) (d : Nat) (f : Nat → Int32) (fl : Nat → Int64) (g : Nat → Nat → Int32) (gl : Nat → Nat → Int64) (hh : Nat → Nat → Option Nat) (v : Nat → Value) (tx : mm_W) (l1 : Int32) (s0 : Int32)  (P : Option Value → mm_W → Prop)
    (h : ((s0 = 0) → P none (Wd f fl g gl hh v tx)) ∧
    ((¬ s0 = 0) → WP X (d) 170 (0, [some (.ref 74), some (.int l1), none], [], Wd f fl g gl hh v tx) (fun rv w2 => WP X (d + 1) 169 (46, [some (.ref 74), some (.int l1)], rv.toList ++ [], w2) P))) :
    WP X (d + 1) 169 (38, [some (.ref 74), some (.int l1)], [.int s0], Wd f fl g gl hh v tx) P := by
  refine WP.br hP_169 (q := s0 = 0) (t := 49) (f := 41) (L := [some (.ref 74), some (.int l1)]) (st := []) (w := Wd f fl g gl hh v tx) rfl (fun c1 => ?_) (fun c1 => ?_)
  · have h2 := h.1 c1
    exact WP.ret hP_169 (r := none) (w' := Wd f fl g gl hh v tx) rfl h2
  · have h3 := h.2 c1
    refine WP.run hP_169 2 (c' := (43, [some (.ref 74), some (.int l1)], [.int l1, .ref 74], Wd f fl g gl hh v tx)) rfl ?_
    refine WP.call hP_169 hP_170 (as := [.ref 74, .int l1]) (pc' := 46) (L' := [some (.ref 74), some (.int l1)]) (st' := []) (w1 := Wd f fl g gl hh v tx) rfl ⟨Nat.le_of_ble_eq_true rfl, Nat.le_of_ble_eq_true rfl⟩ rfl ?_
    exact h3

set_option maxRecDepth 20000 in
theorem b_m_readSum_0 (X : mm_X) (d : Nat) (f : Nat → Int32) (fl : Nat → Int64) (g : Nat → Nat → Int32) (gl : Nat → Nat → Int64) (hh : Nat → Nat → Option Nat) (v : Nat → Value) (tx : mm_W) (p0 : Int32)  (P : Option Value → mm_W → Prop)
    (h : WP X (d) 169 (0, [some (.ref 74), some (.int p0)], [], Wd f fl g gl hh v tx) (fun rv w2 => WP X (d + 1) 168 (5, [some (.ref 74), some (.int p0)], rv.toList ++ [], w2) P)) :
    WP X (d + 1) 168 (0, [some (.ref 74), some (.int p0)], [], Wd f fl g gl hh v tx) P := by
  refine WP.run hP_168 2 (c' := (2, [some (.ref 74), some (.int p0)], [.int p0, .ref 74], Wd f fl g gl hh v tx)) rfl ?_
  refine WP.call hP_168 hP_169 (as := [.ref 74, .int p0]) (pc' := 5) (L' := [some (.ref 74), some (.int p0)]) (st' := []) (w1 := Wd f fl g gl hh v tx) rfl ⟨Nat.le_of_ble_eq_true rfl, Nat.le_of_ble_eq_true rfl⟩ rfl ?_
  exact h

set_option maxRecDepth 20000 in
theorem b_m_readSum_5 (X : mm_X) (d : Nat) (f : Nat → Int32) (fl : Nat → Int64) (g : Nat → Nat → Int32) (gl : Nat → Nat → Int64) (hh : Nat → Nat → Option Nat) (v : Nat → Value) (tx : mm_W) (l1 : Int32)  (P : Option Value → mm_W → Prop)
    (h : WP X (d) 157 (0, [some (.ref 74), some (.int 143), none], [], Wd f fl g gl hh v tx) (fun rv w2 => WP X (d + 1) 168 (14, [some (.ref 74), some (.int l1)], rv.toList ++ [], w2) P)) :
    WP X (d + 1) 168 (5, [some (.ref 74), some (.int l1)], [], Wd f fl g gl hh v tx) P := by
  refine WP.run hP_168 2 (c' := (8, [some (.ref 74), some (.int l1)], [.int 43, .ref 74], Wd f fl g gl hh v tx)) rfl ?_
  refine WP.call hP_168 hP_160 (as := [.int 43]) (pc' := 11) (L' := [some (.ref 74), some (.int l1)]) (st' := [.ref 74]) (w1 := Wd f fl g gl hh v tx) rfl ⟨Nat.le_of_ble_eq_true rfl, Nat.le_of_ble_eq_true rfl⟩ rfl (b_m_glyph_0 X (d) f fl g gl hh v tx 43 _ ?_)
  refine WP.call hP_168 hP_157 (as := [.ref 74, .int 143]) (pc' := 14) (L' := [some (.ref 74), some (.int l1)]) (st' := []) (w1 := Wd f fl g gl hh v tx) rfl ⟨Nat.le_of_ble_eq_true rfl, Nat.le_of_ble_eq_true rfl⟩ rfl ?_
  exact h

set_option maxRecDepth 20000 in
theorem b_m_readSum_14 (X : mm_X) (d : Nat) (f : Nat → Int32) (fl : Nat → Int64) (g : Nat → Nat → Int32) (gl : Nat → Nat → Int64) (hh : Nat → Nat → Option Nat) (v : Nat → Value) (tx : mm_W) (l1 : Int32) (s0 : Int32)  (P : Option Value → mm_W → Prop)
    (h : ((¬ s0 = 0) → WP X (d) 169 (0, [some (.ref 74), some (.int l1)], [], Wd f fl g gl hh v tx) (fun rv w2 => WP X (d + 1) 168 (34, [some (.ref 74), some (.int l1)], rv.toList ++ [], w2) P)) ∧
    ((s0 = 0) → WP X (d) 157 (0, [some (.ref 74), some (.int 145), none], [], Wd f fl g gl hh v tx) (fun rv w2 => WP X (d + 1) 168 (26, [some (.ref 74), some (.int l1)], rv.toList ++ [], w2) P))) :
    WP X (d + 1) 168 (14, [some (.ref 74), some (.int l1)], [.int s0], Wd f fl g gl hh v tx) P := by
  refine WP.br hP_168 (q := ¬ s0 = 0) (t := 29) (f := 17) (L := [some (.ref 74), some (.int l1)]) (st := []) (w := Wd f fl g gl hh v tx) rfl (fun c1 => ?_) (fun c1 => ?_)
  · have h2 := h.1 c1
    refine WP.run hP_168 2 (c' := (31, [some (.ref 74), some (.int l1)], [.int l1, .ref 74], Wd f fl g gl hh v tx)) rfl ?_
    refine WP.call hP_168 hP_169 (as := [.ref 74, .int l1]) (pc' := 34) (L' := [some (.ref 74), some (.int l1)]) (st' := []) (w1 := Wd f fl g gl hh v tx) rfl ⟨Nat.le_of_ble_eq_true rfl, Nat.le_of_ble_eq_true rfl⟩ rfl ?_
    exact h2
  · have h3 := h.2 (Classical.not_not.mp c1)
    refine WP.run hP_168 2 (c' := (20, [some (.ref 74), some (.int l1)], [.int 45, .ref 74], Wd f fl g gl hh v tx)) rfl ?_
    refine WP.call hP_168 hP_160 (as := [.int 45]) (pc' := 23) (L' := [some (.ref 74), some (.int l1)]) (st' := [.ref 74]) (w1 := Wd f fl g gl hh v tx) rfl ⟨Nat.le_of_ble_eq_true rfl, Nat.le_of_ble_eq_true rfl⟩ rfl (b_m_glyph_0 X (d) f fl g gl hh v tx 45 _ ?_)
    refine WP.call hP_168 hP_157 (as := [.ref 74, .int 145]) (pc' := 26) (L' := [some (.ref 74), some (.int l1)]) (st' := []) (w1 := Wd f fl g gl hh v tx) rfl ⟨Nat.le_of_ble_eq_true rfl, Nat.le_of_ble_eq_true rfl⟩ rfl ?_
    exact h3

set_option maxRecDepth 20000 in
theorem b_m_readSum_34 (X : mm_X) (d : Nat) (f : Nat → Int32) (fl : Nat → Int64) (g : Nat → Nat → Int32) (gl : Nat → Nat → Int64) (hh : Nat → Nat → Option Nat) (v : Nat → Value) (tx : mm_W) (l1 : Int32)  (P : Option Value → mm_W → Prop)
    (h : WP X (d) 168 (5, [some (.ref 74), some (.int l1)], [], Wd f fl g gl hh v tx) P) :
    WP X (d) 168 (34, [some (.ref 74), some (.int l1)], [], Wd f fl g gl hh v tx) P := by
  refine WP.run hP_168 1 (c' := (5, [some (.ref 74), some (.int l1)], [], Wd f fl g gl hh v tx)) rfl ?_
  exact h

set_option maxRecDepth 20000 in
theorem b_m_readSum_26 (X : mm_X) (d : Nat) (f : Nat → Int32) (fl : Nat → Int64) (g : Nat → Nat → Int32) (gl : Nat → Nat → Int64) (hh : Nat → Nat → Option Nat) (v : Nat → Value) (tx : mm_W) (l1 : Int32) (s0 : Int32)  (P : Option Value → mm_W → Prop)
    (h : ((s0 = 0) → P none (Wd f fl g gl hh v tx)) ∧
    ((¬ s0 = 0) → WP X (d) 169 (0, [some (.ref 74), some (.int l1)], [], Wd f fl g gl hh v tx) (fun rv w2 => WP X (d + 1) 168 (34, [some (.ref 74), some (.int l1)], rv.toList ++ [], w2) P))) :
    WP X (d + 1) 168 (26, [some (.ref 74), some (.int l1)], [.int s0], Wd f fl g gl hh v tx) P := by
  refine WP.br hP_168 (q := s0 = 0) (t := 37) (f := 29) (L := [some (.ref 74), some (.int l1)]) (st := []) (w := Wd f fl g gl hh v tx) rfl (fun c1 => ?_) (fun c1 => ?_)
  · have h2 := h.1 c1
    exact WP.ret hP_168 (r := none) (w' := Wd f fl g gl hh v tx) rfl h2
  · have h3 := h.2 c1
    refine WP.run hP_168 2 (c' := (31, [some (.ref 74), some (.int l1)], [.int l1, .ref 74], Wd f fl g gl hh v tx)) rfl ?_
    refine WP.call hP_168 hP_169 (as := [.ref 74, .int l1]) (pc' := 34) (L' := [some (.ref 74), some (.int l1)]) (st' := []) (w1 := Wd f fl g gl hh v tx) rfl ⟨Nat.le_of_ble_eq_true rfl, Nat.le_of_ble_eq_true rfl⟩ rfl ?_
    exact h3

set_option maxRecDepth 20000 in
theorem b_m_readPlain_0 (X : mm_X) (d : Nat) (f : Nat → Int32) (fl : Nat → Int64) (g : Nat → Nat → Int32) (gl : Nat → Nat → Int64) (hh : Nat → Nat → Option Nat) (v : Nat → Value) (tx : mm_W) (p0 : Int32)  (P : Option Value → mm_W → Prop)
    (h : WP X (d) 167 (2, [some (.ref 74), some (.int p0), some (.int 1), none], [], Wd f fl g gl hh v tx) P) :
    WP X (d) 167 (0, [some (.ref 74), some (.int p0), none, none], [], Wd f fl g gl hh v tx) P := by
  refine WP.run hP_167 2 (c' := (2, [some (.ref 74), some (.int p0), some (.int 1), none], [], Wd f fl g gl hh v tx)) rfl ?_
  exact h

set_option maxRecDepth 20000 in
theorem b_m_readPlain_2 (X : mm_X) (d : Nat) (f : Nat → Int32) (fl : Nat → Int64) (g : Nat → Nat → Int32) (gl : Nat → Nat → Int64) (hh : Nat → Nat → Option Nat) (v : Nat → Value) (tx : mm_W) (l1 : Int32) (l2 : Int32)  (P : Option Value → mm_W → Prop)
    (h : ((l2 = 0) → (((¬ (f 4757) = (-1)) → P none (Wd f fl g gl hh v tx)) ∧
      (((f 4757) = (-1)) → ((¬ ((f 4755) < 0 ∨ 401 ≤ (f 4755).toNatClampNeg)) ∧ (((¬ ((g 83) (f 4755).toNatClampNeg) = 140) → WP X (d + 1) 168 (0, [some (.ref 74), some (.int l1)], [], Wd f fl g gl hh v tx) (fun rv w2 => WP X (d + 2) 167 (95, [some (.ref 74), some (.int l1), none, none], rv.toList ++ [], w2) P)) ∧
        ((((g 83) (f 4755).toNatClampNeg) = 140) → (((¬ l1 = 8) → WP X (d + 2) 167 (53, [some (.ref 74), some (.int l1), none, none], [], Wd f fl g gl hh v tx) P) ∧
          ((l1 = 8) → (((¬ (f 4757) = (-1)) → WP X (d + 2) 167 (53, [some (.ref 74), some (.int l1), none, none], [], Wd f fl g gl hh v tx) P) ∧
            (((f 4757) = (-1)) → ((¬ ((f 4755) < 0 ∨ 401 ≤ (f 4755).toNatClampNeg)) ∧ WP X (d + 2) 167 (53, [some (.ref 74), some (.int l1), none, none], [], Wd (va_up f 4757 ((g 85) (f 4755).toNatClampNeg)) fl g gl hh v tx) P))))))))))) ∧
    ((¬ l2 = 0) → WP X (d + 1) 157 (0, [some (.ref 74), some (.int 7), none], [], Wd f fl g gl hh v tx) (fun rv w2 => WP X (d + 2) 167 (12, [some (.ref 74), some (.int l1), some (.int l2), none], rv.toList ++ [], w2) P))) :
    WP X (d + 2) 167 (2, [some (.ref 74), some (.int l1), some (.int l2), none], [], Wd f fl g gl hh v tx) P := by
  refine WP.run hP_167 1 (c' := (3, [some (.ref 74), some (.int l1), some (.int l2), none], [.int l2], Wd f fl g gl hh v tx)) rfl ?_
  refine WP.br hP_167 (q := l2 = 0) (t := 16) (f := 6) (L := [some (.ref 74), some (.int l1), some (.int l2), none]) (st := []) (w := Wd f fl g gl hh v tx) rfl (fun c1 => ?_) (fun c1 => ?_)
  · have h2 := h.1 c1
    refine WP.run hP_167 1 (c' := (17, [some (.ref 74), some (.int l1), none, none], [.ref 74], Wd f fl g gl hh v tx)) rfl ?_
    refine WP.call hP_167 hP_155 (as := [.ref 74]) (pc' := 20) (L' := [some (.ref 74), some (.int l1), none, none]) (st' := []) (w1 := Wd f fl g gl hh v tx) rfl ⟨Nat.le_of_ble_eq_true rfl, Nat.le_of_ble_eq_true rfl⟩ rfl (b_m_fine_0 X (d + 1) f fl g gl hh v tx  _ ?_)
    refine ⟨fun c3 => ?_, fun c3 => ?_⟩
    · have h4 := h2.1 c3
      refine WP.run hP_167 1 (c' := (23, [some (.ref 74), some (.int l1), none, none], [], Wd f fl g gl hh v tx)) rfl ?_
      exact WP.ret hP_167 (r := none) (w' := Wd f fl g gl hh v tx) rfl h4
    · have h5 := h2.2 c3
      refine WP.run hP_167 5 (c' := (32, [some (.ref 74), some (.int l1), none, none], [.int (f 4755), .ref 83], Wd f fl g gl hh v tx)) rfl ?_
      refine WP.of (fun _ _ => Ex.iald hP_167 rfl (Wa_83 _ _ _ _ _ _ _) h5.1) ?_
      have h6 := h5.2
      refine WP.run hP_167 3 (c' := (37, [some (.ref 74), some (.int l1), none, some (.int ((g 83) (f 4755).toNatClampNeg))], [.int 40, .int ((g 83) (f 4755).toNatClampNeg)], Wd f fl g gl hh v tx)) rfl ?_
      refine WP.call hP_167 hP_160 (as := [.int 40]) (pc' := 40) (L' := [some (.ref 74), some (.int l1), none, some (.int ((g 83) (f 4755).toNatClampNeg))]) (st' := [.int ((g 83) (f 4755).toNatClampNeg)]) (w1 := Wd f fl g gl hh v tx) rfl ⟨Nat.le_of_ble_eq_true rfl, Nat.le_of_ble_eq_true rfl⟩ rfl (b_m_glyph_0 X (d + 1) f fl g gl hh v tx 40 _ ?_)
      refine WP.br hP_167 (q := ¬ ((g 83) (f 4755).toNatClampNeg) = 140) (t := 90) (f := 43) (L := [some (.ref 74), some (.int l1), none, some (.int ((g 83) (f 4755).toNatClampNeg))]) (st := []) (w := Wd f fl g gl hh v tx) rfl (fun c7 => ?_) (fun c7 => ?_)
      · have h8 := h6.1 c7
        refine WP.run hP_167 2 (c' := (92, [some (.ref 74), some (.int l1), none, none], [.int l1, .ref 74], Wd f fl g gl hh v tx)) rfl ?_
        refine WP.call hP_167 hP_168 (as := [.ref 74, .int l1]) (pc' := 95) (L' := [some (.ref 74), some (.int l1), none, none]) (st' := []) (w1 := Wd f fl g gl hh v tx) rfl ⟨Nat.le_of_ble_eq_true rfl, Nat.le_of_ble_eq_true rfl⟩ rfl ?_
        exact h8
      · have h9 := h6.2 (Classical.not_not.mp c7)
        refine WP.run hP_167 2 (c' := (46, [some (.ref 74), some (.int l1), none, some (.int ((g 83) (f 4755).toNatClampNeg))], [.int 8, .int l1], Wd f fl g gl hh v tx)) rfl ?_
        refine WP.br hP_167 (q := ¬ l1 = 8) (t := 53) (f := 49) (L := [some (.ref 74), some (.int l1), none, some (.int ((g 83) (f 4755).toNatClampNeg))]) (st := []) (w := Wd f fl g gl hh v tx) rfl (fun c10 => ?_) (fun c10 => ?_)
        · have h11 := h9.1 c10
          refine WP.clr hP_167 (pc := 53) rfl ?_
          exact h11
        · have h12 := h9.2 (Classical.not_not.mp c10)
          refine WP.run hP_167 1 (c' := (50, [some (.ref 74), some (.int l1), none, some (.int ((g 83) (f 4755).toNatClampNeg))], [.ref 74], Wd f fl g gl hh v tx)) rfl ?_
          refine WP.call hP_167 hP_156 (as := [.ref 74]) (pc' := 53) (L' := [some (.ref 74), some (.int l1), none, some (.int ((g 83) (f 4755).toNatClampNeg))]) (st' := []) (w1 := Wd f fl g gl hh v tx) rfl ⟨Nat.le_of_ble_eq_true rfl, Nat.le_of_ble_eq_true rfl⟩ rfl (b_m_faults_0 X (d) f fl g gl hh v tx  _ ?_)
          refine ⟨fun c13 => ?_, fun c13 => ?_⟩
          · have h14 := h12.1 c13
            refine WP.clr hP_167 (pc := 53) rfl ?_
            exact h14
          · have h15 := h12.2 c13
            refine ⟨h15.1, ?_⟩
            have h16 := h15.2
            refine WP.clr hP_167 (pc := 53) rfl ?_
            exact h16
  · have h17 := h.2 c1
    refine WP.run hP_167 2 (c' := (9, [some (.ref 74), some (.int l1), some (.int l2), none], [.int 7, .ref 74], Wd f fl g gl hh v tx)) rfl ?_
    refine WP.call hP_167 hP_157 (as := [.ref 74, .int 7]) (pc' := 12) (L' := [some (.ref 74), some (.int l1), some (.int l2), none]) (st' := []) (w1 := Wd f fl g gl hh v tx) rfl ⟨Nat.le_of_ble_eq_true rfl, Nat.le_of_ble_eq_true rfl⟩ rfl ?_
    exact h17

set_option maxRecDepth 20000 in
theorem b_m_readPlain_95 (X : mm_X) (d : Nat) (f : Nat → Int32) (fl : Nat → Int64) (g : Nat → Nat → Int32) (gl : Nat → Nat → Int64) (hh : Nat → Nat → Option Nat) (v : Nat → Value) (tx : mm_W) (l1 : Int32)  (P : Option Value → mm_W → Prop)
    (h : WP X (d) 157 (0, [some (.ref 74), some (.int 160), none], [], Wd f fl g gl hh v tx) (fun rv w2 => WP X (d + 1) 167 (104, [some (.ref 74), some (.int l1), none, none], rv.toList ++ [], w2) P)) :
    WP X (d + 1) 167 (95, [some (.ref 74), some (.int l1), none, none], [], Wd f fl g gl hh v tx) P := by
  refine WP.run hP_167 2 (c' := (98, [some (.ref 74), some (.int l1), none, none], [.int 60, .ref 74], Wd f fl g gl hh v tx)) rfl ?_
  refine WP.call hP_167 hP_160 (as := [.int 60]) (pc' := 101) (L' := [some (.ref 74), some (.int l1), none, none]) (st' := [.ref 74]) (w1 := Wd f fl g gl hh v tx) rfl ⟨Nat.le_of_ble_eq_true rfl, Nat.le_of_ble_eq_true rfl⟩ rfl (b_m_glyph_0 X (d) f fl g gl hh v tx 60 _ ?_)
  refine WP.call hP_167 hP_157 (as := [.ref 74, .int 160]) (pc' := 104) (L' := [some (.ref 74), some (.int l1), none, none]) (st' := []) (w1 := Wd f fl g gl hh v tx) rfl ⟨Nat.le_of_ble_eq_true rfl, Nat.le_of_ble_eq_true rfl⟩ rfl ?_
  exact h

set_option maxRecDepth 20000 in
theorem b_m_readPlain_53 (X : mm_X) (d : Nat) (f : Nat → Int32) (fl : Nat → Int64) (g : Nat → Nat → Int32) (gl : Nat → Nat → Int64) (hh : Nat → Nat → Option Nat) (v : Nat → Value) (tx : mm_W) (l1 : Int32)  (P : Option Value → mm_W → Prop)
    (h : ((¬ (f 4757) = (-1)) → P none (Wd f fl g gl hh v tx)) ∧
    (((f 4757) = (-1)) → WP X (d) 165 (0, [some (.ref 74), some (.int (l1 + (1 : Int32)))], [], Wd (va_up f 4755 ((f 4755) + (1 : Int32))) fl g gl hh v tx) (fun rv w2 => WP X (d + 1) 167 (78, [some (.ref 74), some (.int l1), none, none], rv.toList ++ [], w2) P))) :
    WP X (d + 1) 167 (53, [some (.ref 74), some (.int l1), none, none], [], Wd f fl g gl hh v tx) P := by
  refine WP.run hP_167 1 (c' := (54, [some (.ref 74), some (.int l1), none, none], [.ref 74], Wd f fl g gl hh v tx)) rfl ?_
  refine WP.call hP_167 hP_155 (as := [.ref 74]) (pc' := 57) (L' := [some (.ref 74), some (.int l1), none, none]) (st' := []) (w1 := Wd f fl g gl hh v tx) rfl ⟨Nat.le_of_ble_eq_true rfl, Nat.le_of_ble_eq_true rfl⟩ rfl (b_m_fine_0 X (d) f fl g gl hh v tx  _ ?_)
  refine ⟨fun c1 => ?_, fun c1 => ?_⟩
  · have h2 := h.1 c1
    refine WP.run hP_167 1 (c' := (60, [some (.ref 74), some (.int l1), none, none], [], Wd f fl g gl hh v tx)) rfl ?_
    exact WP.ret hP_167 (r := none) (w' := Wd f fl g gl hh v tx) rfl h2
  · have h3 := h.2 c1
    refine WP.run hP_167 11 (c' := (75, [some (.ref 74), some (.int l1), none, none], [.int (l1 + (1 : Int32)), .ref 74], Wd (va_up f 4755 ((f 4755) + (1 : Int32))) fl g gl hh v tx)) rfl ?_
    refine WP.call hP_167 hP_165 (as := [.ref 74, .int (l1 + (1 : Int32))]) (pc' := 78) (L' := [some (.ref 74), some (.int l1), none, none]) (st' := []) (w1 := Wd (va_up f 4755 ((f 4755) + (1 : Int32))) fl g gl hh v tx) rfl ⟨Nat.le_of_ble_eq_true rfl, Nat.le_of_ble_eq_true rfl⟩ rfl ?_
    exact h3

set_option maxRecDepth 20000 in
theorem b_m_readPlain_12 (X : mm_X) (d : Nat) (f : Nat → Int32) (fl : Nat → Int64) (g : Nat → Nat → Int32) (gl : Nat → Nat → Int64) (hh : Nat → Nat → Option Nat) (v : Nat → Value) (tx : mm_W) (l1 : Int32) (l2 : Int32) (s0 : Int32)  (P : Option Value → mm_W → Prop)
    (h : WP X (d) 167 (2, [some (.ref 74), some (.int l1), some (.int s0), none], [], Wd f fl g gl hh v tx) P) :
    WP X (d) 167 (12, [some (.ref 74), some (.int l1), some (.int l2), none], [.int s0], Wd f fl g gl hh v tx) P := by
  refine WP.run hP_167 2 (c' := (2, [some (.ref 74), some (.int l1), some (.int s0), none], [], Wd f fl g gl hh v tx)) rfl ?_
  exact h

set_option maxRecDepth 20000 in
theorem b_m_readPlain_104 (X : mm_X) (d : Nat) (f : Nat → Int32) (fl : Nat → Int64) (g : Nat → Nat → Int32) (gl : Nat → Nat → Int64) (hh : Nat → Nat → Option Nat) (v : Nat → Value) (tx : mm_W) (l1 : Int32) (s0 : Int32)  (P : Option Value → mm_W → Prop)
    (h : ((¬ s0 = 0) → WP X (d) 168 (0, [some (.ref 74), some (.int l1)], [], Wd f fl g gl hh v tx) (fun rv w2 => WP X (d + 1) 167 (133, [none, none, none, none], rv.toList ++ [], w2) P)) ∧
    ((s0 = 0) → WP X (d) 157 (0, [some (.ref 74), some (.int 162), none], [], Wd f fl g gl hh v tx) (fun rv w2 => WP X (d + 1) 167 (116, [some (.ref 74), some (.int l1), none, none], rv.toList ++ [], w2) P))) :
    WP X (d + 1) 167 (104, [some (.ref 74), some (.int l1), none, none], [.int s0], Wd f fl g gl hh v tx) P := by
  refine WP.br hP_167 (q := ¬ s0 = 0) (t := 128) (f := 107) (L := [some (.ref 74), some (.int l1), none, none]) (st := []) (w := Wd f fl g gl hh v tx) rfl (fun c1 => ?_) (fun c1 => ?_)
  · have h2 := h.1 c1
    refine WP.run hP_167 2 (c' := (130, [some (.ref 74), some (.int l1), none, none], [.int l1, .ref 74], Wd f fl g gl hh v tx)) rfl ?_
    refine WP.call hP_167 hP_168 (as := [.ref 74, .int l1]) (pc' := 133) (L' := [some (.ref 74), some (.int l1), none, none]) (st' := []) (w1 := Wd f fl g gl hh v tx) rfl ⟨Nat.le_of_ble_eq_true rfl, Nat.le_of_ble_eq_true rfl⟩ rfl ?_
    refine WP.mono h2 (fun _ _ hq => ?_)
    exact WP.clr hP_167 (pc := 133) rfl hq
  · have h3 := h.2 (Classical.not_not.mp c1)
    refine WP.run hP_167 2 (c' := (110, [some (.ref 74), some (.int l1), none, none], [.int 62, .ref 74], Wd f fl g gl hh v tx)) rfl ?_
    refine WP.call hP_167 hP_160 (as := [.int 62]) (pc' := 113) (L' := [some (.ref 74), some (.int l1), none, none]) (st' := [.ref 74]) (w1 := Wd f fl g gl hh v tx) rfl ⟨Nat.le_of_ble_eq_true rfl, Nat.le_of_ble_eq_true rfl⟩ rfl (b_m_glyph_0 X (d) f fl g gl hh v tx 62 _ ?_)
    refine WP.call hP_167 hP_157 (as := [.ref 74, .int 162]) (pc' := 116) (L' := [some (.ref 74), some (.int l1), none, none]) (st' := []) (w1 := Wd f fl g gl hh v tx) rfl ⟨Nat.le_of_ble_eq_true rfl, Nat.le_of_ble_eq_true rfl⟩ rfl ?_
    exact h3

set_option maxRecDepth 20000 in
theorem b_m_readPlain_78 (X : mm_X) (d : Nat) (f : Nat → Int32) (fl : Nat → Int64) (g : Nat → Nat → Int32) (gl : Nat → Nat → Int64) (hh : Nat → Nat → Option Nat) (v : Nat → Value) (tx : mm_W) (l1 : Int32)  (P : Option Value → mm_W → Prop)
    (h : WP X (d) 158 (0, [some (.ref 74), some (.int 141)], [], Wd f fl g gl hh v tx) (fun rv w2 => WP X (d + 1) 167 (87, [some (.ref 74), some (.int l1), none, none], rv.toList ++ [], w2) P)) :
    WP X (d + 1) 167 (78, [some (.ref 74), some (.int l1), none, none], [], Wd f fl g gl hh v tx) P := by
  refine WP.run hP_167 2 (c' := (81, [some (.ref 74), some (.int l1), none, none], [.int 41, .ref 74], Wd f fl g gl hh v tx)) rfl ?_
  refine WP.call hP_167 hP_160 (as := [.int 41]) (pc' := 84) (L' := [some (.ref 74), some (.int l1), none, none]) (st' := [.ref 74]) (w1 := Wd f fl g gl hh v tx) rfl ⟨Nat.le_of_ble_eq_true rfl, Nat.le_of_ble_eq_true rfl⟩ rfl (b_m_glyph_0 X (d) f fl g gl hh v tx 41 _ ?_)
  refine WP.call hP_167 hP_158 (as := [.ref 74, .int 141]) (pc' := 87) (L' := [some (.ref 74), some (.int l1), none, none]) (st' := []) (w1 := Wd f fl g gl hh v tx) rfl ⟨Nat.le_of_ble_eq_true rfl, Nat.le_of_ble_eq_true rfl⟩ rfl ?_
  exact h

set_option maxRecDepth 20000 in
theorem b_m_readPlain_133 (X : mm_X) (d : Nat) (f : Nat → Int32) (fl : Nat → Int64) (g : Nat → Nat → Int32) (gl : Nat → Nat → Int64) (hh : Nat → Nat → Option Nat) (v : Nat → Value) (tx : mm_W)   (P : Option Value → mm_W → Prop)
    (h : P none (Wd f fl g gl hh v tx)) :
    WP X (d) 167 (133, [none, none, none, none], [], Wd f fl g gl hh v tx) P := by
  exact WP.ret hP_167 (r := none) (w' := Wd f fl g gl hh v tx) rfl h

set_option maxRecDepth 20000 in
theorem b_m_readPlain_116 (X : mm_X) (d : Nat) (f : Nat → Int32) (fl : Nat → Int64) (g : Nat → Nat → Int32) (gl : Nat → Nat → Int64) (hh : Nat → Nat → Option Nat) (v : Nat → Value) (tx : mm_W) (l1 : Int32) (s0 : Int32)  (P : Option Value → mm_W → Prop)
    (h : ((¬ s0 = 0) → WP X (d) 168 (0, [some (.ref 74), some (.int l1)], [], Wd f fl g gl hh v tx) (fun rv w2 => WP X (d + 1) 167 (133, [none, none, none, none], rv.toList ++ [], w2) P)) ∧
    ((s0 = 0) → WP X (d) 158 (0, [some (.ref 74), some (.int 161)], [], Wd f fl g gl hh v tx) (fun rv w2 => WP X (d + 1) 167 (128, [some (.ref 74), some (.int l1), none, none], rv.toList ++ [], w2) P))) :
    WP X (d + 1) 167 (116, [some (.ref 74), some (.int l1), none, none], [.int s0], Wd f fl g gl hh v tx) P := by
  refine WP.br hP_167 (q := ¬ s0 = 0) (t := 128) (f := 119) (L := [some (.ref 74), some (.int l1), none, none]) (st := []) (w := Wd f fl g gl hh v tx) rfl (fun c1 => ?_) (fun c1 => ?_)
  · have h2 := h.1 c1
    refine WP.run hP_167 2 (c' := (130, [some (.ref 74), some (.int l1), none, none], [.int l1, .ref 74], Wd f fl g gl hh v tx)) rfl ?_
    refine WP.call hP_167 hP_168 (as := [.ref 74, .int l1]) (pc' := 133) (L' := [some (.ref 74), some (.int l1), none, none]) (st' := []) (w1 := Wd f fl g gl hh v tx) rfl ⟨Nat.le_of_ble_eq_true rfl, Nat.le_of_ble_eq_true rfl⟩ rfl ?_
    refine WP.mono h2 (fun _ _ hq => ?_)
    exact WP.clr hP_167 (pc := 133) rfl hq
  · have h3 := h.2 (Classical.not_not.mp c1)
    refine WP.run hP_167 2 (c' := (122, [some (.ref 74), some (.int l1), none, none], [.int 61, .ref 74], Wd f fl g gl hh v tx)) rfl ?_
    refine WP.call hP_167 hP_160 (as := [.int 61]) (pc' := 125) (L' := [some (.ref 74), some (.int l1), none, none]) (st' := [.ref 74]) (w1 := Wd f fl g gl hh v tx) rfl ⟨Nat.le_of_ble_eq_true rfl, Nat.le_of_ble_eq_true rfl⟩ rfl (b_m_glyph_0 X (d) f fl g gl hh v tx 61 _ ?_)
    refine WP.call hP_167 hP_158 (as := [.ref 74, .int 161]) (pc' := 128) (L' := [some (.ref 74), some (.int l1), none, none]) (st' := []) (w1 := Wd f fl g gl hh v tx) rfl ⟨Nat.le_of_ble_eq_true rfl, Nat.le_of_ble_eq_true rfl⟩ rfl ?_
    exact h3

set_option maxRecDepth 20000 in
theorem b_m_readPlain_87 (X : mm_X) (d : Nat) (f : Nat → Int32) (fl : Nat → Int64) (g : Nat → Nat → Int32) (gl : Nat → Nat → Int64) (hh : Nat → Nat → Option Nat) (v : Nat → Value) (tx : mm_W) (l1 : Int32)  (P : Option Value → mm_W → Prop)
    (h : P none (Wd f fl g gl hh v tx)) :
    WP X (d) 167 (87, [some (.ref 74), some (.int l1), none, none], [], Wd f fl g gl hh v tx) P := by
  refine WP.run hP_167 1 (c' := (133, [some (.ref 74), some (.int l1), none, none], [], Wd f fl g gl hh v tx)) rfl ?_
  exact WP.ret hP_167 (r := none) (w' := Wd f fl g gl hh v tx) rfl h

set_option maxRecDepth 20000 in
theorem b_m_readPlain_128 (X : mm_X) (d : Nat) (f : Nat → Int32) (fl : Nat → Int64) (g : Nat → Nat → Int32) (gl : Nat → Nat → Int64) (hh : Nat → Nat → Option Nat) (v : Nat → Value) (tx : mm_W) (l1 : Int32)  (P : Option Value → mm_W → Prop)
    (h : WP X (d) 168 (0, [some (.ref 74), some (.int l1)], [], Wd f fl g gl hh v tx) (fun rv w2 => WP X (d + 1) 167 (133, [none, none, none, none], rv.toList ++ [], w2) P)) :
    WP X (d + 1) 167 (128, [some (.ref 74), some (.int l1), none, none], [], Wd f fl g gl hh v tx) P := by
  refine WP.run hP_167 2 (c' := (130, [some (.ref 74), some (.int l1), none, none], [.int l1, .ref 74], Wd f fl g gl hh v tx)) rfl ?_
  refine WP.call hP_167 hP_168 (as := [.ref 74, .int l1]) (pc' := 133) (L' := [some (.ref 74), some (.int l1), none, none]) (st' := []) (w1 := Wd f fl g gl hh v tx) rfl ⟨Nat.le_of_ble_eq_true rfl, Nat.le_of_ble_eq_true rfl⟩ rfl ?_
  refine WP.mono h (fun _ _ hq => ?_)
  exact WP.clr hP_167 (pc := 133) rfl hq

set_option maxRecDepth 20000 in
theorem b_m_readBoth_0 (X : mm_X) (d : Nat) (f : Nat → Int32) (fl : Nat → Int64) (g : Nat → Nat → Int32) (gl : Nat → Nat → Int64) (hh : Nat → Nat → Option Nat) (v : Nat → Value) (tx : mm_W) (p0 : Int32)  (P : Option Value → mm_W → Prop)
    (h : WP X (d) 167 (0, [some (.ref 74), some (.int p0), none, none], [], Wd f fl g gl hh v tx) (fun rv w2 => WP X (d + 1) 166 (5, [some (.ref 74), some (.int p0)], rv.toList ++ [], w2) P)) :
    WP X (d + 1) 166 (0, [some (.ref 74), some (.int p0)], [], Wd f fl g gl hh v tx) P := by
  refine WP.run hP_166 2 (c' := (2, [some (.ref 74), some (.int p0)], [.int p0, .ref 74], Wd f fl g gl hh v tx)) rfl ?_
  refine WP.call hP_166 hP_167 (as := [.ref 74, .int p0]) (pc' := 5) (L' := [some (.ref 74), some (.int p0)]) (st' := []) (w1 := Wd f fl g gl hh v tx) rfl ⟨Nat.le_of_ble_eq_true rfl, Nat.le_of_ble_eq_true rfl⟩ rfl ?_
  exact h

set_option maxRecDepth 20000 in
theorem b_m_readBoth_5 (X : mm_X) (d : Nat) (f : Nat → Int32) (fl : Nat → Int64) (g : Nat → Nat → Int32) (gl : Nat → Nat → Int64) (hh : Nat → Nat → Option Nat) (v : Nat → Value) (tx : mm_W) (l1 : Int32)  (P : Option Value → mm_W → Prop)
    (h : WP X (d) 157 (0, [some (.ref 74), some (.int 6), none], [], Wd f fl g gl hh v tx) (fun rv w2 => WP X (d + 1) 166 (11, [some (.ref 74), some (.int l1)], rv.toList ++ [], w2) P)) :
    WP X (d + 1) 166 (5, [some (.ref 74), some (.int l1)], [], Wd f fl g gl hh v tx) P := by
  refine WP.run hP_166 2 (c' := (8, [some (.ref 74), some (.int l1)], [.int 6, .ref 74], Wd f fl g gl hh v tx)) rfl ?_
  refine WP.call hP_166 hP_157 (as := [.ref 74, .int 6]) (pc' := 11) (L' := [some (.ref 74), some (.int l1)]) (st' := []) (w1 := Wd f fl g gl hh v tx) rfl ⟨Nat.le_of_ble_eq_true rfl, Nat.le_of_ble_eq_true rfl⟩ rfl ?_
  exact h

set_option maxRecDepth 20000 in
theorem b_m_readBoth_11 (X : mm_X) (d : Nat) (f : Nat → Int32) (fl : Nat → Int64) (g : Nat → Nat → Int32) (gl : Nat → Nat → Int64) (hh : Nat → Nat → Option Nat) (v : Nat → Value) (tx : mm_W) (l1 : Int32) (s0 : Int32)  (P : Option Value → mm_W → Prop)
    (h : ((s0 = 0) → P none (Wd f fl g gl hh v tx)) ∧
    ((¬ s0 = 0) → WP X (d) 167 (0, [some (.ref 74), some (.int l1), none, none], [], Wd f fl g gl hh v tx) (fun rv w2 => WP X (d + 1) 166 (19, [some (.ref 74), some (.int l1)], rv.toList ++ [], w2) P))) :
    WP X (d + 1) 166 (11, [some (.ref 74), some (.int l1)], [.int s0], Wd f fl g gl hh v tx) P := by
  refine WP.br hP_166 (q := s0 = 0) (t := 22) (f := 14) (L := [some (.ref 74), some (.int l1)]) (st := []) (w := Wd f fl g gl hh v tx) rfl (fun c1 => ?_) (fun c1 => ?_)
  · have h2 := h.1 c1
    exact WP.ret hP_166 (r := none) (w' := Wd f fl g gl hh v tx) rfl h2
  · have h3 := h.2 c1
    refine WP.run hP_166 2 (c' := (16, [some (.ref 74), some (.int l1)], [.int l1, .ref 74], Wd f fl g gl hh v tx)) rfl ?_
    refine WP.call hP_166 hP_167 (as := [.ref 74, .int l1]) (pc' := 19) (L' := [some (.ref 74), some (.int l1)]) (st' := []) (w1 := Wd f fl g gl hh v tx) rfl ⟨Nat.le_of_ble_eq_true rfl, Nat.le_of_ble_eq_true rfl⟩ rfl ?_
    exact h3

set_option maxRecDepth 20000 in
theorem b_m_readBoth_19 (X : mm_X) (d : Nat) (f : Nat → Int32) (fl : Nat → Int64) (g : Nat → Nat → Int32) (gl : Nat → Nat → Int64) (hh : Nat → Nat → Option Nat) (v : Nat → Value) (tx : mm_W) (l1 : Int32)  (P : Option Value → mm_W → Prop)
    (h : WP X (d) 166 (5, [some (.ref 74), some (.int l1)], [], Wd f fl g gl hh v tx) P) :
    WP X (d) 166 (19, [some (.ref 74), some (.int l1)], [], Wd f fl g gl hh v tx) P := by
  refine WP.run hP_166 1 (c' := (5, [some (.ref 74), some (.int l1)], [], Wd f fl g gl hh v tx)) rfl ?_
  exact h

set_option maxRecDepth 20000 in
theorem b_m_readTest_0 (X : mm_X) (d : Nat) (f : Nat → Int32) (fl : Nat → Int64) (g : Nat → Nat → Int32) (gl : Nat → Nat → Int64) (hh : Nat → Nat → Option Nat) (v : Nat → Value) (tx : mm_W) (p0 : Int32)  (P : Option Value → mm_W → Prop)
    (h : WP X (d) 166 (0, [some (.ref 74), some (.int p0)], [], Wd f fl g gl hh v tx) (fun rv w2 => WP X (d + 1) 165 (5, [some (.ref 74), some (.int p0)], rv.toList ++ [], w2) P)) :
    WP X (d + 1) 165 (0, [some (.ref 74), some (.int p0)], [], Wd f fl g gl hh v tx) P := by
  refine WP.run hP_165 2 (c' := (2, [some (.ref 74), some (.int p0)], [.int p0, .ref 74], Wd f fl g gl hh v tx)) rfl ?_
  refine WP.call hP_165 hP_166 (as := [.ref 74, .int p0]) (pc' := 5) (L' := [some (.ref 74), some (.int p0)]) (st' := []) (w1 := Wd f fl g gl hh v tx) rfl ⟨Nat.le_of_ble_eq_true rfl, Nat.le_of_ble_eq_true rfl⟩ rfl ?_
  exact h

set_option maxRecDepth 20000 in
theorem b_m_readTest_5 (X : mm_X) (d : Nat) (f : Nat → Int32) (fl : Nat → Int64) (g : Nat → Nat → Int32) (gl : Nat → Nat → Int64) (hh : Nat → Nat → Option Nat) (v : Nat → Value) (tx : mm_W) (l1 : Int32)  (P : Option Value → mm_W → Prop)
    (h : WP X (d) 157 (0, [some (.ref 74), some (.int 5), none], [], Wd f fl g gl hh v tx) (fun rv w2 => WP X (d + 1) 165 (10, [some (.ref 74), some (.int l1)], rv.toList ++ [], w2) P)) :
    WP X (d + 1) 165 (5, [some (.ref 74), some (.int l1)], [], Wd f fl g gl hh v tx) P := by
  refine WP.run hP_165 2 (c' := (7, [some (.ref 74), some (.int l1)], [.int 5, .ref 74], Wd f fl g gl hh v tx)) rfl ?_
  refine WP.call hP_165 hP_157 (as := [.ref 74, .int 5]) (pc' := 10) (L' := [some (.ref 74), some (.int l1)]) (st' := []) (w1 := Wd f fl g gl hh v tx) rfl ⟨Nat.le_of_ble_eq_true rfl, Nat.le_of_ble_eq_true rfl⟩ rfl ?_
  exact h

set_option maxRecDepth 20000 in
theorem b_m_readTest_10 (X : mm_X) (d : Nat) (f : Nat → Int32) (fl : Nat → Int64) (g : Nat → Nat → Int32) (gl : Nat → Nat → Int64) (hh : Nat → Nat → Option Nat) (v : Nat → Value) (tx : mm_W) (l1 : Int32) (s0 : Int32)  (P : Option Value → mm_W → Prop)
    (h : ((s0 = 0) → P none (Wd f fl g gl hh v tx)) ∧
    ((¬ s0 = 0) → WP X (d) 166 (0, [some (.ref 74), some (.int l1)], [], Wd f fl g gl hh v tx) (fun rv w2 => WP X (d + 1) 165 (18, [some (.ref 74), some (.int l1)], rv.toList ++ [], w2) P))) :
    WP X (d + 1) 165 (10, [some (.ref 74), some (.int l1)], [.int s0], Wd f fl g gl hh v tx) P := by
  refine WP.br hP_165 (q := s0 = 0) (t := 21) (f := 13) (L := [some (.ref 74), some (.int l1)]) (st := []) (w := Wd f fl g gl hh v tx) rfl (fun c1 => ?_) (fun c1 => ?_)
  · have h2 := h.1 c1
    exact WP.ret hP_165 (r := none) (w' := Wd f fl g gl hh v tx) rfl h2
  · have h3 := h.2 c1
    refine WP.run hP_165 2 (c' := (15, [some (.ref 74), some (.int l1)], [.int l1, .ref 74], Wd f fl g gl hh v tx)) rfl ?_
    refine WP.call hP_165 hP_166 (as := [.ref 74, .int l1]) (pc' := 18) (L' := [some (.ref 74), some (.int l1)]) (st' := []) (w1 := Wd f fl g gl hh v tx) rfl ⟨Nat.le_of_ble_eq_true rfl, Nat.le_of_ble_eq_true rfl⟩ rfl ?_
    exact h3

set_option maxRecDepth 20000 in
theorem b_m_readTest_18 (X : mm_X) (d : Nat) (f : Nat → Int32) (fl : Nat → Int64) (g : Nat → Nat → Int32) (gl : Nat → Nat → Int64) (hh : Nat → Nat → Option Nat) (v : Nat → Value) (tx : mm_W) (l1 : Int32)  (P : Option Value → mm_W → Prop)
    (h : WP X (d) 165 (5, [some (.ref 74), some (.int l1)], [], Wd f fl g gl hh v tx) P) :
    WP X (d) 165 (18, [some (.ref 74), some (.int l1)], [], Wd f fl g gl hh v tx) P := by
  refine WP.run hP_165 1 (c' := (5, [some (.ref 74), some (.int l1)], [], Wd f fl g gl hh v tx)) rfl ?_
  exact h

set_option maxRecDepth 20000 in
theorem b_m_readClause_0 (X : mm_X) (d : Nat) (f : Nat → Int32) (fl : Nat → Int64) (g : Nat → Nat → Int32) (gl : Nat → Nat → Int64) (hh : Nat → Nat → Option Nat) (v : Nat → Value) (tx : mm_W)   (P : Option Value → mm_W → Prop)
    (h : WP X (d) 157 (0, [some (.ref 74), some (.int 1), none], [], Wd f fl g gl hh v tx) (fun rv w2 => WP X (d + 1) 162 (5, [some (.ref 74)], rv.toList ++ [], w2) P)) :
    WP X (d + 1) 162 (0, [some (.ref 74)], [], Wd f fl g gl hh v tx) P := by
  refine WP.run hP_162 2 (c' := (2, [some (.ref 74)], [.int 1, .ref 74], Wd f fl g gl hh v tx)) rfl ?_
  refine WP.call hP_162 hP_157 (as := [.ref 74, .int 1]) (pc' := 5) (L' := [some (.ref 74)]) (st' := []) (w1 := Wd f fl g gl hh v tx) rfl ⟨Nat.le_of_ble_eq_true rfl, Nat.le_of_ble_eq_true rfl⟩ rfl ?_
  exact h

set_option maxRecDepth 20000 in
theorem b_m_readClause_5 (X : mm_X) (d : Nat) (f : Nat → Int32) (fl : Nat → Int64) (g : Nat → Nat → Int32) (gl : Nat → Nat → Int64) (hh : Nat → Nat → Option Nat) (v : Nat → Value) (tx : mm_W) (s0 : Int32)  (P : Option Value → mm_W → Prop)
    (h : ((¬ s0 = 0) → WP X (d) 168 (0, [some (.ref 74), some (.int 0)], [], Wd f fl g gl hh v tx) (fun rv w2 => WP X (d + 1) 162 (21, [some (.ref 74)], rv.toList ++ [], w2) P)) ∧
    ((s0 = 0) → WP X (d) 157 (0, [some (.ref 74), some (.int 2), none], [], Wd f fl g gl hh v tx) (fun rv w2 => WP X (d + 1) 162 (13, [some (.ref 74)], rv.toList ++ [], w2) P))) :
    WP X (d + 1) 162 (5, [some (.ref 74)], [.int s0], Wd f fl g gl hh v tx) P := by
  refine WP.br hP_162 (q := ¬ s0 = 0) (t := 16) (f := 8) (L := [some (.ref 74)]) (st := []) (w := Wd f fl g gl hh v tx) rfl (fun c1 => ?_) (fun c1 => ?_)
  · have h2 := h.1 c1
    refine WP.run hP_162 2 (c' := (18, [some (.ref 74)], [.int 0, .ref 74], Wd f fl g gl hh v tx)) rfl ?_
    refine WP.call hP_162 hP_168 (as := [.ref 74, .int 0]) (pc' := 21) (L' := [some (.ref 74)]) (st' := []) (w1 := Wd f fl g gl hh v tx) rfl ⟨Nat.le_of_ble_eq_true rfl, Nat.le_of_ble_eq_true rfl⟩ rfl ?_
    exact h2
  · have h3 := h.2 (Classical.not_not.mp c1)
    refine WP.run hP_162 2 (c' := (10, [some (.ref 74)], [.int 2, .ref 74], Wd f fl g gl hh v tx)) rfl ?_
    refine WP.call hP_162 hP_157 (as := [.ref 74, .int 2]) (pc' := 13) (L' := [some (.ref 74)]) (st' := []) (w1 := Wd f fl g gl hh v tx) rfl ⟨Nat.le_of_ble_eq_true rfl, Nat.le_of_ble_eq_true rfl⟩ rfl ?_
    exact h3

set_option maxRecDepth 20000 in
theorem b_m_readClause_21 (X : mm_X) (d : Nat) (f : Nat → Int32) (fl : Nat → Int64) (g : Nat → Nat → Int32) (gl : Nat → Nat → Int64) (hh : Nat → Nat → Option Nat) (v : Nat → Value) (tx : mm_W)   (P : Option Value → mm_W → Prop)
    (h : WP X (d) 157 (0, [some (.ref 74), some (.int 4), none], [], Wd f fl g gl hh v tx) (fun rv w2 => WP X (d + 1) 162 (34, [some (.ref 74)], rv.toList ++ [], w2) P)) :
    WP X (d + 1) 162 (21, [some (.ref 74)], [], Wd f fl g gl hh v tx) P := by
  refine WP.run hP_162 3 (c' := (31, [some (.ref 74)], [.int 4, .ref 74], Wd f fl g gl hh v tx)) rfl ?_
  refine WP.call hP_162 hP_157 (as := [.ref 74, .int 4]) (pc' := 34) (L' := [some (.ref 74)]) (st' := []) (w1 := Wd f fl g gl hh v tx) rfl ⟨Nat.le_of_ble_eq_true rfl, Nat.le_of_ble_eq_true rfl⟩ rfl ?_
  exact h

set_option maxRecDepth 20000 in
theorem b_m_readClause_13 (X : mm_X) (d : Nat) (f : Nat → Int32) (fl : Nat → Int64) (g : Nat → Nat → Int32) (gl : Nat → Nat → Int64) (hh : Nat → Nat → Option Nat) (v : Nat → Value) (tx : mm_W) (s0 : Int32)  (P : Option Value → mm_W → Prop)
    (h : ((s0 = 0) → WP X (d) 158 (0, [some (.ref 74), some (.int 3)], [], Wd f fl g gl hh v tx) (fun rv w2 => WP X (d + 1) 162 (29, [some (.ref 74)], rv.toList ++ [], w2) P)) ∧
    ((¬ s0 = 0) → WP X (d) 168 (0, [some (.ref 74), some (.int 0)], [], Wd f fl g gl hh v tx) (fun rv w2 => WP X (d + 1) 162 (21, [some (.ref 74)], rv.toList ++ [], w2) P))) :
    WP X (d + 1) 162 (13, [some (.ref 74)], [.int s0], Wd f fl g gl hh v tx) P := by
  refine WP.br hP_162 (q := s0 = 0) (t := 24) (f := 16) (L := [some (.ref 74)]) (st := []) (w := Wd f fl g gl hh v tx) rfl (fun c1 => ?_) (fun c1 => ?_)
  · have h2 := h.1 c1
    refine WP.run hP_162 2 (c' := (26, [some (.ref 74)], [.int 3, .ref 74], Wd f fl g gl hh v tx)) rfl ?_
    refine WP.call hP_162 hP_158 (as := [.ref 74, .int 3]) (pc' := 29) (L' := [some (.ref 74)]) (st' := []) (w1 := Wd f fl g gl hh v tx) rfl ⟨Nat.le_of_ble_eq_true rfl, Nat.le_of_ble_eq_true rfl⟩ rfl ?_
    exact h2
  · have h3 := h.2 c1
    refine WP.run hP_162 2 (c' := (18, [some (.ref 74)], [.int 0, .ref 74], Wd f fl g gl hh v tx)) rfl ?_
    refine WP.call hP_162 hP_168 (as := [.ref 74, .int 0]) (pc' := 21) (L' := [some (.ref 74)]) (st' := []) (w1 := Wd f fl g gl hh v tx) rfl ⟨Nat.le_of_ble_eq_true rfl, Nat.le_of_ble_eq_true rfl⟩ rfl ?_
    exact h3

set_option maxRecDepth 20000 in
theorem b_m_readClause_34 (X : mm_X) (d : Nat) (f : Nat → Int32) (fl : Nat → Int64) (g : Nat → Nat → Int32) (gl : Nat → Nat → Int64) (hh : Nat → Nat → Option Nat) (v : Nat → Value) (tx : mm_W) (s0 : Int32)  (P : Option Value → mm_W → Prop)
    (h : ((s0 = 0) → P none (Wd f fl g gl hh v tx)) ∧
    ((¬ s0 = 0) → WP X (d) 165 (0, [some (.ref 74), some (.int 0)], [], Wd f fl g gl hh v tx) (fun rv w2 => WP X (d + 1) 162 (42, [none], rv.toList ++ [], w2) P))) :
    WP X (d + 1) 162 (34, [some (.ref 74)], [.int s0], Wd f fl g gl hh v tx) P := by
  refine WP.br hP_162 (q := s0 = 0) (t := 42) (f := 37) (L := [some (.ref 74)]) (st := []) (w := Wd f fl g gl hh v tx) rfl (fun c1 => ?_) (fun c1 => ?_)
  · have h2 := h.1 c1
    exact WP.ret hP_162 (r := none) (w' := Wd f fl g gl hh v tx) rfl h2
  · have h3 := h.2 c1
    refine WP.run hP_162 2 (c' := (39, [some (.ref 74)], [.int 0, .ref 74], Wd f fl g gl hh v tx)) rfl ?_
    refine WP.call hP_162 hP_165 (as := [.ref 74, .int 0]) (pc' := 42) (L' := [some (.ref 74)]) (st' := []) (w1 := Wd f fl g gl hh v tx) rfl ⟨Nat.le_of_ble_eq_true rfl, Nat.le_of_ble_eq_true rfl⟩ rfl ?_
    refine WP.mono h3 (fun _ _ hq => ?_)
    exact WP.clr hP_162 (pc := 42) rfl hq

set_option maxRecDepth 20000 in
theorem b_m_readClause_29 (X : mm_X) (d : Nat) (f : Nat → Int32) (fl : Nat → Int64) (g : Nat → Nat → Int32) (gl : Nat → Nat → Int64) (hh : Nat → Nat → Option Nat) (v : Nat → Value) (tx : mm_W)   (P : Option Value → mm_W → Prop)
    (h : WP X (d) 157 (0, [some (.ref 74), some (.int 4), none], [], Wd f fl g gl hh v tx) (fun rv w2 => WP X (d + 1) 162 (34, [some (.ref 74)], rv.toList ++ [], w2) P)) :
    WP X (d + 1) 162 (29, [some (.ref 74)], [], Wd f fl g gl hh v tx) P := by
  refine WP.run hP_162 2 (c' := (31, [some (.ref 74)], [.int 4, .ref 74], Wd f fl g gl hh v tx)) rfl ?_
  refine WP.call hP_162 hP_157 (as := [.ref 74, .int 4]) (pc' := 34) (L' := [some (.ref 74)]) (st' := []) (w1 := Wd f fl g gl hh v tx) rfl ⟨Nat.le_of_ble_eq_true rfl, Nat.le_of_ble_eq_true rfl⟩ rfl ?_
  exact h

set_option maxRecDepth 20000 in
theorem b_m_readClause_42 (X : mm_X) (d : Nat) (f : Nat → Int32) (fl : Nat → Int64) (g : Nat → Nat → Int32) (gl : Nat → Nat → Int64) (hh : Nat → Nat → Option Nat) (v : Nat → Value) (tx : mm_W)   (P : Option Value → mm_W → Prop)
    (h : P none (Wd f fl g gl hh v tx)) :
    WP X (d) 162 (42, [none], [], Wd f fl g gl hh v tx) P := by
  exact WP.ret hP_162 (r := none) (w' := Wd f fl g gl hh v tx) rfl h

set_option maxRecDepth 20000 in
theorem b_m_readOrder_0 (X : mm_X) (d : Nat) (f : Nat → Int32) (fl : Nat → Int64) (g : Nat → Nat → Int32) (gl : Nat → Nat → Int64) (hh : Nat → Nat → Option Nat) (v : Nat → Value) (tx : mm_W)   (P : Option Value → mm_W → Prop)
    (h : WP X (d) 157 (0, [some (.ref 74), some (.int 20), none], [], Wd f fl g gl hh v tx) (fun rv w2 => WP X (d + 1) 163 (6, [some (.ref 74)], rv.toList ++ [], w2) P)) :
    WP X (d + 1) 163 (0, [some (.ref 74)], [], Wd f fl g gl hh v tx) P := by
  refine WP.run hP_163 2 (c' := (3, [some (.ref 74)], [.int 20, .ref 74], Wd f fl g gl hh v tx)) rfl ?_
  refine WP.call hP_163 hP_157 (as := [.ref 74, .int 20]) (pc' := 6) (L' := [some (.ref 74)]) (st' := []) (w1 := Wd f fl g gl hh v tx) rfl ⟨Nat.le_of_ble_eq_true rfl, Nat.le_of_ble_eq_true rfl⟩ rfl ?_
  exact h

set_option maxRecDepth 20000 in
theorem b_m_readOrder_6 (X : mm_X) (d : Nat) (f : Nat → Int32) (fl : Nat → Int64) (g : Nat → Nat → Int32) (gl : Nat → Nat → Int64) (hh : Nat → Nat → Option Nat) (v : Nat → Value) (tx : mm_W) (s0 : Int32)  (P : Option Value → mm_W → Prop)
    (h : ((¬ s0 = 0) → WP X (d) 168 (0, [some (.ref 74), some (.int 0)], [], Wd f fl g gl hh v tx) (fun rv w2 => WP X (d + 1) 163 (23, [some (.ref 74)], rv.toList ++ [], w2) P)) ∧
    ((s0 = 0) → WP X (d) 157 (0, [some (.ref 74), some (.int 22), none], [], Wd f fl g gl hh v tx) (fun rv w2 => WP X (d + 1) 163 (15, [some (.ref 74)], rv.toList ++ [], w2) P))) :
    WP X (d + 1) 163 (6, [some (.ref 74)], [.int s0], Wd f fl g gl hh v tx) P := by
  refine WP.br hP_163 (q := ¬ s0 = 0) (t := 18) (f := 9) (L := [some (.ref 74)]) (st := []) (w := Wd f fl g gl hh v tx) rfl (fun c1 => ?_) (fun c1 => ?_)
  · have h2 := h.1 c1
    refine WP.run hP_163 2 (c' := (20, [some (.ref 74)], [.int 0, .ref 74], Wd f fl g gl hh v tx)) rfl ?_
    refine WP.call hP_163 hP_168 (as := [.ref 74, .int 0]) (pc' := 23) (L' := [some (.ref 74)]) (st' := []) (w1 := Wd f fl g gl hh v tx) rfl ⟨Nat.le_of_ble_eq_true rfl, Nat.le_of_ble_eq_true rfl⟩ rfl ?_
    exact h2
  · have h3 := h.2 (Classical.not_not.mp c1)
    refine WP.run hP_163 2 (c' := (12, [some (.ref 74)], [.int 22, .ref 74], Wd f fl g gl hh v tx)) rfl ?_
    refine WP.call hP_163 hP_157 (as := [.ref 74, .int 22]) (pc' := 15) (L' := [some (.ref 74)]) (st' := []) (w1 := Wd f fl g gl hh v tx) rfl ⟨Nat.le_of_ble_eq_true rfl, Nat.le_of_ble_eq_true rfl⟩ rfl ?_
    exact h3

set_option maxRecDepth 20000 in
theorem b_m_readOrder_23 (X : mm_X) (d : Nat) (f : Nat → Int32) (fl : Nat → Int64) (g : Nat → Nat → Int32) (gl : Nat → Nat → Int64) (hh : Nat → Nat → Option Nat) (v : Nat → Value) (tx : mm_W)   (P : Option Value → mm_W → Prop)
    (h : WP X (d) 157 (0, [some (.ref 74), some (.int 24), none], [], Wd f fl g gl hh v tx) (fun rv w2 => WP X (d + 1) 163 (47, [some (.ref 74)], rv.toList ++ [], w2) P)) :
    WP X (d + 1) 163 (23, [some (.ref 74)], [], Wd f fl g gl hh v tx) P := by
  refine WP.run hP_163 3 (c' := (44, [some (.ref 74)], [.int 24, .ref 74], Wd f fl g gl hh v tx)) rfl ?_
  refine WP.call hP_163 hP_157 (as := [.ref 74, .int 24]) (pc' := 47) (L' := [some (.ref 74)]) (st' := []) (w1 := Wd f fl g gl hh v tx) rfl ⟨Nat.le_of_ble_eq_true rfl, Nat.le_of_ble_eq_true rfl⟩ rfl ?_
  exact h

set_option maxRecDepth 20000 in
theorem b_m_readOrder_15 (X : mm_X) (d : Nat) (f : Nat → Int32) (fl : Nat → Int64) (g : Nat → Nat → Int32) (gl : Nat → Nat → Int64) (hh : Nat → Nat → Option Nat) (v : Nat → Value) (tx : mm_W) (s0 : Int32)  (P : Option Value → mm_W → Prop)
    (h : ((s0 = 0) → WP X (d) 157 (0, [some (.ref 74), some (.int 21), none], [], Wd f fl g gl hh v tx) (fun rv w2 => WP X (d + 1) 163 (32, [some (.ref 74)], rv.toList ++ [], w2) P)) ∧
    ((¬ s0 = 0) → WP X (d) 168 (0, [some (.ref 74), some (.int 0)], [], Wd f fl g gl hh v tx) (fun rv w2 => WP X (d + 1) 163 (23, [some (.ref 74)], rv.toList ++ [], w2) P))) :
    WP X (d + 1) 163 (15, [some (.ref 74)], [.int s0], Wd f fl g gl hh v tx) P := by
  refine WP.br hP_163 (q := s0 = 0) (t := 26) (f := 18) (L := [some (.ref 74)]) (st := []) (w := Wd f fl g gl hh v tx) rfl (fun c1 => ?_) (fun c1 => ?_)
  · have h2 := h.1 c1
    refine WP.run hP_163 2 (c' := (29, [some (.ref 74)], [.int 21, .ref 74], Wd f fl g gl hh v tx)) rfl ?_
    refine WP.call hP_163 hP_157 (as := [.ref 74, .int 21]) (pc' := 32) (L' := [some (.ref 74)]) (st' := []) (w1 := Wd f fl g gl hh v tx) rfl ⟨Nat.le_of_ble_eq_true rfl, Nat.le_of_ble_eq_true rfl⟩ rfl ?_
    exact h2
  · have h3 := h.2 c1
    refine WP.run hP_163 2 (c' := (20, [some (.ref 74)], [.int 0, .ref 74], Wd f fl g gl hh v tx)) rfl ?_
    refine WP.call hP_163 hP_168 (as := [.ref 74, .int 0]) (pc' := 23) (L' := [some (.ref 74)]) (st' := []) (w1 := Wd f fl g gl hh v tx) rfl ⟨Nat.le_of_ble_eq_true rfl, Nat.le_of_ble_eq_true rfl⟩ rfl ?_
    exact h3

set_option maxRecDepth 20000 in
theorem b_m_readOrder_47 (X : mm_X) (d : Nat) (f : Nat → Int32) (fl : Nat → Int64) (g : Nat → Nat → Int32) (gl : Nat → Nat → Int64) (hh : Nat → Nat → Option Nat) (v : Nat → Value) (tx : mm_W) (s0 : Int32)  (P : Option Value → mm_W → Prop)
    (h : ((s0 = 0) → WP X (d) 157 (0, [some (.ref 74), some (.int 4), none], [], Wd f fl g gl hh v tx) (fun rv w2 => WP X (d + 1) 163 (62, [some (.ref 74)], rv.toList ++ [], w2) P)) ∧
    ((¬ s0 = 0) → WP X (d) 161 (0, [some (.ref 74), some (.int 1), some (.int 20)], [], Wd f fl g gl hh v tx) (fun rv w2 => WP X (d + 1) 163 (57, [some (.ref 74)], rv.toList ++ [], w2) P))) :
    WP X (d + 1) 163 (47, [some (.ref 74)], [.int s0], Wd f fl g gl hh v tx) P := by
  refine WP.br hP_163 (q := s0 = 0) (t := 57) (f := 50) (L := [some (.ref 74)]) (st := []) (w := Wd f fl g gl hh v tx) rfl (fun c1 => ?_) (fun c1 => ?_)
  · have h2 := h.1 c1
    refine WP.run hP_163 2 (c' := (59, [some (.ref 74)], [.int 4, .ref 74], Wd f fl g gl hh v tx)) rfl ?_
    refine WP.call hP_163 hP_157 (as := [.ref 74, .int 4]) (pc' := 62) (L' := [some (.ref 74)]) (st' := []) (w1 := Wd f fl g gl hh v tx) rfl ⟨Nat.le_of_ble_eq_true rfl, Nat.le_of_ble_eq_true rfl⟩ rfl ?_
    exact h2
  · have h3 := h.2 c1
    refine WP.run hP_163 3 (c' := (54, [some (.ref 74)], [.int 20, .int 1, .ref 74], Wd f fl g gl hh v tx)) rfl ?_
    refine WP.call hP_163 hP_161 (as := [.ref 74, .int 1, .int 20]) (pc' := 57) (L' := [some (.ref 74)]) (st' := []) (w1 := Wd f fl g gl hh v tx) rfl ⟨Nat.le_of_ble_eq_true rfl, Nat.le_of_ble_eq_true rfl⟩ rfl ?_
    exact h3

set_option maxRecDepth 20000 in
theorem b_m_readOrder_32 (X : mm_X) (d : Nat) (f : Nat → Int32) (fl : Nat → Int64) (g : Nat → Nat → Int32) (gl : Nat → Nat → Int64) (hh : Nat → Nat → Option Nat) (v : Nat → Value) (tx : mm_W) (s0 : Int32)  (P : Option Value → mm_W → Prop)
    (h : ((¬ s0 = 0) → WP X (d) 157 (0, [some (.ref 74), some (.int 24), none], [], Wd f fl g gl hh v tx) (fun rv w2 => WP X (d + 1) 163 (47, [some (.ref 74)], rv.toList ++ [], w2) P)) ∧
    ((s0 = 0) → WP X (d) 158 (0, [some (.ref 74), some (.int 23)], [], Wd f fl g gl hh v tx) (fun rv w2 => WP X (d + 1) 163 (41, [some (.ref 74)], rv.toList ++ [], w2) P))) :
    WP X (d + 1) 163 (32, [some (.ref 74)], [.int s0], Wd f fl g gl hh v tx) P := by
  refine WP.br hP_163 (q := ¬ s0 = 0) (t := 41) (f := 35) (L := [some (.ref 74)]) (st := []) (w := Wd f fl g gl hh v tx) rfl (fun c1 => ?_) (fun c1 => ?_)
  · have h2 := h.1 c1
    refine WP.run hP_163 2 (c' := (44, [some (.ref 74)], [.int 24, .ref 74], Wd f fl g gl hh v tx)) rfl ?_
    refine WP.call hP_163 hP_157 (as := [.ref 74, .int 24]) (pc' := 47) (L' := [some (.ref 74)]) (st' := []) (w1 := Wd f fl g gl hh v tx) rfl ⟨Nat.le_of_ble_eq_true rfl, Nat.le_of_ble_eq_true rfl⟩ rfl ?_
    exact h2
  · have h3 := h.2 (Classical.not_not.mp c1)
    refine WP.run hP_163 2 (c' := (38, [some (.ref 74)], [.int 23, .ref 74], Wd f fl g gl hh v tx)) rfl ?_
    refine WP.call hP_163 hP_158 (as := [.ref 74, .int 23]) (pc' := 41) (L' := [some (.ref 74)]) (st' := []) (w1 := Wd f fl g gl hh v tx) rfl ⟨Nat.le_of_ble_eq_true rfl, Nat.le_of_ble_eq_true rfl⟩ rfl ?_
    exact h3

set_option maxRecDepth 20000 in
theorem b_m_readOrder_62 (X : mm_X) (d : Nat) (f : Nat → Int32) (fl : Nat → Int64) (g : Nat → Nat → Int32) (gl : Nat → Nat → Int64) (hh : Nat → Nat → Option Nat) (v : Nat → Value) (tx : mm_W) (s0 : Int32)  (P : Option Value → mm_W → Prop)
    (h : ((s0 = 0) → P none (Wd f fl g gl hh v tx)) ∧
    ((¬ s0 = 0) → WP X (d) 165 (0, [some (.ref 74), some (.int 0)], [], Wd f fl g gl hh v tx) (fun rv w2 => WP X (d + 1) 163 (70, [none], rv.toList ++ [], w2) P))) :
    WP X (d + 1) 163 (62, [some (.ref 74)], [.int s0], Wd f fl g gl hh v tx) P := by
  refine WP.br hP_163 (q := s0 = 0) (t := 70) (f := 65) (L := [some (.ref 74)]) (st := []) (w := Wd f fl g gl hh v tx) rfl (fun c1 => ?_) (fun c1 => ?_)
  · have h2 := h.1 c1
    exact WP.ret hP_163 (r := none) (w' := Wd f fl g gl hh v tx) rfl h2
  · have h3 := h.2 c1
    refine WP.run hP_163 2 (c' := (67, [some (.ref 74)], [.int 0, .ref 74], Wd f fl g gl hh v tx)) rfl ?_
    refine WP.call hP_163 hP_165 (as := [.ref 74, .int 0]) (pc' := 70) (L' := [some (.ref 74)]) (st' := []) (w1 := Wd f fl g gl hh v tx) rfl ⟨Nat.le_of_ble_eq_true rfl, Nat.le_of_ble_eq_true rfl⟩ rfl ?_
    refine WP.mono h3 (fun _ _ hq => ?_)
    exact WP.clr hP_163 (pc := 70) rfl hq

set_option maxRecDepth 20000 in
theorem b_m_readOrder_57 (X : mm_X) (d : Nat) (f : Nat → Int32) (fl : Nat → Int64) (g : Nat → Nat → Int32) (gl : Nat → Nat → Int64) (hh : Nat → Nat → Option Nat) (v : Nat → Value) (tx : mm_W)   (P : Option Value → mm_W → Prop)
    (h : WP X (d) 157 (0, [some (.ref 74), some (.int 4), none], [], Wd f fl g gl hh v tx) (fun rv w2 => WP X (d + 1) 163 (62, [some (.ref 74)], rv.toList ++ [], w2) P)) :
    WP X (d + 1) 163 (57, [some (.ref 74)], [], Wd f fl g gl hh v tx) P := by
  refine WP.run hP_163 2 (c' := (59, [some (.ref 74)], [.int 4, .ref 74], Wd f fl g gl hh v tx)) rfl ?_
  refine WP.call hP_163 hP_157 (as := [.ref 74, .int 4]) (pc' := 62) (L' := [some (.ref 74)]) (st' := []) (w1 := Wd f fl g gl hh v tx) rfl ⟨Nat.le_of_ble_eq_true rfl, Nat.le_of_ble_eq_true rfl⟩ rfl ?_
  exact h

set_option maxRecDepth 20000 in
theorem b_m_readOrder_41 (X : mm_X) (d : Nat) (f : Nat → Int32) (fl : Nat → Int64) (g : Nat → Nat → Int32) (gl : Nat → Nat → Int64) (hh : Nat → Nat → Option Nat) (v : Nat → Value) (tx : mm_W)   (P : Option Value → mm_W → Prop)
    (h : WP X (d) 157 (0, [some (.ref 74), some (.int 24), none], [], Wd f fl g gl hh v tx) (fun rv w2 => WP X (d + 1) 163 (47, [some (.ref 74)], rv.toList ++ [], w2) P)) :
    WP X (d + 1) 163 (41, [some (.ref 74)], [], Wd f fl g gl hh v tx) P := by
  refine WP.run hP_163 2 (c' := (44, [some (.ref 74)], [.int 24, .ref 74], Wd f fl g gl hh v tx)) rfl ?_
  refine WP.call hP_163 hP_157 (as := [.ref 74, .int 24]) (pc' := 47) (L' := [some (.ref 74)]) (st' := []) (w1 := Wd f fl g gl hh v tx) rfl ⟨Nat.le_of_ble_eq_true rfl, Nat.le_of_ble_eq_true rfl⟩ rfl ?_
  exact h

set_option maxRecDepth 20000 in
theorem b_m_readOrder_70 (X : mm_X) (d : Nat) (f : Nat → Int32) (fl : Nat → Int64) (g : Nat → Nat → Int32) (gl : Nat → Nat → Int64) (hh : Nat → Nat → Option Nat) (v : Nat → Value) (tx : mm_W)   (P : Option Value → mm_W → Prop)
    (h : P none (Wd f fl g gl hh v tx)) :
    WP X (d) 163 (70, [none], [], Wd f fl g gl hh v tx) P := by
  exact WP.ret hP_163 (r := none) (w' := Wd f fl g gl hh v tx) rfl h

set_option maxRecDepth 20000 in
theorem b_m_readOne_0 (X : mm_X) (d : Nat) (f : Nat → Int32) (fl : Nat → Int64) (g : Nat → Nat → Int32) (gl : Nat → Nat → Int64) (hh : Nat → Nat → Option Nat) (v : Nat → Value) (tx : mm_W)   (P : Option Value → mm_W → Prop)
    (h : (((f 4746) = 0) → WP X (d) 162 (0, [some (.ref 74)], [], Wd f fl g gl hh v tx) (fun rv w2 => WP X (d + 1) 164 (18, [none], rv.toList ++ [], w2) P)) ∧
    ((¬ (f 4746) = 0) → WP X (d) 163 (0, [some (.ref 74)], [], Wd f fl g gl hh v tx) (fun rv w2 => WP X (d + 1) 164 (11, [some (.ref 74)], rv.toList ++ [], w2) P))) :
    WP X (d + 1) 164 (0, [some (.ref 74)], [], Wd f fl g gl hh v tx) P := by
  refine WP.run hP_164 2 (c' := (4, [some (.ref 74)], [.int (f 4746)], Wd f fl g gl hh v tx)) rfl ?_
  refine WP.br hP_164 (q := (f 4746) = 0) (t := 14) (f := 7) (L := [some (.ref 74)]) (st := []) (w := Wd f fl g gl hh v tx) rfl (fun c1 => ?_) (fun c1 => ?_)
  · have h2 := h.1 c1
    refine WP.run hP_164 1 (c' := (15, [some (.ref 74)], [.ref 74], Wd f fl g gl hh v tx)) rfl ?_
    refine WP.call hP_164 hP_162 (as := [.ref 74]) (pc' := 18) (L' := [some (.ref 74)]) (st' := []) (w1 := Wd f fl g gl hh v tx) rfl ⟨Nat.le_of_ble_eq_true rfl, Nat.le_of_ble_eq_true rfl⟩ rfl ?_
    refine WP.mono h2 (fun _ _ hq => ?_)
    exact WP.clr hP_164 (pc := 18) rfl hq
  · have h3 := h.2 c1
    refine WP.run hP_164 1 (c' := (8, [some (.ref 74)], [.ref 74], Wd f fl g gl hh v tx)) rfl ?_
    refine WP.call hP_164 hP_163 (as := [.ref 74]) (pc' := 11) (L' := [some (.ref 74)]) (st' := []) (w1 := Wd f fl g gl hh v tx) rfl ⟨Nat.le_of_ble_eq_true rfl, Nat.le_of_ble_eq_true rfl⟩ rfl ?_
    exact h3

set_option maxRecDepth 20000 in
theorem b_m_readOne_18 (X : mm_X) (d : Nat) (f : Nat → Int32) (fl : Nat → Int64) (g : Nat → Nat → Int32) (gl : Nat → Nat → Int64) (hh : Nat → Nat → Option Nat) (v : Nat → Value) (tx : mm_W)   (P : Option Value → mm_W → Prop)
    (h : P none (Wd f fl g gl hh v tx)) :
    WP X (d) 164 (18, [none], [], Wd f fl g gl hh v tx) P := by
  exact WP.ret hP_164 (r := none) (w' := Wd f fl g gl hh v tx) rfl h

set_option maxRecDepth 20000 in
theorem b_m_readOne_11 (X : mm_X) (d : Nat) (f : Nat → Int32) (fl : Nat → Int64) (g : Nat → Nat → Int32) (gl : Nat → Nat → Int64) (hh : Nat → Nat → Option Nat) (v : Nat → Value) (tx : mm_W)   (P : Option Value → mm_W → Prop)
    (h : P none (Wd f fl g gl hh v tx)) :
    WP X (d) 164 (11, [some (.ref 74)], [], Wd f fl g gl hh v tx) P := by
  refine WP.run hP_164 1 (c' := (18, [some (.ref 74)], [], Wd f fl g gl hh v tx)) rfl ?_
  exact WP.ret hP_164 (r := none) (w' := Wd f fl g gl hh v tx) rfl h

set_option maxRecDepth 20000 in
theorem b_m_readsText_0 (X : mm_X) (d : Nat) (f : Nat → Int32) (fl : Nat → Int64) (g : Nat → Nat → Int32) (gl : Nat → Nat → Int64) (hh : Nat → Nat → Option Nat) (v : Nat → Value) (tx : mm_W)   (P : Option Value → mm_W → Prop)
    (h : WP X (d) 154 (0, [some (.ref 74), some (.int (f 4749)), none, none, none, none], [], Wd f fl g gl hh v tx) (fun rv w2 => WP X (d + 1) 171 (8, [some (.ref 74), none], rv.toList ++ [], w2) P)) :
    WP X (d + 1) 171 (0, [some (.ref 74), none], [], Wd f fl g gl hh v tx) P := by
  refine WP.run hP_171 3 (c' := (5, [some (.ref 74), none], [.int (f 4749), .ref 74], Wd f fl g gl hh v tx)) rfl ?_
  refine WP.call hP_171 hP_154 (as := [.ref 74, .int (f 4749)]) (pc' := 8) (L' := [some (.ref 74), none]) (st' := []) (w1 := Wd f fl g gl hh v tx) rfl ⟨Nat.le_of_ble_eq_true rfl, Nat.le_of_ble_eq_true rfl⟩ rfl ?_
  exact h

set_option maxRecDepth 20000 in
theorem b_m_readsText_8 (X : mm_X) (d : Nat) (f : Nat → Int32) (fl : Nat → Int64) (g : Nat → Nat → Int32) (gl : Nat → Nat → Int64) (hh : Nat → Nat → Option Nat) (v : Nat → Value) (tx : mm_W)   (P : Option Value → mm_W → Prop)
    (h : WP X (d) 164 (0, [some (.ref 74)], [], Wd (va_up (va_up (va_up (va_up f 4749 0) 4755 0) 4756 0) 4757 (-1)) fl g gl hh v tx) (fun rv w2 => WP X (d + 1) 171 (32, [some (.ref 74), none], rv.toList ++ [], w2) P)) :
    WP X (d + 1) 171 (8, [some (.ref 74), none], [], Wd f fl g gl hh v tx) P := by
  refine WP.run hP_171 13 (c' := (29, [some (.ref 74), none], [.ref 74], Wd (va_up (va_up (va_up (va_up f 4749 0) 4755 0) 4756 0) 4757 (-1)) fl g gl hh v tx)) rfl ?_
  refine WP.call hP_171 hP_164 (as := [.ref 74]) (pc' := 32) (L' := [some (.ref 74), none]) (st' := []) (w1 := Wd (va_up (va_up (va_up (va_up f 4749 0) 4755 0) 4756 0) 4757 (-1)) fl g gl hh v tx) rfl ⟨Nat.le_of_ble_eq_true rfl, Nat.le_of_ble_eq_true rfl⟩ rfl ?_
  exact h

set_option maxRecDepth 20000 in
theorem b_m_readsText_32 (X : mm_X) (d : Nat) (f : Nat → Int32) (fl : Nat → Int64) (g : Nat → Nat → Int32) (gl : Nat → Nat → Int64) (hh : Nat → Nat → Option Nat) (v : Nat → Value) (tx : mm_W)   (P : Option Value → mm_W → Prop)
    (h : WP X (d) 171 (34, [some (.ref 74), some (.int 1)], [], Wd f fl g gl hh v tx) P) :
    WP X (d) 171 (32, [some (.ref 74), none], [], Wd f fl g gl hh v tx) P := by
  refine WP.run hP_171 2 (c' := (34, [some (.ref 74), some (.int 1)], [], Wd f fl g gl hh v tx)) rfl ?_
  exact h

set_option maxRecDepth 20000 in
theorem b_m_readsText_34 (X : mm_X) (d : Nat) (f : Nat → Int32) (fl : Nat → Int64) (g : Nat → Nat → Int32) (gl : Nat → Nat → Int64) (hh : Nat → Nat → Option Nat) (v : Nat → Value) (tx : mm_W) (l1 : Int32)  (P : Option Value → mm_W → Prop)
    (h : WP X (d) 157 (0, [some (.ref 74), some (.int 159), none], [], Wd f fl g gl hh v tx) (fun rv w2 => WP X (d + 1) 171 (43, [some (.ref 74), some (.int l1)], rv.toList ++ [], w2) P)) :
    WP X (d + 1) 171 (34, [some (.ref 74), some (.int l1)], [], Wd f fl g gl hh v tx) P := by
  refine WP.run hP_171 2 (c' := (37, [some (.ref 74), some (.int l1)], [.int 59, .ref 74], Wd f fl g gl hh v tx)) rfl ?_
  refine WP.call hP_171 hP_160 (as := [.int 59]) (pc' := 40) (L' := [some (.ref 74), some (.int l1)]) (st' := [.ref 74]) (w1 := Wd f fl g gl hh v tx) rfl ⟨Nat.le_of_ble_eq_true rfl, Nat.le_of_ble_eq_true rfl⟩ rfl (b_m_glyph_0 X (d) f fl g gl hh v tx 59 _ ?_)
  refine WP.call hP_171 hP_157 (as := [.ref 74, .int 159]) (pc' := 43) (L' := [some (.ref 74), some (.int l1)]) (st' := []) (w1 := Wd f fl g gl hh v tx) rfl ⟨Nat.le_of_ble_eq_true rfl, Nat.le_of_ble_eq_true rfl⟩ rfl ?_
  exact h

set_option maxRecDepth 20000 in
theorem b_m_readsText_43 (X : mm_X) (d : Nat) (f : Nat → Int32) (fl : Nat → Int64) (g : Nat → Nat → Int32) (gl : Nat → Nat → Int64) (hh : Nat → Nat → Option Nat) (v : Nat → Value) (tx : mm_W) (l1 : Int32) (s0 : Int32)  (P : Option Value → mm_W → Prop)
    (h : ((s0 = 0) → (((¬ (f 4757) = (-1)) → (((¬ (f 4757) = (-1)) → P (some (.int 0)) (Wd (va_up f 4750 (f 4757)) fl g gl hh v tx)) ∧
        (((f 4757) = (-1)) → P (some (.int 1)) (Wd (va_up f 4750 (f 4757)) fl g gl hh v tx)))) ∧
      (((f 4757) = (-1)) → ((((f 4754) ≤ (f 4755)) → (((¬ (f 4757) = (-1)) → P (some (.int 0)) (Wd (va_up f 4750 (f 4757)) fl g gl hh v tx)) ∧
          (((f 4757) = (-1)) → P (some (.int 1)) (Wd (va_up f 4750 (f 4757)) fl g gl hh v tx)))) ∧
        ((¬ ((f 4754) ≤ (f 4755))) → (((¬ (f 4757) = (-1)) → (((¬ (f 4757) = (-1)) → P (some (.int 0)) (Wd (va_up f 4750 (f 4757)) fl g gl hh v tx)) ∧
            (((f 4757) = (-1)) → P (some (.int 1)) (Wd (va_up f 4750 (f 4757)) fl g gl hh v tx)))) ∧
          (((f 4757) = (-1)) → ((¬ ((f 4755) < 0 ∨ 401 ≤ (f 4755).toNatClampNeg)) ∧ (((¬ ((g 85) (f 4755).toNatClampNeg) = (-1)) → P (some (.int 0)) (Wd (va_up (va_up f 4757 ((g 85) (f 4755).toNatClampNeg)) 4750 ((g 85) (f 4755).toNatClampNeg)) fl g gl hh v tx)) ∧
            ((((g 85) (f 4755).toNatClampNeg) = (-1)) → P (some (.int 1)) (Wd (va_up (va_up f 4757 ((g 85) (f 4755).toNatClampNeg)) 4750 ((g 85) (f 4755).toNatClampNeg)) fl g gl hh v tx))))))))))) ∧
    ((¬ s0 = 0) → (((¬ l1 = 12) → WP X (d + 2) 171 (56, [some (.ref 74), some (.int l1)], [], Wd f fl g gl hh v tx) P) ∧
      ((l1 = 12) → (((¬ (f 4757) = (-1)) → WP X (d + 2) 171 (56, [some (.ref 74), some (.int l1)], [], Wd f fl g gl hh v tx) P) ∧
        (((f 4757) = (-1)) → ((¬ ((f 4755) < 0 ∨ 401 ≤ (f 4755).toNatClampNeg)) ∧ WP X (d + 2) 171 (56, [some (.ref 74), some (.int l1)], [], Wd (va_up f 4757 ((g 85) (f 4755).toNatClampNeg)) fl g gl hh v tx) P))))))) :
    WP X (d + 2) 171 (43, [some (.ref 74), some (.int l1)], [.int s0], Wd f fl g gl hh v tx) P := by
  refine WP.br hP_171 (q := s0 = 0) (t := 73) (f := 46) (L := [some (.ref 74), some (.int l1)]) (st := []) (w := Wd f fl g gl hh v tx) rfl (fun c1 => ?_) (fun c1 => ?_)
  · have h2 := h.1 c1
    refine WP.run hP_171 1 (c' := (74, [some (.ref 74), none], [.ref 74], Wd f fl g gl hh v tx)) rfl ?_
    refine WP.call hP_171 hP_155 (as := [.ref 74]) (pc' := 77) (L' := [some (.ref 74), none]) (st' := []) (w1 := Wd f fl g gl hh v tx) rfl ⟨Nat.le_of_ble_eq_true rfl, Nat.le_of_ble_eq_true rfl⟩ rfl (b_m_fine_0 X (d + 1) f fl g gl hh v tx  _ ?_)
    refine ⟨fun c3 => ?_, fun c3 => ?_⟩
    · have h4 := h2.1 c3
      refine WP.run hP_171 6 (c' := (104, [some (.ref 74), none], [.ref 74], Wd (va_up f 4750 (f 4757)) fl g gl hh v tx)) rfl ?_
      refine WP.call hP_171 hP_155 (as := [.ref 74]) (pc' := 107) (L' := [some (.ref 74), none]) (st' := []) (w1 := Wd (va_up f 4750 (f 4757)) fl g gl hh v tx) rfl ⟨Nat.le_of_ble_eq_true rfl, Nat.le_of_ble_eq_true rfl⟩ rfl (b_m_fine_0 X (d + 1) (va_up f 4750 (f 4757)) fl g gl hh v tx  _ ?_)
      refine ⟨fun c5 => ?_, fun c5 => ?_⟩
      · have h6 := h4.1 c5
        exact WP.ret hP_171 (r := some (.int 0)) (w' := Wd (va_up f 4750 (f 4757)) fl g gl hh v tx) rfl h6
      · have h7 := h4.2 c5
        exact WP.ret hP_171 (r := some (.int 1)) (w' := Wd (va_up f 4750 (f 4757)) fl g gl hh v tx) rfl h7
    · have h8 := h2.2 c3
      refine WP.run hP_171 5 (c' := (88, [some (.ref 74), none], [.int (f 4754), .int (f 4755)], Wd f fl g gl hh v tx)) rfl ?_
      refine WP.br hP_171 (q := (f 4754) ≤ (f 4755)) (t := 95) (f := 91) (L := [some (.ref 74), none]) (st := []) (w := Wd f fl g gl hh v tx) rfl (fun c9 => ?_) (fun c9 => ?_)
      · have h10 := h8.1 c9
        refine WP.run hP_171 5 (c' := (104, [some (.ref 74), none], [.ref 74], Wd (va_up f 4750 (f 4757)) fl g gl hh v tx)) rfl ?_
        refine WP.call hP_171 hP_155 (as := [.ref 74]) (pc' := 107) (L' := [some (.ref 74), none]) (st' := []) (w1 := Wd (va_up f 4750 (f 4757)) fl g gl hh v tx) rfl ⟨Nat.le_of_ble_eq_true rfl, Nat.le_of_ble_eq_true rfl⟩ rfl (b_m_fine_0 X (d + 1) (va_up f 4750 (f 4757)) fl g gl hh v tx  _ ?_)
        refine ⟨fun c11 => ?_, fun c11 => ?_⟩
        · have h12 := h10.1 c11
          exact WP.ret hP_171 (r := some (.int 0)) (w' := Wd (va_up f 4750 (f 4757)) fl g gl hh v tx) rfl h12
        · have h13 := h10.2 c11
          exact WP.ret hP_171 (r := some (.int 1)) (w' := Wd (va_up f 4750 (f 4757)) fl g gl hh v tx) rfl h13
      · have h14 := h8.2 c9
        refine WP.run hP_171 1 (c' := (92, [some (.ref 74), none], [.ref 74], Wd f fl g gl hh v tx)) rfl ?_
        refine WP.call hP_171 hP_156 (as := [.ref 74]) (pc' := 95) (L' := [some (.ref 74), none]) (st' := []) (w1 := Wd f fl g gl hh v tx) rfl ⟨Nat.le_of_ble_eq_true rfl, Nat.le_of_ble_eq_true rfl⟩ rfl (b_m_faults_0 X (d) f fl g gl hh v tx  _ ?_)
        refine ⟨fun c15 => ?_, fun c15 => ?_⟩
        · have h16 := h14.1 c15
          refine WP.run hP_171 5 (c' := (104, [some (.ref 74), none], [.ref 74], Wd (va_up f 4750 (f 4757)) fl g gl hh v tx)) rfl ?_
          refine WP.call hP_171 hP_155 (as := [.ref 74]) (pc' := 107) (L' := [some (.ref 74), none]) (st' := []) (w1 := Wd (va_up f 4750 (f 4757)) fl g gl hh v tx) rfl ⟨Nat.le_of_ble_eq_true rfl, Nat.le_of_ble_eq_true rfl⟩ rfl (b_m_fine_0 X (d + 1) (va_up f 4750 (f 4757)) fl g gl hh v tx  _ ?_)
          refine ⟨fun c17 => ?_, fun c17 => ?_⟩
          · have h18 := h16.1 c17
            exact WP.ret hP_171 (r := some (.int 0)) (w' := Wd (va_up f 4750 (f 4757)) fl g gl hh v tx) rfl h18
          · have h19 := h16.2 c17
            exact WP.ret hP_171 (r := some (.int 1)) (w' := Wd (va_up f 4750 (f 4757)) fl g gl hh v tx) rfl h19
        · have h20 := h14.2 c15
          refine ⟨h20.1, ?_⟩
          have h21 := h20.2
          refine WP.run hP_171 5 (c' := (104, [some (.ref 74), none], [.ref 74], Wd (va_up (va_up f 4757 ((g 85) (f 4755).toNatClampNeg)) 4750 ((g 85) (f 4755).toNatClampNeg)) fl g gl hh v tx)) rfl ?_
          refine WP.call hP_171 hP_155 (as := [.ref 74]) (pc' := 107) (L' := [some (.ref 74), none]) (st' := []) (w1 := Wd (va_up (va_up f 4757 ((g 85) (f 4755).toNatClampNeg)) 4750 ((g 85) (f 4755).toNatClampNeg)) fl g gl hh v tx) rfl ⟨Nat.le_of_ble_eq_true rfl, Nat.le_of_ble_eq_true rfl⟩ rfl (b_m_fine_0 X (d + 1) (va_up (va_up f 4757 ((g 85) (f 4755).toNatClampNeg)) 4750 ((g 85) (f 4755).toNatClampNeg)) fl g gl hh v tx  _ ?_)
          refine ⟨fun c22 => ?_, fun c22 => ?_⟩
          · have h23 := h21.1 c22
            exact WP.ret hP_171 (r := some (.int 0)) (w' := Wd (va_up (va_up f 4757 ((g 85) (f 4755).toNatClampNeg)) 4750 ((g 85) (f 4755).toNatClampNeg)) fl g gl hh v tx) rfl h23
          · have h24 := h21.2 c22
            exact WP.ret hP_171 (r := some (.int 1)) (w' := Wd (va_up (va_up f 4757 ((g 85) (f 4755).toNatClampNeg)) 4750 ((g 85) (f 4755).toNatClampNeg)) fl g gl hh v tx) rfl h24
  · have h25 := h.2 c1
    refine WP.run hP_171 2 (c' := (49, [some (.ref 74), some (.int l1)], [.int 12, .int l1], Wd f fl g gl hh v tx)) rfl ?_
    refine WP.br hP_171 (q := ¬ l1 = 12) (t := 56) (f := 52) (L := [some (.ref 74), some (.int l1)]) (st := []) (w := Wd f fl g gl hh v tx) rfl (fun c26 => ?_) (fun c26 => ?_)
    · have h27 := h25.1 c26
      exact h27
    · have h28 := h25.2 (Classical.not_not.mp c26)
      refine WP.run hP_171 1 (c' := (53, [some (.ref 74), some (.int l1)], [.ref 74], Wd f fl g gl hh v tx)) rfl ?_
      refine WP.call hP_171 hP_156 (as := [.ref 74]) (pc' := 56) (L' := [some (.ref 74), some (.int l1)]) (st' := []) (w1 := Wd f fl g gl hh v tx) rfl ⟨Nat.le_of_ble_eq_true rfl, Nat.le_of_ble_eq_true rfl⟩ rfl (b_m_faults_0 X (d) f fl g gl hh v tx  _ ?_)
      refine ⟨fun c29 => ?_, fun c29 => ?_⟩
      · have h30 := h28.1 c29
        exact h30
      · have h31 := h28.2 c29
        refine ⟨h31.1, ?_⟩
        have h32 := h31.2
        exact h32

set_option maxRecDepth 20000 in
theorem b_m_readsText_56 (X : mm_X) (d : Nat) (f : Nat → Int32) (fl : Nat → Int64) (g : Nat → Nat → Int32) (gl : Nat → Nat → Int64) (hh : Nat → Nat → Option Nat) (v : Nat → Value) (tx : mm_W) (l1 : Int32)  (P : Option Value → mm_W → Prop)
    (h : ((¬ (f 4757) = (-1)) → WP X (d + 1) 171 (34, [some (.ref 74), some (.int (l1 + (1 : Int32)))], [], Wd f fl g gl hh v tx) P) ∧
    (((f 4757) = (-1)) → WP X (d) 164 (0, [some (.ref 74)], [], Wd f fl g gl hh v tx) (fun rv w2 => WP X (d + 1) 171 (67, [some (.ref 74), some (.int l1)], rv.toList ++ [], w2) P))) :
    WP X (d + 1) 171 (56, [some (.ref 74), some (.int l1)], [], Wd f fl g gl hh v tx) P := by
  refine WP.run hP_171 1 (c' := (57, [some (.ref 74), some (.int l1)], [.ref 74], Wd f fl g gl hh v tx)) rfl ?_
  refine WP.call hP_171 hP_155 (as := [.ref 74]) (pc' := 60) (L' := [some (.ref 74), some (.int l1)]) (st' := []) (w1 := Wd f fl g gl hh v tx) rfl ⟨Nat.le_of_ble_eq_true rfl, Nat.le_of_ble_eq_true rfl⟩ rfl (b_m_fine_0 X (d) f fl g gl hh v tx  _ ?_)
  refine ⟨fun c1 => ?_, fun c1 => ?_⟩
  · have h2 := h.1 c1
    refine WP.run hP_171 3 (c' := (34, [some (.ref 74), some (.int (l1 + (1 : Int32)))], [], Wd f fl g gl hh v tx)) rfl ?_
    exact h2
  · have h3 := h.2 c1
    refine WP.run hP_171 2 (c' := (64, [some (.ref 74), some (.int l1)], [.ref 74], Wd f fl g gl hh v tx)) rfl ?_
    refine WP.call hP_171 hP_164 (as := [.ref 74]) (pc' := 67) (L' := [some (.ref 74), some (.int l1)]) (st' := []) (w1 := Wd f fl g gl hh v tx) rfl ⟨Nat.le_of_ble_eq_true rfl, Nat.le_of_ble_eq_true rfl⟩ rfl ?_
    exact h3

set_option maxRecDepth 20000 in
theorem b_m_readsText_67 (X : mm_X) (d : Nat) (f : Nat → Int32) (fl : Nat → Int64) (g : Nat → Nat → Int32) (gl : Nat → Nat → Int64) (hh : Nat → Nat → Option Nat) (v : Nat → Value) (tx : mm_W) (l1 : Int32)  (P : Option Value → mm_W → Prop)
    (h : WP X (d) 171 (34, [some (.ref 74), some (.int (l1 + (1 : Int32)))], [], Wd f fl g gl hh v tx) P) :
    WP X (d) 171 (67, [some (.ref 74), some (.int l1)], [], Wd f fl g gl hh v tx) P := by
  refine WP.run hP_171 2 (c' := (34, [some (.ref 74), some (.int (l1 + (1 : Int32)))], [], Wd f fl g gl hh v tx)) rfl ?_
  exact h

set_option maxRecDepth 20000 in
theorem b_m_readsAs_0 (X : mm_X) (d : Nat) (f : Nat → Int32) (fl : Nat → Int64) (g : Nat → Nat → Int32) (gl : Nat → Nat → Int64) (hh : Nat → Nat → Option Nat) (v : Nat → Value) (tx : mm_W) (p0 : Int32)  (P : Option Value → mm_W → Prop)
    (h : (p0 = 0 ∨ p0 = 1) ∧ (((p0 = 0) → (((p0 = 0) → WP X (d) 171 (0, [some (.ref 74), none], [], Wd (va_up (va_up (va_up f 4746 p0) 4744 8) 4745 15) fl g gl hh v tx) (fun rv w2 => WP X (d + 1) 172 (39, [some (.ref 74), none], rv.toList ++ [], w2) P)) ∧
      ((¬ p0 = 0) → WP X (d) 171 (0, [some (.ref 74), none], [], Wd (va_up (va_up (va_up f 4746 p0) 4744 8) 4745 19) fl g gl hh v tx) (fun rv w2 => WP X (d + 1) 172 (39, [some (.ref 74), none], rv.toList ++ [], w2) P)))) ∧
    ((¬ p0 = 0) → (((p0 = 0) → WP X (d) 171 (0, [some (.ref 74), none], [], Wd (va_up (va_up (va_up f 4746 p0) 4744 13) 4745 15) fl g gl hh v tx) (fun rv w2 => WP X (d + 1) 172 (39, [some (.ref 74), none], rv.toList ++ [], w2) P)) ∧
      ((¬ p0 = 0) → WP X (d) 171 (0, [some (.ref 74), none], [], Wd (va_up (va_up (va_up f 4746 p0) 4744 13) 4745 19) fl g gl hh v tx) (fun rv w2 => WP X (d + 1) 172 (39, [some (.ref 74), none], rv.toList ++ [], w2) P)))))) :
    WP X (d + 1) 172 (0, [some (.ref 74), some (.int p0)], [], Wd f fl g gl hh v tx) P := by
  refine WP.run hP_172 2 (c' := (2, [some (.ref 74), some (.int p0)], [.int p0, .ref 74], Wd f fl g gl hh v tx)) rfl ?_
  refine WP.of (fun _ _ => Ex.putZ hP_172 (w2 := Wd (va_up f 4746 p0) fl g gl hh v tx) rfl rfl rfl (Nat.le_of_ble_eq_true rfl) rfl h.1 rfl) ?_
  have h1 := h.2
  refine WP.run hP_172 2 (c' := (7, [some (.ref 74), some (.int p0)], [.int p0, .ref 74], Wd (va_up f 4746 p0) fl g gl hh v tx)) rfl ?_
  refine WP.br hP_172 (q := p0 = 0) (t := 15) (f := 10) (L := [some (.ref 74), some (.int p0)]) (st := [.ref 74]) (w := Wd (va_up f 4746 p0) fl g gl hh v tx) rfl (fun c2 => ?_) (fun c2 => ?_)
  · have h3 := h1.1 c2
    refine WP.run hP_172 4 (c' := (22, [some (.ref 74), some (.int p0)], [.int p0, .ref 74], Wd (va_up (va_up f 4746 p0) 4744 8) fl g gl hh v tx)) rfl ?_
    refine WP.br hP_172 (q := p0 = 0) (t := 30) (f := 25) (L := [some (.ref 74), some (.int p0)]) (st := [.ref 74]) (w := Wd (va_up (va_up f 4746 p0) 4744 8) fl g gl hh v tx) rfl (fun c4 => ?_) (fun c4 => ?_)
    · have h5 := h3.1 c4
      refine WP.run hP_172 1 (c' := (32, [some (.ref 74), none], [.int 15, .ref 74], Wd (va_up (va_up f 4746 p0) 4744 8) fl g gl hh v tx)) rfl ?_
      refine WP.run hP_172 2 (c' := (36, [some (.ref 74), none], [.ref 74], Wd (va_up (va_up (va_up f 4746 p0) 4744 8) 4745 15) fl g gl hh v tx)) rfl ?_
      refine WP.call hP_172 hP_171 (as := [.ref 74]) (pc' := 39) (L' := [some (.ref 74), none]) (st' := []) (w1 := Wd (va_up (va_up (va_up f 4746 p0) 4744 8) 4745 15) fl g gl hh v tx) rfl ⟨Nat.le_of_ble_eq_true rfl, Nat.le_of_ble_eq_true rfl⟩ rfl ?_
      exact h5
    · have h6 := h3.2 c4
      refine WP.run hP_172 4 (c' := (36, [some (.ref 74), none], [.ref 74], Wd (va_up (va_up (va_up f 4746 p0) 4744 8) 4745 19) fl g gl hh v tx)) rfl ?_
      refine WP.call hP_172 hP_171 (as := [.ref 74]) (pc' := 39) (L' := [some (.ref 74), none]) (st' := []) (w1 := Wd (va_up (va_up (va_up f 4746 p0) 4744 8) 4745 19) fl g gl hh v tx) rfl ⟨Nat.le_of_ble_eq_true rfl, Nat.le_of_ble_eq_true rfl⟩ rfl ?_
      exact h6
  · have h7 := h1.2 c2
    refine WP.run hP_172 5 (c' := (22, [some (.ref 74), some (.int p0)], [.int p0, .ref 74], Wd (va_up (va_up f 4746 p0) 4744 13) fl g gl hh v tx)) rfl ?_
    refine WP.br hP_172 (q := p0 = 0) (t := 30) (f := 25) (L := [some (.ref 74), some (.int p0)]) (st := [.ref 74]) (w := Wd (va_up (va_up f 4746 p0) 4744 13) fl g gl hh v tx) rfl (fun c8 => ?_) (fun c8 => ?_)
    · have h9 := h7.1 c8
      refine WP.run hP_172 1 (c' := (32, [some (.ref 74), none], [.int 15, .ref 74], Wd (va_up (va_up f 4746 p0) 4744 13) fl g gl hh v tx)) rfl ?_
      refine WP.run hP_172 2 (c' := (36, [some (.ref 74), none], [.ref 74], Wd (va_up (va_up (va_up f 4746 p0) 4744 13) 4745 15) fl g gl hh v tx)) rfl ?_
      refine WP.call hP_172 hP_171 (as := [.ref 74]) (pc' := 39) (L' := [some (.ref 74), none]) (st' := []) (w1 := Wd (va_up (va_up (va_up f 4746 p0) 4744 13) 4745 15) fl g gl hh v tx) rfl ⟨Nat.le_of_ble_eq_true rfl, Nat.le_of_ble_eq_true rfl⟩ rfl ?_
      exact h9
    · have h10 := h7.2 c8
      refine WP.run hP_172 4 (c' := (36, [some (.ref 74), none], [.ref 74], Wd (va_up (va_up (va_up f 4746 p0) 4744 13) 4745 19) fl g gl hh v tx)) rfl ?_
      refine WP.call hP_172 hP_171 (as := [.ref 74]) (pc' := 39) (L' := [some (.ref 74), none]) (st' := []) (w1 := Wd (va_up (va_up (va_up f 4746 p0) 4744 13) 4745 19) fl g gl hh v tx) rfl ⟨Nat.le_of_ble_eq_true rfl, Nat.le_of_ble_eq_true rfl⟩ rfl ?_
      exact h10

set_option maxRecDepth 20000 in
theorem b_m_readsAs_39 (X : mm_X) (d : Nat) (f : Nat → Int32) (fl : Nat → Int64) (g : Nat → Nat → Int32) (gl : Nat → Nat → Int64) (hh : Nat → Nat → Option Nat) (v : Nat → Value) (tx : mm_W) (s0 : Int32)  (P : Option Value → mm_W → Prop)
    (h : (s0 = 0 ∨ s0 = 1) ∧ P (some (.int s0)) (Wd f fl g gl hh v tx)) :
    WP X (d) 172 (39, [some (.ref 74), none], [.int s0], Wd f fl g gl hh v tx) P := by
  exact WP.retZ hP_172 rfl rfl h.1 h.2

set_option maxRecDepth 20000 in
theorem b_m_lays_0 (X : mm_X) (d : Nat) (f : Nat → Int32) (fl : Nat → Int64) (g : Nat → Nat → Int32) (gl : Nat → Nat → Int64) (hh : Nat → Nat → Option Nat) (v : Nat → Value) (tx : mm_W) (p0 : Int32)  (P : Option Value → mm_W → Prop)
    (h : (¬ (((60 : Int32) + p0) < 0 ∨ 5667 ≤ ((60 : Int32) + p0).toNatClampNeg)) ∧ WP X (d) 173 (15, [some (.ref 74), some (.int p0), some (.int 0)], [], Wd f fl (va_up g 76 (upd (g 76) (((60 : Int32) + p0).toNatClampNeg) (f 4754))) gl hh v tx) P) :
    WP X (d) 173 (0, [some (.ref 74), some (.int p0), none], [], Wd f fl g gl hh v tx) P := by
  refine WP.run hP_173 7 (c' := (12, [some (.ref 74), some (.int p0), none], [.int (f 4754), .int ((60 : Int32) + p0), .ref 76], Wd f fl g gl hh v tx)) rfl ?_
  refine WP.of (fun _ _ => Ex.iast hP_173 (w2 := Wd f fl (va_up g 76 (upd (g 76) (((60 : Int32) + p0).toNatClampNeg) (f 4754))) gl hh v tx) rfl (Wa_76 _ _ _ _ _ _ _) h.1 (Ws_76 _ _ _ _ _ _ _ _)) ?_
  have h1 := h.2
  refine WP.run hP_173 2 (c' := (15, [some (.ref 74), some (.int p0), some (.int 0)], [], Wd f fl (va_up g 76 (upd (g 76) (((60 : Int32) + p0).toNatClampNeg) (f 4754))) gl hh v tx)) rfl ?_
  exact h1

set_option maxRecDepth 20000 in
theorem b_m_lays_15 (X : mm_X) (d : Nat) (f : Nat → Int32) (fl : Nat → Int64) (g : Nat → Nat → Int32) (gl : Nat → Nat → Int64) (hh : Nat → Nat → Option Nat) (v : Nat → Value) (tx : mm_W) (l1 : Int32) (l2 : Int32)  (P : Option Value → mm_W → Prop)
    (h : (((f 4754) ≤ l2) → P none (Wd f fl g gl hh v tx)) ∧
    ((¬ ((f 4754) ≤ l2)) → ((¬ (l2 < 0 ∨ 401 ≤ l2.toNatClampNeg)) ∧ ((¬ ((((67 : Int32) + ((400 : Int32) * l1)) + l2) < 0 ∨ 5667 ≤ (((67 : Int32) + ((400 : Int32) * l1)) + l2).toNatClampNeg)) ∧ ((¬ (l2 < 0 ∨ 401 ≤ l2.toNatClampNeg)) ∧ ((¬ ((((2867 : Int32) + ((400 : Int32) * l1)) + l2) < 0 ∨ 5667 ≤ (((2867 : Int32) + ((400 : Int32) * l1)) + l2).toNatClampNeg)) ∧ WP X (d) 173 (15, [some (.ref 74), some (.int l1), some (.int (l2 + (1 : Int32)))], [], Wd f fl (va_up (va_up g 76 (upd (g 76) ((((67 : Int32) + ((400 : Int32) * l1)) + l2).toNatClampNeg) ((g 83) l2.toNatClampNeg))) 76 (upd (upd (g 76) ((((67 : Int32) + ((400 : Int32) * l1)) + l2).toNatClampNeg) ((g 83) l2.toNatClampNeg)) ((((2867 : Int32) + ((400 : Int32) * l1)) + l2).toNatClampNeg) ((g 84) l2.toNatClampNeg))) gl hh v tx) P)))))) :
    WP X (d) 173 (15, [some (.ref 74), some (.int l1), some (.int l2)], [], Wd f fl g gl hh v tx) P := by
  refine WP.run hP_173 3 (c' := (20, [some (.ref 74), some (.int l1), some (.int l2)], [.int (f 4754), .int l2], Wd f fl g gl hh v tx)) rfl ?_
  refine WP.br hP_173 (q := (f 4754) ≤ l2) (t := 72) (f := 23) (L := [some (.ref 74), some (.int l1), some (.int l2)]) (st := []) (w := Wd f fl g gl hh v tx) rfl (fun c1 => ?_) (fun c1 => ?_)
  · have h2 := h.1 c1
    exact WP.ret hP_173 (r := none) (w' := Wd f fl g gl hh v tx) rfl h2
  · have h3 := h.2 c1
    refine WP.run hP_173 12 (c' := (42, [some (.ref 74), some (.int l1), some (.int l2)], [.int l2, .ref 83, .int (((67 : Int32) + ((400 : Int32) * l1)) + l2), .ref 76], Wd f fl g gl hh v tx)) rfl ?_
    refine WP.of (fun _ _ => Ex.iald hP_173 rfl (Wa_83 _ _ _ _ _ _ _) h3.1) ?_
    have h4 := h3.2
    refine WP.of (fun _ _ => Ex.iast hP_173 (w2 := Wd f fl (va_up g 76 (upd (g 76) ((((67 : Int32) + ((400 : Int32) * l1)) + l2).toNatClampNeg) ((g 83) l2.toNatClampNeg))) gl hh v tx) rfl (Wa_76 _ _ _ _ _ _ _) h4.1 (Ws_76 _ _ _ _ _ _ _ _)) ?_
    have h5 := h4.2
    refine WP.run hP_173 12 (c' := (64, [some (.ref 74), some (.int l1), some (.int l2)], [.int l2, .ref 84, .int (((2867 : Int32) + ((400 : Int32) * l1)) + l2), .ref 76], Wd f fl (va_up g 76 (upd (g 76) ((((67 : Int32) + ((400 : Int32) * l1)) + l2).toNatClampNeg) ((g 83) l2.toNatClampNeg))) gl hh v tx)) rfl ?_
    refine WP.of (fun _ _ => Ex.iald hP_173 rfl (Wa_84 _ _ _ _ _ _ _) h5.1) ?_
    have h6 := h5.2
    refine WP.of (fun _ _ => Ex.iast hP_173 (w2 := Wd f fl (va_up (va_up g 76 (upd (g 76) ((((67 : Int32) + ((400 : Int32) * l1)) + l2).toNatClampNeg) ((g 83) l2.toNatClampNeg))) 76 (upd (upd (g 76) ((((67 : Int32) + ((400 : Int32) * l1)) + l2).toNatClampNeg) ((g 83) l2.toNatClampNeg)) ((((2867 : Int32) + ((400 : Int32) * l1)) + l2).toNatClampNeg) ((g 84) l2.toNatClampNeg))) gl hh v tx) rfl (Wa_76 _ _ _ _ _ _ _) h6.1 (Ws_76 _ _ _ _ _ _ _ _)) ?_
    have h7 := h6.2
    refine WP.run hP_173 2 (c' := (15, [some (.ref 74), some (.int l1), some (.int (l2 + (1 : Int32)))], [], Wd f fl (va_up (va_up g 76 (upd (g 76) ((((67 : Int32) + ((400 : Int32) * l1)) + l2).toNatClampNeg) ((g 83) l2.toNatClampNeg))) 76 (upd (upd (g 76) ((((67 : Int32) + ((400 : Int32) * l1)) + l2).toNatClampNeg) ((g 83) l2.toNatClampNeg)) ((((2867 : Int32) + ((400 : Int32) * l1)) + l2).toNatClampNeg) ((g 84) l2.toNatClampNeg))) gl hh v tx)) rfl ?_
    exact h7

set_option maxRecDepth 20000 in
theorem b_m_law_0 (X : mm_X) (d : Nat) (f : Nat → Int32) (fl : Nat → Int64) (g : Nat → Nat → Int32) (gl : Nat → Nat → Int64) (hh : Nat → Nat → Option Nat) (v : Nat → Value) (tx : mm_W)   (P : Option Value → mm_W → Prop)
    (h : ((¬ ((g 76) 58) = 6) → WP X (d) 172 (0, [some (.ref 74), some (.int 0)], [], Wd f fl g gl hh v tx) (fun rv w2 => WP X (d + 1) 174 (29, [some (.ref 74)], rv.toList ++ [], w2) P)) ∧
    ((((g 76) 58) = 6) → P (some (.int (-5))) (Wd (va_up (va_up f 4749 0) 4736 (-5 : Int32)) fl (va_up g 75 (upd (g 75) (5) (((g 75) 5) + (1 : Int32)))) gl hh v tx))) :
    WP X (d + 1) 174 (0, [some (.ref 74)], [], Wd f fl g gl hh v tx) P := by
  refine WP.run hP_174 3 (c' := (6, [some (.ref 74)], [.int 58, .ref 76], Wd f fl g gl hh v tx)) rfl ?_
  refine WP.of (fun _ _ => Ex.iald hP_174 rfl (Wa_76 _ _ _ _ _ _ _) (by decide)) ?_
  show WP X _ 174 (7, [some (.ref 74)], [.int ((g 76) 58)], Wd f fl g gl hh v tx) P
  refine WP.run hP_174 1 (c' := (9, [some (.ref 74)], [.int 6, .int ((g 76) 58)], Wd f fl g gl hh v tx)) rfl ?_
  refine WP.br hP_174 (q := ¬ ((g 76) 58) = 6) (t := 24) (f := 12) (L := [some (.ref 74)]) (st := []) (w := Wd f fl g gl hh v tx) rfl (fun c1 => ?_) (fun c1 => ?_)
  · have h2 := h.1 c1
    refine WP.run hP_174 2 (c' := (26, [some (.ref 74)], [.int 0, .ref 74], Wd f fl g gl hh v tx)) rfl ?_
    refine WP.call hP_174 hP_172 (as := [.ref 74, .int 0]) (pc' := 29) (L' := [some (.ref 74)]) (st' := []) (w1 := Wd f fl g gl hh v tx) rfl ⟨Nat.le_of_ble_eq_true rfl, Nat.le_of_ble_eq_true rfl⟩ rfl ?_
    exact h2
  · have h3 := h.2 (Classical.not_not.mp c1)
    refine WP.run hP_174 5 (c' := (20, [some (.ref 74)], [.int (-5), .ref 74], Wd (va_up f 4749 0) fl g gl hh v tx)) rfl ?_
    refine WP.call hP_174 hP_119 (as := [.ref 74, .int (-5)]) (pc' := 23) (L' := [some (.ref 74)]) (st' := []) (w1 := Wd (va_up f 4749 0) fl g gl hh v tx) rfl ⟨Nat.le_of_ble_eq_true rfl, Nat.le_of_ble_eq_true rfl⟩ rfl (b_m_refuses_0 X (d) (va_up f 4749 0) fl g gl hh v tx (-5) _ ?_)
    refine ⟨by decide, ?_⟩
    refine ⟨by decide, ?_⟩
    exact WP.retI hP_174 rfl rfl h3

set_option maxRecDepth 20000 in
theorem b_m_law_29 (X : mm_X) (d : Nat) (f : Nat → Int32) (fl : Nat → Int64) (g : Nat → Nat → Int32) (gl : Nat → Nat → Int64) (hh : Nat → Nat → Option Nat) (v : Nat → Value) (tx : mm_W) (s0 : Int32)  (P : Option Value → mm_W → Prop)
    (h : ((¬ s0 = 0) → WP X (d) 173 (0, [some (.ref 74), some (.int ((g 76) 58)), none], [], Wd f fl g gl hh v tx) (fun rv w2 => WP X (d + 1) 174 (50, [some (.ref 74)], rv.toList ++ [], w2) P)) ∧
    ((s0 = 0) → P (some (.int (-6))) (Wd (va_up f 4736 (-6 : Int32)) fl (va_up g 75 (upd (g 75) (6) (((g 75) 6) + (1 : Int32)))) gl hh v tx))) :
    WP X (d + 1) 174 (29, [some (.ref 74)], [.int s0], Wd f fl g gl hh v tx) P := by
  refine WP.br hP_174 (q := ¬ s0 = 0) (t := 39) (f := 32) (L := [some (.ref 74)]) (st := []) (w := Wd f fl g gl hh v tx) rfl (fun c1 => ?_) (fun c1 => ?_)
  · have h2 := h.1 c1
    refine WP.run hP_174 4 (c' := (46, [some (.ref 74)], [.int 58, .ref 76, .ref 74], Wd f fl g gl hh v tx)) rfl ?_
    refine WP.of (fun _ _ => Ex.iald hP_174 rfl (Wa_76 _ _ _ _ _ _ _) (by decide)) ?_
    show WP X _ 174 (47, [some (.ref 74)], [.int ((g 76) 58), .ref 74], Wd f fl g gl hh v tx) P
    refine WP.call hP_174 hP_173 (as := [.ref 74, .int ((g 76) 58)]) (pc' := 50) (L' := [some (.ref 74)]) (st' := []) (w1 := Wd f fl g gl hh v tx) rfl ⟨Nat.le_of_ble_eq_true rfl, Nat.le_of_ble_eq_true rfl⟩ rfl ?_
    exact h2
  · have h3 := h.2 (Classical.not_not.mp c1)
    refine WP.run hP_174 2 (c' := (35, [some (.ref 74)], [.int (-6), .ref 74], Wd f fl g gl hh v tx)) rfl ?_
    refine WP.call hP_174 hP_119 (as := [.ref 74, .int (-6)]) (pc' := 38) (L' := [some (.ref 74)]) (st' := []) (w1 := Wd f fl g gl hh v tx) rfl ⟨Nat.le_of_ble_eq_true rfl, Nat.le_of_ble_eq_true rfl⟩ rfl (b_m_refuses_0 X (d) f fl g gl hh v tx (-6) _ ?_)
    refine ⟨by decide, ?_⟩
    refine ⟨by decide, ?_⟩
    exact WP.retI hP_174 rfl rfl h3

set_option maxRecDepth 20000 in
theorem b_m_law_50 (X : mm_X) (d : Nat) (f : Nat → Int32) (fl : Nat → Int64) (g : Nat → Nat → Int32) (gl : Nat → Nat → Int64) (hh : Nat → Nat → Option Nat) (v : Nat → Value) (tx : mm_W)   (P : Option Value → mm_W → Prop)
    (h : P (some (.int (((upd (g 76) 58 (((g 76) 58) + (1 : Int32))) 58) - (1 : Int32)))) (Wd (va_up f 4736 0) fl (va_up g 76 (upd (g 76) 58 (((g 76) 58) + (1 : Int32)))) gl hh v tx)) :
    WP X (d + 1) 174 (50, [some (.ref 74)], [], Wd f fl g gl hh v tx) P := by
  refine WP.run hP_174 4 (c' := (57, [some (.ref 74)], [.int 58, .ref 76, .int 58, .ref 76], Wd f fl g gl hh v tx)) rfl ?_
  refine WP.of (fun _ _ => Ex.iald hP_174 rfl (Wa_76 _ _ _ _ _ _ _) (by decide)) ?_
  show WP X _ 174 (58, [some (.ref 74)], [.int ((g 76) 58), .int 58, .ref 76], Wd f fl g gl hh v tx) P
  refine WP.run hP_174 2 (c' := (60, [some (.ref 74)], [.int (((g 76) 58) + (1 : Int32)), .int 58, .ref 76], Wd f fl g gl hh v tx)) rfl ?_
  refine WP.of (fun _ _ => Ex.iast hP_174 (w2 := Wd f fl (va_up g 76 (upd (g 76) 58 (((g 76) 58) + (1 : Int32)))) gl hh v tx) rfl (Wa_76 _ _ _ _ _ _ _) (by decide) (Ws_76 _ _ _ _ _ _ _ _)) ?_
  refine WP.run hP_174 4 (c' := (68, [some (.ref 74)], [.int 58, .ref 76, .ref 74], Wd f fl (va_up g 76 (upd (g 76) 58 (((g 76) 58) + (1 : Int32)))) gl hh v tx)) rfl ?_
  refine WP.of (fun _ _ => Ex.iald hP_174 rfl (Wa_76 _ _ _ _ _ _ _) (by decide)) ?_
  show WP X _ 174 (69, [some (.ref 74)], [.int ((upd (g 76) 58 (((g 76) 58) + (1 : Int32))) 58), .ref 74], Wd f fl (va_up g 76 (upd (g 76) 58 (((g 76) 58) + (1 : Int32)))) gl hh v tx) P
  refine WP.run hP_174 2 (c' := (71, [some (.ref 74)], [.int (((upd (g 76) 58 (((g 76) 58) + (1 : Int32))) 58) - (1 : Int32)), .ref 74], Wd f fl (va_up g 76 (upd (g 76) 58 (((g 76) 58) + (1 : Int32)))) gl hh v tx)) rfl ?_
  refine WP.call hP_174 hP_120 (as := [.ref 74, .int (((upd (g 76) 58 (((g 76) 58) + (1 : Int32))) 58) - (1 : Int32))]) (pc' := 74) (L' := [some (.ref 74)]) (st' := []) (w1 := Wd f fl (va_up g 76 (upd (g 76) 58 (((g 76) 58) + (1 : Int32)))) gl hh v tx) rfl ⟨Nat.le_of_ble_eq_true rfl, Nat.le_of_ble_eq_true rfl⟩ rfl (b_m_good_0 X (d) f fl (va_up g 76 (upd (g 76) 58 (((g 76) 58) + (1 : Int32)))) gl hh v tx (((upd (g 76) 58 (((g 76) 58) + (1 : Int32))) 58) - (1 : Int32)) _ ?_)
  exact WP.retI hP_174 rfl rfl h
