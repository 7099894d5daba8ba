abbrev k_I : Type := (Nat → Int32) → (Nat → Int64) → (Nat → Nat → Int32) → (Nat → Nat → Int64) → (Nat → Nat → Option Nat) → (Nat → Value) → mm_W → Prop
/-- an operation: class and reference answer alike, and what holds between them holds behind it; few cells come -/
def k_op (mk : Int64 → Value) (Inv : k_I) (xi mi : Nat) (Lx Lm : mm_L) : Prop := ∀ (X : mm_X) (f : Nat → Int32) (fl : Nat → Int64) (g : Nat → Nat → Int32) (gl : Nat → Nat → Int64) (hh : Nat → Nat → Option Nat) (v : Nat → Value) (tx : mm_W), Inv f fl g gl hh v tx → WP X 1999 xi (0, Lx, [], Wd f fl g gl hh v tx) (fun r1 w1 => ∃ (a : Int64) (f1 : Nat → Int32) (fl1 : Nat → Int64) (g1 : Nat → Nat → Int32) (gl1 : Nat → Nat → Int64) (hh1 : Nat → Nat → Option Nat) (v1 : Nat → Value) (tx1 : mm_W), r1 = some (mk a) ∧ w1 = Wd f1 fl1 g1 gl1 hh1 v1 tx1 ∧ WP X 1999 mi (0, Lm, [], w1) (fun r2 w2 => r2 = some (mk a) ∧ ∃ (f2 : Nat → Int32) (fl2 : Nat → Int64) (g2 : Nat → Nat → Int32) (gl2 : Nat → Nat → Int64) (hh2 : Nat → Nat → Option Nat) (v2 : Nat → Value) (tx2 : mm_W), w2 = Wd f2 fl2 g2 gl2 hh2 v2 tx2 ∧ Inv f2 fl2 g2 gl2 hh2 v2 tx2 ∧ tx2.length ≤ tx.length + 3 ∧ mm_sl tx2 ≤ mm_sl tx + 464))
def k_mi (a : Int64) : Value := .int a.toInt32
def k_ml (a : Int64) : Value := .long a
theorem mm_sw_mem (x lo : Int32) (tg : List Nat) (d : Nat) : mm_sw x lo tg d = d ∨ mm_sw x lo tg d ∈ tg := by
  induction tg generalizing lo with
  | nil => exact Or.inl rfl
  | cons t r ih =>
    unfold mm_sw
    split
    · exact Or.inr List.mem_cons_self
    · rcases ih (lo + 1) with h | h
      · exact Or.inl h
      · exact Or.inr (List.mem_cons_of_mem _ h)
def k_op0 (Inv : k_I) : Prop := (∀ a0 a1 : Int32, k_op k_mi Inv 58 136 [some (.ref 0), some (.int a0), some (.int a1), none, none] [some (.ref 74), some (.int a0), some (.int a1)])
set_option maxRecDepth 20000 in
theorem k_c0 {Inv : k_I} (hop0 : k_op0 Inv) {X : mm_X} {n : Nat} (f : Nat → Int32) (fl : Nat → Int64) (g : Nat → Nat → Int32) (gl : Nat → Nat → Int64) (hh : Nat → Nat → Option Nat) (v : Nat → Value) (tx : mm_W) {P : Option Value → mm_W → Prop} (hin : ∀ j : Int32, (j = 0 ∨ j = 1 ∨ j = 2 ∨ j = 3 ∨ j = 4 ∨ j = 5) → ¬ (nI n + j < 0 ∨ X.1 ≤ (nI n + j).toNatClampNeg)) (hI : Inv f fl g gl hh v tx) (hnext : ∀ (f2 : Nat → Int32) (fl2 : Nat → Int64) (g2 : Nat → Nat → Int32) (gl2 : Nat → Nat → Int64) (hh2 : Nat → Nat → Option Nat) (v2 : Nat → Value) (tx2 : mm_W), Inv f2 fl2 g2 gl2 hh2 v2 tx2 → tx2.length ≤ tx.length + 3 → mm_sl tx2 ≤ mm_sl tx + 464 → WP X 2000 0 (1217, [some (.float 0), some (.ref 0), some (.ref 74), some (.int (nI n))], [], Wd f2 fl2 g2 gl2 hh2 v2 tx2) P) : WP X 2000 0 (212, [some (.float 0), some (.ref 0), some (.ref 74), some (.int (nI n))], [], Wd f fl g gl hh v tx) P := by
  have hop := hop0 (X.2 (nI n + 1).toNatClampNeg) (X.2 (nI n + 2).toNatClampNeg)
  refine WP.run hP_0 5 (c' := (217, [some (.float 0), some (.ref 0), some (.ref 74), some (.int (nI n))], [.int (nI n + 1), .float 0, .ref 0], Wd f fl g gl hh v tx)) rfl ?_
  refine WP.of (fun _ _ => Ex.sald hP_0 rfl (hin 1 (by decide))) ?_
  refine WP.run hP_0 4 (c' := (222, [some (.float 0), some (.ref 0), some (.ref 74), some (.int (nI n))], [.int (nI n + 2), .float 0, .int (X.2 (nI n + 1).toNatClampNeg), .ref 0], Wd f fl g gl hh v tx)) rfl ?_
  refine WP.of (fun _ _ => Ex.sald hP_0 rfl (hin 2 (by decide))) ?_
  refine WP.call hP_0 hP_58 (as := [.ref 0, .int (X.2 (nI n + 1).toNatClampNeg), .int (X.2 (nI n + 2).toNatClampNeg)]) (pc' := 226) (L' := [some (.float 0), some (.ref 0), some (.ref 74), some (.int (nI n))]) (st' := []) (w1 := Wd f fl g gl hh v tx) rfl ⟨Nat.le_of_ble_eq_true rfl, Nat.le_of_ble_eq_true rfl⟩ rfl ?_
  refine WP.mono (hop X f fl g gl hh v tx hI) ?_
  rintro r1 w1 ⟨a, f1, fl1, g1, gl1, hh1, v1, tx1, rfl, rfl, hm⟩
  show WP X 2000 0 (226, [some (.float 0), some (.ref 0), some (.ref 74), some (.int (nI n))], [.int a.toInt32], Wd f1 fl1 g1 gl1 hh1 v1 tx1) P
  refine WP.run hP_0 5 (c' := (231, [some (.float 0), some (.ref 0), some (.ref 74), some (.int (nI n))], [.int (nI n + 1), .float 0, .ref 74, .int a.toInt32], Wd f1 fl1 g1 gl1 hh1 v1 tx1)) rfl ?_
  refine WP.of (fun _ _ => Ex.sald hP_0 rfl (hin 1 (by decide))) ?_
  refine WP.run hP_0 4 (c' := (236, [some (.float 0), some (.ref 0), some (.ref 74), some (.int (nI n))], [.int (nI n + 2), .float 0, .int (X.2 (nI n + 1).toNatClampNeg), .ref 74, .int a.toInt32], Wd f1 fl1 g1 gl1 hh1 v1 tx1)) rfl ?_
  refine WP.of (fun _ _ => Ex.sald hP_0 rfl (hin 2 (by decide))) ?_
  refine WP.call hP_0 hP_136 (as := [.ref 74, .int (X.2 (nI n + 1).toNatClampNeg), .int (X.2 (nI n + 2).toNatClampNeg)]) (pc' := 240) (L' := [some (.float 0), some (.ref 0), some (.ref 74), some (.int (nI n))]) (st' := [.int a.toInt32]) (w1 := Wd f1 fl1 g1 gl1 hh1 v1 tx1) rfl ⟨Nat.le_of_ble_eq_true rfl, Nat.le_of_ble_eq_true rfl⟩ rfl ?_
  refine WP.mono hm ?_
  rintro r2 w2 ⟨rfl, f2, fl2, g2, gl2, hh2, v2, tx2, rfl, hI2, hs1, hs2⟩
  show WP X 2000 0 (240, [some (.float 0), some (.ref 0), some (.ref 74), some (.int (nI n))], [.int a.toInt32, .int a.toInt32], Wd f2 fl2 g2 gl2 hh2 v2 tx2) P
  exact WP.br hP_0 (q := a.toInt32 = a.toInt32) (t := 1217) (f := 243) (L := [some (.float 0), some (.ref 0), some (.ref 74), some (.int (nI n))]) (st := []) (w := Wd f2 fl2 g2 gl2 hh2 v2 tx2) rfl (fun _ => hnext _ _ _ _ _ _ _ hI2 hs1 hs2) (fun c => absurd rfl c)
def k_op1 (Inv : k_I) : Prop := (∀ a0 a1 : Int32, k_op k_mi Inv 59 138 [some (.ref 0), some (.int a0), some (.int a1), none, none] [some (.ref 74), some (.int a0), some (.int a1)])
set_option maxRecDepth 20000 in
theorem k_c1 {Inv : k_I} (hop0 : k_op1 Inv) {X : mm_X} {n : Nat} (f : Nat → Int32) (fl : Nat → Int64) (g : Nat → Nat → Int32) (gl : Nat → Nat → Int64) (hh : Nat → Nat → Option Nat) (v : Nat → Value) (tx : mm_W) {P : Option Value → mm_W → Prop} (hin : ∀ j : Int32, (j = 0 ∨ j = 1 ∨ j = 2 ∨ j = 3 ∨ j = 4 ∨ j = 5) → ¬ (nI n + j < 0 ∨ X.1 ≤ (nI n + j).toNatClampNeg)) (hI : Inv f fl g gl hh v tx) (hnext : ∀ (f2 : Nat → Int32) (fl2 : Nat → Int64) (g2 : Nat → Nat → Int32) (gl2 : Nat → Nat → Int64) (hh2 : Nat → Nat → Option Nat) (v2 : Nat → Value) (tx2 : mm_W), Inv f2 fl2 g2 gl2 hh2 v2 tx2 → tx2.length ≤ tx.length + 3 → mm_sl tx2 ≤ mm_sl tx + 464 → WP X 2000 0 (1217, [some (.float 0), some (.ref 0), some (.ref 74), some (.int (nI n))], [], Wd f2 fl2 g2 gl2 hh2 v2 tx2) P) : WP X 2000 0 (245, [some (.float 0), some (.ref 0), some (.ref 74), some (.int (nI n))], [], Wd f fl g gl hh v tx) P := by
  have hop := hop0 (X.2 (nI n + 1).toNatClampNeg) (X.2 (nI n + 2).toNatClampNeg)
  refine WP.run hP_0 5 (c' := (250, [some (.float 0), some (.ref 0), some (.ref 74), some (.int (nI n))], [.int (nI n + 1), .float 0, .ref 0], Wd f fl g gl hh v tx)) rfl ?_
  refine WP.of (fun _ _ => Ex.sald hP_0 rfl (hin 1 (by decide))) ?_
  refine WP.run hP_0 4 (c' := (255, [some (.float 0), some (.ref 0), some (.ref 74), some (.int (nI n))], [.int (nI n + 2), .float 0, .int (X.2 (nI n + 1).toNatClampNeg), .ref 0], Wd f fl g gl hh v tx)) rfl ?_
  refine WP.of (fun _ _ => Ex.sald hP_0 rfl (hin 2 (by decide))) ?_
  refine WP.call hP_0 hP_59 (as := [.ref 0, .int (X.2 (nI n + 1).toNatClampNeg), .int (X.2 (nI n + 2).toNatClampNeg)]) (pc' := 259) (L' := [some (.float 0), some (.ref 0), some (.ref 74), some (.int (nI n))]) (st' := []) (w1 := Wd f fl g gl hh v tx) rfl ⟨Nat.le_of_ble_eq_true rfl, Nat.le_of_ble_eq_true rfl⟩ rfl ?_
  refine WP.mono (hop X f fl g gl hh v tx hI) ?_
  rintro r1 w1 ⟨a, f1, fl1, g1, gl1, hh1, v1, tx1, rfl, rfl, hm⟩
  show WP X 2000 0 (259, [some (.float 0), some (.ref 0), some (.ref 74), some (.int (nI n))], [.int a.toInt32], Wd f1 fl1 g1 gl1 hh1 v1 tx1) P
  refine WP.run hP_0 5 (c' := (264, [some (.float 0), some (.ref 0), some (.ref 74), some (.int (nI n))], [.int (nI n + 1), .float 0, .ref 74, .int a.toInt32], Wd f1 fl1 g1 gl1 hh1 v1 tx1)) rfl ?_
  refine WP.of (fun _ _ => Ex.sald hP_0 rfl (hin 1 (by decide))) ?_
  refine WP.run hP_0 4 (c' := (269, [some (.float 0), some (.ref 0), some (.ref 74), some (.int (nI n))], [.int (nI n + 2), .float 0, .int (X.2 (nI n + 1).toNatClampNeg), .ref 74, .int a.toInt32], Wd f1 fl1 g1 gl1 hh1 v1 tx1)) rfl ?_
  refine WP.of (fun _ _ => Ex.sald hP_0 rfl (hin 2 (by decide))) ?_
  refine WP.call hP_0 hP_138 (as := [.ref 74, .int (X.2 (nI n + 1).toNatClampNeg), .int (X.2 (nI n + 2).toNatClampNeg)]) (pc' := 273) (L' := [some (.float 0), some (.ref 0), some (.ref 74), some (.int (nI n))]) (st' := [.int a.toInt32]) (w1 := Wd f1 fl1 g1 gl1 hh1 v1 tx1) rfl ⟨Nat.le_of_ble_eq_true rfl, Nat.le_of_ble_eq_true rfl⟩ rfl ?_
  refine WP.mono hm ?_
  rintro r2 w2 ⟨rfl, f2, fl2, g2, gl2, hh2, v2, tx2, rfl, hI2, hs1, hs2⟩
  show WP X 2000 0 (273, [some (.float 0), some (.ref 0), some (.ref 74), some (.int (nI n))], [.int a.toInt32, .int a.toInt32], Wd f2 fl2 g2 gl2 hh2 v2 tx2) P
  exact WP.br hP_0 (q := a.toInt32 = a.toInt32) (t := 1217) (f := 276) (L := [some (.float 0), some (.ref 0), some (.ref 74), some (.int (nI n))]) (st := []) (w := Wd f2 fl2 g2 gl2 hh2 v2 tx2) rfl (fun _ => hnext _ _ _ _ _ _ _ hI2 hs1 hs2) (fun c => absurd rfl c)
def k_op2 (Inv : k_I) : Prop := (∀ a0 a1 a2 : Int32, k_op k_mi Inv 60 139 [some (.ref 0), some (.int a0), some (.int a1), some (.int a2)] [some (.ref 74), some (.int a0), some (.int a1), some (.int a2), none])
set_option maxRecDepth 20000 in
theorem k_c2 {Inv : k_I} (hop0 : k_op2 Inv) {X : mm_X} {n : Nat} (f : Nat → Int32) (fl : Nat → Int64) (g : Nat → Nat → Int32) (gl : Nat → Nat → Int64) (hh : Nat → Nat → Option Nat) (v : Nat → Value) (tx : mm_W) {P : Option Value → mm_W → Prop} (hin : ∀ j : Int32, (j = 0 ∨ j = 1 ∨ j = 2 ∨ j = 3 ∨ j = 4 ∨ j = 5) → ¬ (nI n + j < 0 ∨ X.1 ≤ (nI n + j).toNatClampNeg)) (hI : Inv f fl g gl hh v tx) (hnext : ∀ (f2 : Nat → Int32) (fl2 : Nat → Int64) (g2 : Nat → Nat → Int32) (gl2 : Nat → Nat → Int64) (hh2 : Nat → Nat → Option Nat) (v2 : Nat → Value) (tx2 : mm_W), Inv f2 fl2 g2 gl2 hh2 v2 tx2 → tx2.length ≤ tx.length + 3 → mm_sl tx2 ≤ mm_sl tx + 464 → WP X 2000 0 (1217, [some (.float 0), some (.ref 0), some (.ref 74), some (.int (nI n))], [], Wd f2 fl2 g2 gl2 hh2 v2 tx2) P) : WP X 2000 0 (278, [some (.float 0), some (.ref 0), some (.ref 74), some (.int (nI n))], [], Wd f fl g gl hh v tx) P := by
  have hop := hop0 (X.2 (nI n + 1).toNatClampNeg) (X.2 (nI n + 2).toNatClampNeg) (X.2 (nI n + 3).toNatClampNeg)
  refine WP.run hP_0 5 (c' := (283, [some (.float 0), some (.ref 0), some (.ref 74), some (.int (nI n))], [.int (nI n + 1), .float 0, .ref 0], Wd f fl g gl hh v tx)) rfl ?_
  refine WP.of (fun _ _ => Ex.sald hP_0 rfl (hin 1 (by decide))) ?_
  refine WP.run hP_0 4 (c' := (288, [some (.float 0), some (.ref 0), some (.ref 74), some (.int (nI n))], [.int (nI n + 2), .float 0, .int (X.2 (nI n + 1).toNatClampNeg), .ref 0], Wd f fl g gl hh v tx)) rfl ?_
  refine WP.of (fun _ _ => Ex.sald hP_0 rfl (hin 2 (by decide))) ?_
  refine WP.run hP_0 4 (c' := (293, [some (.float 0), some (.ref 0), some (.ref 74), some (.int (nI n))], [.int (nI n + 3), .float 0, .int (X.2 (nI n + 2).toNatClampNeg), .int (X.2 (nI n + 1).toNatClampNeg), .ref 0], Wd f fl g gl hh v tx)) rfl ?_
  refine WP.of (fun _ _ => Ex.sald hP_0 rfl (hin 3 (by decide))) ?_
  refine WP.call hP_0 hP_60 (as := [.ref 0, .int (X.2 (nI n + 1).toNatClampNeg), .int (X.2 (nI n + 2).toNatClampNeg), .int (X.2 (nI n + 3).toNatClampNeg)]) (pc' := 297) (L' := [some (.float 0), some (.ref 0), some (.ref 74), some (.int (nI n))]) (st' := []) (w1 := Wd f fl g gl hh v tx) rfl ⟨Nat.le_of_ble_eq_true rfl, Nat.le_of_ble_eq_true rfl⟩ rfl ?_
  refine WP.mono (hop X f fl g gl hh v tx hI) ?_
  rintro r1 w1 ⟨a, f1, fl1, g1, gl1, hh1, v1, tx1, rfl, rfl, hm⟩
  show WP X 2000 0 (297, [some (.float 0), some (.ref 0), some (.ref 74), some (.int (nI n))], [.int a.toInt32], Wd f1 fl1 g1 gl1 hh1 v1 tx1) P
  refine WP.run hP_0 5 (c' := (302, [some (.float 0), some (.ref 0), some (.ref 74), some (.int (nI n))], [.int (nI n + 1), .float 0, .ref 74, .int a.toInt32], Wd f1 fl1 g1 gl1 hh1 v1 tx1)) rfl ?_
  refine WP.of (fun _ _ => Ex.sald hP_0 rfl (hin 1 (by decide))) ?_
  refine WP.run hP_0 4 (c' := (307, [some (.float 0), some (.ref 0), some (.ref 74), some (.int (nI n))], [.int (nI n + 2), .float 0, .int (X.2 (nI n + 1).toNatClampNeg), .ref 74, .int a.toInt32], Wd f1 fl1 g1 gl1 hh1 v1 tx1)) rfl ?_
  refine WP.of (fun _ _ => Ex.sald hP_0 rfl (hin 2 (by decide))) ?_
  refine WP.run hP_0 4 (c' := (312, [some (.float 0), some (.ref 0), some (.ref 74), some (.int (nI n))], [.int (nI n + 3), .float 0, .int (X.2 (nI n + 2).toNatClampNeg), .int (X.2 (nI n + 1).toNatClampNeg), .ref 74, .int a.toInt32], Wd f1 fl1 g1 gl1 hh1 v1 tx1)) rfl ?_
  refine WP.of (fun _ _ => Ex.sald hP_0 rfl (hin 3 (by decide))) ?_
  refine WP.call hP_0 hP_139 (as := [.ref 74, .int (X.2 (nI n + 1).toNatClampNeg), .int (X.2 (nI n + 2).toNatClampNeg), .int (X.2 (nI n + 3).toNatClampNeg)]) (pc' := 316) (L' := [some (.float 0), some (.ref 0), some (.ref 74), some (.int (nI n))]) (st' := [.int a.toInt32]) (w1 := Wd f1 fl1 g1 gl1 hh1 v1 tx1) rfl ⟨Nat.le_of_ble_eq_true rfl, Nat.le_of_ble_eq_true rfl⟩ rfl ?_
  refine WP.mono hm ?_
  rintro r2 w2 ⟨rfl, f2, fl2, g2, gl2, hh2, v2, tx2, rfl, hI2, hs1, hs2⟩
  show WP X 2000 0 (316, [some (.float 0), some (.ref 0), some (.ref 74), some (.int (nI n))], [.int a.toInt32, .int a.toInt32], Wd f2 fl2 g2 gl2 hh2 v2 tx2) P
  exact WP.br hP_0 (q := a.toInt32 = a.toInt32) (t := 1217) (f := 319) (L := [some (.float 0), some (.ref 0), some (.ref 74), some (.int (nI n))]) (st := []) (w := Wd f2 fl2 g2 gl2 hh2 v2 tx2) rfl (fun _ => hnext _ _ _ _ _ _ _ hI2 hs1 hs2) (fun c => absurd rfl c)
def k_op3 (Inv : k_I) : Prop := (∀ a0 a1 : Int32, k_op k_mi Inv 61 140 [some (.ref 0), some (.int a0), some (.int a1)] [some (.ref 74), some (.int a0), some (.int a1)])
set_option maxRecDepth 20000 in
theorem k_c3 {Inv : k_I} (hop0 : k_op3 Inv) {X : mm_X} {n : Nat} (f : Nat → Int32) (fl : Nat → Int64) (g : Nat → Nat → Int32) (gl : Nat → Nat → Int64) (hh : Nat → Nat → Option Nat) (v : Nat → Value) (tx : mm_W) {P : Option Value → mm_W → Prop} (hin : ∀ j : Int32, (j = 0 ∨ j = 1 ∨ j = 2 ∨ j = 3 ∨ j = 4 ∨ j = 5) → ¬ (nI n + j < 0 ∨ X.1 ≤ (nI n + j).toNatClampNeg)) (hI : Inv f fl g gl hh v tx) (hnext : ∀ (f2 : Nat → Int32) (fl2 : Nat → Int64) (g2 : Nat → Nat → Int32) (gl2 : Nat → Nat → Int64) (hh2 : Nat → Nat → Option Nat) (v2 : Nat → Value) (tx2 : mm_W), Inv f2 fl2 g2 gl2 hh2 v2 tx2 → tx2.length ≤ tx.length + 3 → mm_sl tx2 ≤ mm_sl tx + 464 → WP X 2000 0 (1217, [some (.float 0), some (.ref 0), some (.ref 74), some (.int (nI n))], [], Wd f2 fl2 g2 gl2 hh2 v2 tx2) P) : WP X 2000 0 (321, [some (.float 0), some (.ref 0), some (.ref 74), some (.int (nI n))], [], Wd f fl g gl hh v tx) P := by
  have hop := hop0 (X.2 (nI n + 1).toNatClampNeg) (X.2 (nI n + 2).toNatClampNeg)
  refine WP.run hP_0 5 (c' := (326, [some (.float 0), some (.ref 0), some (.ref 74), some (.int (nI n))], [.int (nI n + 1), .float 0, .ref 0], Wd f fl g gl hh v tx)) rfl ?_
  refine WP.of (fun _ _ => Ex.sald hP_0 rfl (hin 1 (by decide))) ?_
  refine WP.run hP_0 4 (c' := (331, [some (.float 0), some (.ref 0), some (.ref 74), some (.int (nI n))], [.int (nI n + 2), .float 0, .int (X.2 (nI n + 1).toNatClampNeg), .ref 0], Wd f fl g gl hh v tx)) rfl ?_
  refine WP.of (fun _ _ => Ex.sald hP_0 rfl (hin 2 (by decide))) ?_
  refine WP.call hP_0 hP_61 (as := [.ref 0, .int (X.2 (nI n + 1).toNatClampNeg), .int (X.2 (nI n + 2).toNatClampNeg)]) (pc' := 335) (L' := [some (.float 0), some (.ref 0), some (.ref 74), some (.int (nI n))]) (st' := []) (w1 := Wd f fl g gl hh v tx) rfl ⟨Nat.le_of_ble_eq_true rfl, Nat.le_of_ble_eq_true rfl⟩ rfl ?_
  refine WP.mono (hop X f fl g gl hh v tx hI) ?_
  rintro r1 w1 ⟨a, f1, fl1, g1, gl1, hh1, v1, tx1, rfl, rfl, hm⟩
  show WP X 2000 0 (335, [some (.float 0), some (.ref 0), some (.ref 74), some (.int (nI n))], [.int a.toInt32], Wd f1 fl1 g1 gl1 hh1 v1 tx1) P
  refine WP.run hP_0 5 (c' := (340, [some (.float 0), some (.ref 0), some (.ref 74), some (.int (nI n))], [.int (nI n + 1), .float 0, .ref 74, .int a.toInt32], Wd f1 fl1 g1 gl1 hh1 v1 tx1)) rfl ?_
  refine WP.of (fun _ _ => Ex.sald hP_0 rfl (hin 1 (by decide))) ?_
  refine WP.run hP_0 4 (c' := (345, [some (.float 0), some (.ref 0), some (.ref 74), some (.int (nI n))], [.int (nI n + 2), .float 0, .int (X.2 (nI n + 1).toNatClampNeg), .ref 74, .int a.toInt32], Wd f1 fl1 g1 gl1 hh1 v1 tx1)) rfl ?_
  refine WP.of (fun _ _ => Ex.sald hP_0 rfl (hin 2 (by decide))) ?_
  refine WP.call hP_0 hP_140 (as := [.ref 74, .int (X.2 (nI n + 1).toNatClampNeg), .int (X.2 (nI n + 2).toNatClampNeg)]) (pc' := 349) (L' := [some (.float 0), some (.ref 0), some (.ref 74), some (.int (nI n))]) (st' := [.int a.toInt32]) (w1 := Wd f1 fl1 g1 gl1 hh1 v1 tx1) rfl ⟨Nat.le_of_ble_eq_true rfl, Nat.le_of_ble_eq_true rfl⟩ rfl ?_
  refine WP.mono hm ?_
  rintro r2 w2 ⟨rfl, f2, fl2, g2, gl2, hh2, v2, tx2, rfl, hI2, hs1, hs2⟩
  show WP X 2000 0 (349, [some (.float 0), some (.ref 0), some (.ref 74), some (.int (nI n))], [.int a.toInt32, .int a.toInt32], Wd f2 fl2 g2 gl2 hh2 v2 tx2) P
  exact WP.br hP_0 (q := a.toInt32 = a.toInt32) (t := 1217) (f := 352) (L := [some (.float 0), some (.ref 0), some (.ref 74), some (.int (nI n))]) (st := []) (w := Wd f2 fl2 g2 gl2 hh2 v2 tx2) rfl (fun _ => hnext _ _ _ _ _ _ _ hI2 hs1 hs2) (fun c => absurd rfl c)
def k_op4 (Inv : k_I) : Prop := (∀ a0 a1 a2 : Int32, k_op k_mi Inv 62 141 [some (.ref 0), some (.int a0), some (.int a1), some (.int a2)] [some (.ref 74), some (.int a0), some (.int a1), some (.int a2)])
set_option maxRecDepth 20000 in
theorem k_c4 {Inv : k_I} (hop0 : k_op4 Inv) {X : mm_X} {n : Nat} (f : Nat → Int32) (fl : Nat → Int64) (g : Nat → Nat → Int32) (gl : Nat → Nat → Int64) (hh : Nat → Nat → Option Nat) (v : Nat → Value) (tx : mm_W) {P : Option Value → mm_W → Prop} (hin : ∀ j : Int32, (j = 0 ∨ j = 1 ∨ j = 2 ∨ j = 3 ∨ j = 4 ∨ j = 5) → ¬ (nI n + j < 0 ∨ X.1 ≤ (nI n + j).toNatClampNeg)) (hI : Inv f fl g gl hh v tx) (hnext : ∀ (f2 : Nat → Int32) (fl2 : Nat → Int64) (g2 : Nat → Nat → Int32) (gl2 : Nat → Nat → Int64) (hh2 : Nat → Nat → Option Nat) (v2 : Nat → Value) (tx2 : mm_W), Inv f2 fl2 g2 gl2 hh2 v2 tx2 → tx2.length ≤ tx.length + 3 → mm_sl tx2 ≤ mm_sl tx + 464 → WP X 2000 0 (1217, [some (.float 0), some (.ref 0), some (.ref 74), some (.int (nI n))], [], Wd f2 fl2 g2 gl2 hh2 v2 tx2) P) : WP X 2000 0 (354, [some (.float 0), some (.ref 0), some (.ref 74), some (.int (nI n))], [], Wd f fl g gl hh v tx) P := by
  have hop := hop0 (X.2 (nI n + 1).toNatClampNeg) (X.2 (nI n + 2).toNatClampNeg) (X.2 (nI n + 3).toNatClampNeg)
  refine WP.run hP_0 5 (c' := (359, [some (.float 0), some (.ref 0), some (.ref 74), some (.int (nI n))], [.int (nI n + 1), .float 0, .ref 0], Wd f fl g gl hh v tx)) rfl ?_
  refine WP.of (fun _ _ => Ex.sald hP_0 rfl (hin 1 (by decide))) ?_
  refine WP.run hP_0 4 (c' := (364, [some (.float 0), some (.ref 0), some (.ref 74), some (.int (nI n))], [.int (nI n + 2), .float 0, .int (X.2 (nI n + 1).toNatClampNeg), .ref 0], Wd f fl g gl hh v tx)) rfl ?_
  refine WP.of (fun _ _ => Ex.sald hP_0 rfl (hin 2 (by decide))) ?_
  refine WP.run hP_0 4 (c' := (369, [some (.float 0), some (.ref 0), some (.ref 74), some (.int (nI n))], [.int (nI n + 3), .float 0, .int (X.2 (nI n + 2).toNatClampNeg), .int (X.2 (nI n + 1).toNatClampNeg), .ref 0], Wd f fl g gl hh v tx)) rfl ?_
  refine WP.of (fun _ _ => Ex.sald hP_0 rfl (hin 3 (by decide))) ?_
  refine WP.call hP_0 hP_62 (as := [.ref 0, .int (X.2 (nI n + 1).toNatClampNeg), .int (X.2 (nI n + 2).toNatClampNeg), .int (X.2 (nI n + 3).toNatClampNeg)]) (pc' := 373) (L' := [some (.float 0), some (.ref 0), some (.ref 74), some (.int (nI n))]) (st' := []) (w1 := Wd f fl g gl hh v tx) rfl ⟨Nat.le_of_ble_eq_true rfl, Nat.le_of_ble_eq_true rfl⟩ rfl ?_
  refine WP.mono (hop X f fl g gl hh v tx hI) ?_
  rintro r1 w1 ⟨a, f1, fl1, g1, gl1, hh1, v1, tx1, rfl, rfl, hm⟩
  show WP X 2000 0 (373, [some (.float 0), some (.ref 0), some (.ref 74), some (.int (nI n))], [.int a.toInt32], Wd f1 fl1 g1 gl1 hh1 v1 tx1) P
  refine WP.run hP_0 5 (c' := (378, [some (.float 0), some (.ref 0), some (.ref 74), some (.int (nI n))], [.int (nI n + 1), .float 0, .ref 74, .int a.toInt32], Wd f1 fl1 g1 gl1 hh1 v1 tx1)) rfl ?_
  refine WP.of (fun _ _ => Ex.sald hP_0 rfl (hin 1 (by decide))) ?_
  refine WP.run hP_0 4 (c' := (383, [some (.float 0), some (.ref 0), some (.ref 74), some (.int (nI n))], [.int (nI n + 2), .float 0, .int (X.2 (nI n + 1).toNatClampNeg), .ref 74, .int a.toInt32], Wd f1 fl1 g1 gl1 hh1 v1 tx1)) rfl ?_
  refine WP.of (fun _ _ => Ex.sald hP_0 rfl (hin 2 (by decide))) ?_
  refine WP.run hP_0 4 (c' := (388, [some (.float 0), some (.ref 0), some (.ref 74), some (.int (nI n))], [.int (nI n + 3), .float 0, .int (X.2 (nI n + 2).toNatClampNeg), .int (X.2 (nI n + 1).toNatClampNeg), .ref 74, .int a.toInt32], Wd f1 fl1 g1 gl1 hh1 v1 tx1)) rfl ?_
  refine WP.of (fun _ _ => Ex.sald hP_0 rfl (hin 3 (by decide))) ?_
  refine WP.call hP_0 hP_141 (as := [.ref 74, .int (X.2 (nI n + 1).toNatClampNeg), .int (X.2 (nI n + 2).toNatClampNeg), .int (X.2 (nI n + 3).toNatClampNeg)]) (pc' := 392) (L' := [some (.float 0), some (.ref 0), some (.ref 74), some (.int (nI n))]) (st' := [.int a.toInt32]) (w1 := Wd f1 fl1 g1 gl1 hh1 v1 tx1) rfl ⟨Nat.le_of_ble_eq_true rfl, Nat.le_of_ble_eq_true rfl⟩ rfl ?_
  refine WP.mono hm ?_
  rintro r2 w2 ⟨rfl, f2, fl2, g2, gl2, hh2, v2, tx2, rfl, hI2, hs1, hs2⟩
  show WP X 2000 0 (392, [some (.float 0), some (.ref 0), some (.ref 74), some (.int (nI n))], [.int a.toInt32, .int a.toInt32], Wd f2 fl2 g2 gl2 hh2 v2 tx2) P
  exact WP.br hP_0 (q := a.toInt32 = a.toInt32) (t := 1217) (f := 395) (L := [some (.float 0), some (.ref 0), some (.ref 74), some (.int (nI n))]) (st := []) (w := Wd f2 fl2 g2 gl2 hh2 v2 tx2) rfl (fun _ => hnext _ _ _ _ _ _ _ hI2 hs1 hs2) (fun c => absurd rfl c)
def k_op5 (Inv : k_I) : Prop := (∀ a0 : Int32, k_op k_mi Inv 63 142 [some (.ref 0), some (.int a0)] [some (.ref 74), some (.int a0)])
set_option maxRecDepth 20000 in
theorem k_c5 {Inv : k_I} (hop0 : k_op5 Inv) {X : mm_X} {n : Nat} (f : Nat → Int32) (fl : Nat → Int64) (g : Nat → Nat → Int32) (gl : Nat → Nat → Int64) (hh : Nat → Nat → Option Nat) (v : Nat → Value) (tx : mm_W) {P : Option Value → mm_W → Prop} (hin : ∀ j : Int32, (j = 0 ∨ j = 1 ∨ j = 2 ∨ j = 3 ∨ j = 4 ∨ j = 5) → ¬ (nI n + j < 0 ∨ X.1 ≤ (nI n + j).toNatClampNeg)) (hI : Inv f fl g gl hh v tx) (hnext : ∀ (f2 : Nat → Int32) (fl2 : Nat → Int64) (g2 : Nat → Nat → Int32) (gl2 : Nat → Nat → Int64) (hh2 : Nat → Nat → Option Nat) (v2 : Nat → Value) (tx2 : mm_W), Inv f2 fl2 g2 gl2 hh2 v2 tx2 → tx2.length ≤ tx.length + 3 → mm_sl tx2 ≤ mm_sl tx + 464 → WP X 2000 0 (1217, [some (.float 0), some (.ref 0), some (.ref 74), some (.int (nI n))], [], Wd f2 fl2 g2 gl2 hh2 v2 tx2) P) : WP X 2000 0 (397, [some (.float 0), some (.ref 0), some (.ref 74), some (.int (nI n))], [], Wd f fl g gl hh v tx) P := by
  have hop := hop0 (X.2 (nI n + 1).toNatClampNeg)
  refine WP.run hP_0 5 (c' := (402, [some (.float 0), some (.ref 0), some (.ref 74), some (.int (nI n))], [.int (nI n + 1), .float 0, .ref 0], Wd f fl g gl hh v tx)) rfl ?_
  refine WP.of (fun _ _ => Ex.sald hP_0 rfl (hin 1 (by decide))) ?_
  refine WP.call hP_0 hP_63 (as := [.ref 0, .int (X.2 (nI n + 1).toNatClampNeg)]) (pc' := 406) (L' := [some (.float 0), some (.ref 0), some (.ref 74), some (.int (nI n))]) (st' := []) (w1 := Wd f fl g gl hh v tx) rfl ⟨Nat.le_of_ble_eq_true rfl, Nat.le_of_ble_eq_true rfl⟩ rfl ?_
  refine WP.mono (hop X f fl g gl hh v tx hI) ?_
  rintro r1 w1 ⟨a, f1, fl1, g1, gl1, hh1, v1, tx1, rfl, rfl, hm⟩
  show WP X 2000 0 (406, [some (.float 0), some (.ref 0), some (.ref 74), some (.int (nI n))], [.int a.toInt32], Wd f1 fl1 g1 gl1 hh1 v1 tx1) P
  refine WP.run hP_0 5 (c' := (411, [some (.float 0), some (.ref 0), some (.ref 74), some (.int (nI n))], [.int (nI n + 1), .float 0, .ref 74, .int a.toInt32], Wd f1 fl1 g1 gl1 hh1 v1 tx1)) rfl ?_
  refine WP.of (fun _ _ => Ex.sald hP_0 rfl (hin 1 (by decide))) ?_
  refine WP.call hP_0 hP_142 (as := [.ref 74, .int (X.2 (nI n + 1).toNatClampNeg)]) (pc' := 415) (L' := [some (.float 0), some (.ref 0), some (.ref 74), some (.int (nI n))]) (st' := [.int a.toInt32]) (w1 := Wd f1 fl1 g1 gl1 hh1 v1 tx1) rfl ⟨Nat.le_of_ble_eq_true rfl, Nat.le_of_ble_eq_true rfl⟩ rfl ?_
  refine WP.mono hm ?_
  rintro r2 w2 ⟨rfl, f2, fl2, g2, gl2, hh2, v2, tx2, rfl, hI2, hs1, hs2⟩
  show WP X 2000 0 (415, [some (.float 0), some (.ref 0), some (.ref 74), some (.int (nI n))], [.int a.toInt32, .int a.toInt32], Wd f2 fl2 g2 gl2 hh2 v2 tx2) P
  exact WP.br hP_0 (q := a.toInt32 = a.toInt32) (t := 1217) (f := 418) (L := [some (.float 0), some (.ref 0), some (.ref 74), some (.int (nI n))]) (st := []) (w := Wd f2 fl2 g2 gl2 hh2 v2 tx2) rfl (fun _ => hnext _ _ _ _ _ _ _ hI2 hs1 hs2) (fun c => absurd rfl c)
def k_op6 (Inv : k_I) : Prop := (∀ a0 a1 : Int32, k_op k_mi Inv 64 145 [some (.ref 0), some (.int a0), some (.int a1), none, none] [some (.ref 74), some (.int a0), some (.int a1), none])
set_option maxRecDepth 20000 in
theorem k_c6 {Inv : k_I} (hop0 : k_op6 Inv) {X : mm_X} {n : Nat} (f : Nat → Int32) (fl : Nat → Int64) (g : Nat → Nat → Int32) (gl : Nat → Nat → Int64) (hh : Nat → Nat → Option Nat) (v : Nat → Value) (tx : mm_W) {P : Option Value → mm_W → Prop} (hin : ∀ j : Int32, (j = 0 ∨ j = 1 ∨ j = 2 ∨ j = 3 ∨ j = 4 ∨ j = 5) → ¬ (nI n + j < 0 ∨ X.1 ≤ (nI n + j).toNatClampNeg)) (hI : Inv f fl g gl hh v tx) (hnext : ∀ (f2 : Nat → Int32) (fl2 : Nat → Int64) (g2 : Nat → Nat → Int32) (gl2 : Nat → Nat → Int64) (hh2 : Nat → Nat → Option Nat) (v2 : Nat → Value) (tx2 : mm_W), Inv f2 fl2 g2 gl2 hh2 v2 tx2 → tx2.length ≤ tx.length + 3 → mm_sl tx2 ≤ mm_sl tx + 464 → WP X 2000 0 (1217, [some (.float 0), some (.ref 0), some (.ref 74), some (.int (nI n))], [], Wd f2 fl2 g2 gl2 hh2 v2 tx2) P) : WP X 2000 0 (420, [some (.float 0), some (.ref 0), some (.ref 74), some (.int (nI n))], [], Wd f fl g gl hh v tx) P := by
  have hop := hop0 (X.2 (nI n + 1).toNatClampNeg) (X.2 (nI n + 2).toNatClampNeg)
  refine WP.run hP_0 5 (c' := (425, [some (.float 0), some (.ref 0), some (.ref 74), some (.int (nI n))], [.int (nI n + 1), .float 0, .ref 0], Wd f fl g gl hh v tx)) rfl ?_
  refine WP.of (fun _ _ => Ex.sald hP_0 rfl (hin 1 (by decide))) ?_
  refine WP.run hP_0 4 (c' := (430, [some (.float 0), some (.ref 0), some (.ref 74), some (.int (nI n))], [.int (nI n + 2), .float 0, .int (X.2 (nI n + 1).toNatClampNeg), .ref 0], Wd f fl g gl hh v tx)) rfl ?_
  refine WP.of (fun _ _ => Ex.sald hP_0 rfl (hin 2 (by decide))) ?_
  refine WP.call hP_0 hP_64 (as := [.ref 0, .int (X.2 (nI n + 1).toNatClampNeg), .int (X.2 (nI n + 2).toNatClampNeg)]) (pc' := 434) (L' := [some (.float 0), some (.ref 0), some (.ref 74), some (.int (nI n))]) (st' := []) (w1 := Wd f fl g gl hh v tx) rfl ⟨Nat.le_of_ble_eq_true rfl, Nat.le_of_ble_eq_true rfl⟩ rfl ?_
  refine WP.mono (hop X f fl g gl hh v tx hI) ?_
  rintro r1 w1 ⟨a, f1, fl1, g1, gl1, hh1, v1, tx1, rfl, rfl, hm⟩
  show WP X 2000 0 (434, [some (.float 0), some (.ref 0), some (.ref 74), some (.int (nI n))], [.int a.toInt32], Wd f1 fl1 g1 gl1 hh1 v1 tx1) P
  refine WP.run hP_0 5 (c' := (439, [some (.float 0), some (.ref 0), some (.ref 74), some (.int (nI n))], [.int (nI n + 1), .float 0, .ref 74, .int a.toInt32], Wd f1 fl1 g1 gl1 hh1 v1 tx1)) rfl ?_
  refine WP.of (fun _ _ => Ex.sald hP_0 rfl (hin 1 (by decide))) ?_
  refine WP.run hP_0 4 (c' := (444, [some (.float 0), some (.ref 0), some (.ref 74), some (.int (nI n))], [.int (nI n + 2), .float 0, .int (X.2 (nI n + 1).toNatClampNeg), .ref 74, .int a.toInt32], Wd f1 fl1 g1 gl1 hh1 v1 tx1)) rfl ?_
  refine WP.of (fun _ _ => Ex.sald hP_0 rfl (hin 2 (by decide))) ?_
  refine WP.call hP_0 hP_145 (as := [.ref 74, .int (X.2 (nI n + 1).toNatClampNeg), .int (X.2 (nI n + 2).toNatClampNeg)]) (pc' := 448) (L' := [some (.float 0), some (.ref 0), some (.ref 74), some (.int (nI n))]) (st' := [.int a.toInt32]) (w1 := Wd f1 fl1 g1 gl1 hh1 v1 tx1) rfl ⟨Nat.le_of_ble_eq_true rfl, Nat.le_of_ble_eq_true rfl⟩ rfl ?_
  refine WP.mono hm ?_
  rintro r2 w2 ⟨rfl, f2, fl2, g2, gl2, hh2, v2, tx2, rfl, hI2, hs1, hs2⟩
  show WP X 2000 0 (448, [some (.float 0), some (.ref 0), some (.ref 74), some (.int (nI n))], [.int a.toInt32, .int a.toInt32], Wd f2 fl2 g2 gl2 hh2 v2 tx2) P
  exact WP.br hP_0 (q := a.toInt32 = a.toInt32) (t := 1217) (f := 451) (L := [some (.float 0), some (.ref 0), some (.ref 74), some (.int (nI n))]) (st := []) (w := Wd f2 fl2 g2 gl2 hh2 v2 tx2) rfl (fun _ => hnext _ _ _ _ _ _ _ hI2 hs1 hs2) (fun c => absurd rfl c)
def k_op7 (Inv : k_I) : Prop := (∀ a0 a1 a2 a3 a4 : Int32, k_op k_mi Inv 65 149 [some (.ref 0), some (.int a0), some (.int a1), some (.int a2), some (.int a3), some (.int a4)] [some (.ref 74), some (.int a0), some (.int a1), some (.int a2), some (.int a3), some (.int a4), none])
set_option maxRecDepth 20000 in
theorem k_c7 {Inv : k_I} (hop0 : k_op7 Inv) {X : mm_X} {n : Nat} (f : Nat → Int32) (fl : Nat → Int64) (g : Nat → Nat → Int32) (gl : Nat → Nat → Int64) (hh : Nat → Nat → Option Nat) (v : Nat → Value) (tx : mm_W) {P : Option Value → mm_W → Prop} (hin : ∀ j : Int32, (j = 0 ∨ j = 1 ∨ j = 2 ∨ j = 3 ∨ j = 4 ∨ j = 5) → ¬ (nI n + j < 0 ∨ X.1 ≤ (nI n + j).toNatClampNeg)) (hI : Inv f fl g gl hh v tx) (hnext : ∀ (f2 : Nat → Int32) (fl2 : Nat → Int64) (g2 : Nat → Nat → Int32) (gl2 : Nat → Nat → Int64) (hh2 : Nat → Nat → Option Nat) (v2 : Nat → Value) (tx2 : mm_W), Inv f2 fl2 g2 gl2 hh2 v2 tx2 → tx2.length ≤ tx.length + 3 → mm_sl tx2 ≤ mm_sl tx + 464 → WP X 2000 0 (1217, [some (.float 0), some (.ref 0), some (.ref 74), some (.int (nI n))], [], Wd f2 fl2 g2 gl2 hh2 v2 tx2) P) : WP X 2000 0 (453, [some (.float 0), some (.ref 0), some (.ref 74), some (.int (nI n))], [], Wd f fl g gl hh v tx) P := by
  have hop := hop0 (X.2 (nI n + 1).toNatClampNeg) (X.2 (nI n + 2).toNatClampNeg) (X.2 (nI n + 3).toNatClampNeg) (X.2 (nI n + 4).toNatClampNeg) (X.2 (nI n + 5).toNatClampNeg)
  refine WP.run hP_0 5 (c' := (458, [some (.float 0), some (.ref 0), some (.ref 74), some (.int (nI n))], [.int (nI n + 1), .float 0, .ref 0], Wd f fl g gl hh v tx)) rfl ?_
  refine WP.of (fun _ _ => Ex.sald hP_0 rfl (hin 1 (by decide))) ?_
  refine WP.run hP_0 4 (c' := (463, [some (.float 0), some (.ref 0), some (.ref 74), some (.int (nI n))], [.int (nI n + 2), .float 0, .int (X.2 (nI n + 1).toNatClampNeg), .ref 0], Wd f fl g gl hh v tx)) rfl ?_
  refine WP.of (fun _ _ => Ex.sald hP_0 rfl (hin 2 (by decide))) ?_
  refine WP.run hP_0 4 (c' := (468, [some (.float 0), some (.ref 0), some (.ref 74), some (.int (nI n))], [.int (nI n + 3), .float 0, .int (X.2 (nI n + 2).toNatClampNeg), .int (X.2 (nI n + 1).toNatClampNeg), .ref 0], Wd f fl g gl hh v tx)) rfl ?_
  refine WP.of (fun _ _ => Ex.sald hP_0 rfl (hin 3 (by decide))) ?_
  refine WP.run hP_0 4 (c' := (473, [some (.float 0), some (.ref 0), some (.ref 74), some (.int (nI n))], [.int (nI n + 4), .float 0, .int (X.2 (nI n + 3).toNatClampNeg), .int (X.2 (nI n + 2).toNatClampNeg), .int (X.2 (nI n + 1).toNatClampNeg), .ref 0], Wd f fl g gl hh v tx)) rfl ?_
  refine WP.of (fun _ _ => Ex.sald hP_0 rfl (hin 4 (by decide))) ?_
  refine WP.run hP_0 4 (c' := (478, [some (.float 0), some (.ref 0), some (.ref 74), some (.int (nI n))], [.int (nI n + 5), .float 0, .int (X.2 (nI n + 4).toNatClampNeg), .int (X.2 (nI n + 3).toNatClampNeg), .int (X.2 (nI n + 2).toNatClampNeg), .int (X.2 (nI n + 1).toNatClampNeg), .ref 0], Wd f fl g gl hh v tx)) rfl ?_
  refine WP.of (fun _ _ => Ex.sald hP_0 rfl (hin 5 (by decide))) ?_
  refine WP.call hP_0 hP_65 (as := [.ref 0, .int (X.2 (nI n + 1).toNatClampNeg), .int (X.2 (nI n + 2).toNatClampNeg), .int (X.2 (nI n + 3).toNatClampNeg), .int (X.2 (nI n + 4).toNatClampNeg), .int (X.2 (nI n + 5).toNatClampNeg)]) (pc' := 482) (L' := [some (.float 0), some (.ref 0), some (.ref 74), some (.int (nI n))]) (st' := []) (w1 := Wd f fl g gl hh v tx) rfl ⟨Nat.le_of_ble_eq_true rfl, Nat.le_of_ble_eq_true rfl⟩ rfl ?_
  refine WP.mono (hop X f fl g gl hh v tx hI) ?_
  rintro r1 w1 ⟨a, f1, fl1, g1, gl1, hh1, v1, tx1, rfl, rfl, hm⟩
  show WP X 2000 0 (482, [some (.float 0), some (.ref 0), some (.ref 74), some (.int (nI n))], [.int a.toInt32], Wd f1 fl1 g1 gl1 hh1 v1 tx1) P
  refine WP.run hP_0 5 (c' := (487, [some (.float 0), some (.ref 0), some (.ref 74), some (.int (nI n))], [.int (nI n + 1), .float 0, .ref 74, .int a.toInt32], Wd f1 fl1 g1 gl1 hh1 v1 tx1)) rfl ?_
  refine WP.of (fun _ _ => Ex.sald hP_0 rfl (hin 1 (by decide))) ?_
  refine WP.run hP_0 4 (c' := (492, [some (.float 0), some (.ref 0), some (.ref 74), some (.int (nI n))], [.int (nI n + 2), .float 0, .int (X.2 (nI n + 1).toNatClampNeg), .ref 74, .int a.toInt32], Wd f1 fl1 g1 gl1 hh1 v1 tx1)) rfl ?_
  refine WP.of (fun _ _ => Ex.sald hP_0 rfl (hin 2 (by decide))) ?_
  refine WP.run hP_0 4 (c' := (497, [some (.float 0), some (.ref 0), some (.ref 74), some (.int (nI n))], [.int (nI n + 3), .float 0, .int (X.2 (nI n + 2).toNatClampNeg), .int (X.2 (nI n + 1).toNatClampNeg), .ref 74, .int a.toInt32], Wd f1 fl1 g1 gl1 hh1 v1 tx1)) rfl ?_
  refine WP.of (fun _ _ => Ex.sald hP_0 rfl (hin 3 (by decide))) ?_
  refine WP.run hP_0 4 (c' := (502, [some (.float 0), some (.ref 0), some (.ref 74), some (.int (nI n))], [.int (nI n + 4), .float 0, .int (X.2 (nI n + 3).toNatClampNeg), .int (X.2 (nI n + 2).toNatClampNeg), .int (X.2 (nI n + 1).toNatClampNeg), .ref 74, .int a.toInt32], Wd f1 fl1 g1 gl1 hh1 v1 tx1)) rfl ?_
  refine WP.of (fun _ _ => Ex.sald hP_0 rfl (hin 4 (by decide))) ?_
  refine WP.run hP_0 4 (c' := (507, [some (.float 0), some (.ref 0), some (.ref 74), some (.int (nI n))], [.int (nI n + 5), .float 0, .int (X.2 (nI n + 4).toNatClampNeg), .int (X.2 (nI n + 3).toNatClampNeg), .int (X.2 (nI n + 2).toNatClampNeg), .int (X.2 (nI n + 1).toNatClampNeg), .ref 74, .int a.toInt32], Wd f1 fl1 g1 gl1 hh1 v1 tx1)) rfl ?_
  refine WP.of (fun _ _ => Ex.sald hP_0 rfl (hin 5 (by decide))) ?_
  refine WP.call hP_0 hP_149 (as := [.ref 74, .int (X.2 (nI n + 1).toNatClampNeg), .int (X.2 (nI n + 2).toNatClampNeg), .int (X.2 (nI n + 3).toNatClampNeg), .int (X.2 (nI n + 4).toNatClampNeg), .int (X.2 (nI n + 5).toNatClampNeg)]) (pc' := 511) (L' := [some (.float 0), some (.ref 0), some (.ref 74), some (.int (nI n))]) (st' := [.int a.toInt32]) (w1 := Wd f1 fl1 g1 gl1 hh1 v1 tx1) rfl ⟨Nat.le_of_ble_eq_true rfl, Nat.le_of_ble_eq_true rfl⟩ rfl ?_
  refine WP.mono hm ?_
  rintro r2 w2 ⟨rfl, f2, fl2, g2, gl2, hh2, v2, tx2, rfl, hI2, hs1, hs2⟩
  show WP X 2000 0 (511, [some (.float 0), some (.ref 0), some (.ref 74), some (.int (nI n))], [.int a.toInt32, .int a.toInt32], Wd f2 fl2 g2 gl2 hh2 v2 tx2) P
  exact WP.br hP_0 (q := a.toInt32 = a.toInt32) (t := 1217) (f := 514) (L := [some (.float 0), some (.ref 0), some (.ref 74), some (.int (nI n))]) (st := []) (w := Wd f2 fl2 g2 gl2 hh2 v2 tx2) rfl (fun _ => hnext _ _ _ _ _ _ _ hI2 hs1 hs2) (fun c => absurd rfl c)
def k_op8 (Inv : k_I) : Prop := (∀ a0 : Int32, k_op k_mi Inv 66 150 [some (.ref 0), some (.int a0)] [some (.ref 74), some (.int a0)])
set_option maxRecDepth 20000 in
theorem k_c8 {Inv : k_I} (hop0 : k_op8 Inv) {X : mm_X} {n : Nat} (f : Nat → Int32) (fl : Nat → Int64) (g : Nat → Nat → Int32) (gl : Nat → Nat → Int64) (hh : Nat → Nat → Option Nat) (v : Nat → Value) (tx : mm_W) {P : Option Value → mm_W → Prop} (hin : ∀ j : Int32, (j = 0 ∨ j = 1 ∨ j = 2 ∨ j = 3 ∨ j = 4 ∨ j = 5) → ¬ (nI n + j < 0 ∨ X.1 ≤ (nI n + j).toNatClampNeg)) (hI : Inv f fl g gl hh v tx) (hnext : ∀ (f2 : Nat → Int32) (fl2 : Nat → Int64) (g2 : Nat → Nat → Int32) (gl2 : Nat → Nat → Int64) (hh2 : Nat → Nat → Option Nat) (v2 : Nat → Value) (tx2 : mm_W), Inv f2 fl2 g2 gl2 hh2 v2 tx2 → tx2.length ≤ tx.length + 3 → mm_sl tx2 ≤ mm_sl tx + 464 → WP X 2000 0 (1217, [some (.float 0), some (.ref 0), some (.ref 74), some (.int (nI n))], [], Wd f2 fl2 g2 gl2 hh2 v2 tx2) P) : WP X 2000 0 (516, [some (.float 0), some (.ref 0), some (.ref 74), some (.int (nI n))], [], Wd f fl g gl hh v tx) P := by
  have hop := hop0 (X.2 (nI n + 1).toNatClampNeg)
  refine WP.run hP_0 5 (c' := (521, [some (.float 0), some (.ref 0), some (.ref 74), some (.int (nI n))], [.int (nI n + 1), .float 0, .ref 0], Wd f fl g gl hh v tx)) rfl ?_
  refine WP.of (fun _ _ => Ex.sald hP_0 rfl (hin 1 (by decide))) ?_
  refine WP.call hP_0 hP_66 (as := [.ref 0, .int (X.2 (nI n + 1).toNatClampNeg)]) (pc' := 525) (L' := [some (.float 0), some (.ref 0), some (.ref 74), some (.int (nI n))]) (st' := []) (w1 := Wd f fl g gl hh v tx) rfl ⟨Nat.le_of_ble_eq_true rfl, Nat.le_of_ble_eq_true rfl⟩ rfl ?_
  refine WP.mono (hop X f fl g gl hh v tx hI) ?_
  rintro r1 w1 ⟨a, f1, fl1, g1, gl1, hh1, v1, tx1, rfl, rfl, hm⟩
  show WP X 2000 0 (525, [some (.float 0), some (.ref 0), some (.ref 74), some (.int (nI n))], [.int a.toInt32], Wd f1 fl1 g1 gl1 hh1 v1 tx1) P
  refine WP.run hP_0 5 (c' := (530, [some (.float 0), some (.ref 0), some (.ref 74), some (.int (nI n))], [.int (nI n + 1), .float 0, .ref 74, .int a.toInt32], Wd f1 fl1 g1 gl1 hh1 v1 tx1)) rfl ?_
  refine WP.of (fun _ _ => Ex.sald hP_0 rfl (hin 1 (by decide))) ?_
  refine WP.call hP_0 hP_150 (as := [.ref 74, .int (X.2 (nI n + 1).toNatClampNeg)]) (pc' := 534) (L' := [some (.float 0), some (.ref 0), some (.ref 74), some (.int (nI n))]) (st' := [.int a.toInt32]) (w1 := Wd f1 fl1 g1 gl1 hh1 v1 tx1) rfl ⟨Nat.le_of_ble_eq_true rfl, Nat.le_of_ble_eq_true rfl⟩ rfl ?_
  refine WP.mono hm ?_
  rintro r2 w2 ⟨rfl, f2, fl2, g2, gl2, hh2, v2, tx2, rfl, hI2, hs1, hs2⟩
  show WP X 2000 0 (534, [some (.float 0), some (.ref 0), some (.ref 74), some (.int (nI n))], [.int a.toInt32, .int a.toInt32], Wd f2 fl2 g2 gl2 hh2 v2 tx2) P
  exact WP.br hP_0 (q := a.toInt32 = a.toInt32) (t := 1217) (f := 537) (L := [some (.float 0), some (.ref 0), some (.ref 74), some (.int (nI n))]) (st := []) (w := Wd f2 fl2 g2 gl2 hh2 v2 tx2) rfl (fun _ => hnext _ _ _ _ _ _ _ hI2 hs1 hs2) (fun c => absurd rfl c)
def k_op9 (Inv : k_I) : Prop := k_op k_mi Inv 67 147 [some (.ref 0), none, none, none, none] [some (.ref 74), none, none, none, none]
set_option maxRecDepth 20000 in
theorem k_c9 {Inv : k_I} (hop0 : k_op9 Inv) {X : mm_X} {n : Nat} (f : Nat → Int32) (fl : Nat → Int64) (g : Nat → Nat → Int32) (gl : Nat → Nat → Int64) (hh : Nat → Nat → Option Nat) (v : Nat → Value) (tx : mm_W) {P : Option Value → mm_W → Prop} (hin : ∀ j : Int32, (j = 0 ∨ j = 1 ∨ j = 2 ∨ j = 3 ∨ j = 4 ∨ j = 5) → ¬ (nI n + j < 0 ∨ X.1 ≤ (nI n + j).toNatClampNeg)) (hI : Inv f fl g gl hh v tx) (hnext : ∀ (f2 : Nat → Int32) (fl2 : Nat → Int64) (g2 : Nat → Nat → Int32) (gl2 : Nat → Nat → Int64) (hh2 : Nat → Nat → Option Nat) (v2 : Nat → Value) (tx2 : mm_W), Inv f2 fl2 g2 gl2 hh2 v2 tx2 → tx2.length ≤ tx.length + 3 → mm_sl tx2 ≤ mm_sl tx + 464 → WP X 2000 0 (1217, [some (.float 0), some (.ref 0), some (.ref 74), some (.int (nI n))], [], Wd f2 fl2 g2 gl2 hh2 v2 tx2) P) : WP X 2000 0 (539, [some (.float 0), some (.ref 0), some (.ref 74), some (.int (nI n))], [], Wd f fl g gl hh v tx) P := by
  have hop := hop0
  refine WP.run hP_0 1 (c' := (540, [some (.float 0), some (.ref 0), some (.ref 74), some (.int (nI n))], [.ref 0], Wd f fl g gl hh v tx)) rfl ?_
  refine WP.call hP_0 hP_67 (as := [.ref 0]) (pc' := 543) (L' := [some (.float 0), some (.ref 0), some (.ref 74), some (.int (nI n))]) (st' := []) (w1 := Wd f fl g gl hh v tx) rfl ⟨Nat.le_of_ble_eq_true rfl, Nat.le_of_ble_eq_true rfl⟩ rfl ?_
  refine WP.mono (hop X f fl g gl hh v tx hI) ?_
  rintro r1 w1 ⟨a, f1, fl1, g1, gl1, hh1, v1, tx1, rfl, rfl, hm⟩
  show WP X 2000 0 (543, [some (.float 0), some (.ref 0), some (.ref 74), some (.int (nI n))], [.int a.toInt32], Wd f1 fl1 g1 gl1 hh1 v1 tx1) P
  refine WP.run hP_0 1 (c' := (544, [some (.float 0), some (.ref 0), some (.ref 74), some (.int (nI n))], [.ref 74, .int a.toInt32], Wd f1 fl1 g1 gl1 hh1 v1 tx1)) rfl ?_
  refine WP.call hP_0 hP_147 (as := [.ref 74]) (pc' := 547) (L' := [some (.float 0), some (.ref 0), some (.ref 74), some (.int (nI n))]) (st' := [.int a.toInt32]) (w1 := Wd f1 fl1 g1 gl1 hh1 v1 tx1) rfl ⟨Nat.le_of_ble_eq_true rfl, Nat.le_of_ble_eq_true rfl⟩ rfl ?_
  refine WP.mono hm ?_
  rintro r2 w2 ⟨rfl, f2, fl2, g2, gl2, hh2, v2, tx2, rfl, hI2, hs1, hs2⟩
  show WP X 2000 0 (547, [some (.float 0), some (.ref 0), some (.ref 74), some (.int (nI n))], [.int a.toInt32, .int a.toInt32], Wd f2 fl2 g2 gl2 hh2 v2 tx2) P
  exact WP.br hP_0 (q := a.toInt32 = a.toInt32) (t := 1217) (f := 550) (L := [some (.float 0), some (.ref 0), some (.ref 74), some (.int (nI n))]) (st := []) (w := Wd f2 fl2 g2 gl2 hh2 v2 tx2) rfl (fun _ => hnext _ _ _ _ _ _ _ hI2 hs1 hs2) (fun c => absurd rfl c)
def k_op10 (Inv : k_I) : Prop := k_op k_mi Inv 68 148 [some (.ref 0)] [some (.ref 74)]
set_option maxRecDepth 20000 in
theorem k_c10 {Inv : k_I} (hop0 : k_op10 Inv) {X : mm_X} {n : Nat} (f : Nat → Int32) (fl : Nat → Int64) (g : Nat → Nat → Int32) (gl : Nat → Nat → Int64) (hh : Nat → Nat → Option Nat) (v : Nat → Value) (tx : mm_W) {P : Option Value → mm_W → Prop} (hin : ∀ j : Int32, (j = 0 ∨ j = 1 ∨ j = 2 ∨ j = 3 ∨ j = 4 ∨ j = 5) → ¬ (nI n + j < 0 ∨ X.1 ≤ (nI n + j).toNatClampNeg)) (hI : Inv f fl g gl hh v tx) (hnext : ∀ (f2 : Nat → Int32) (fl2 : Nat → Int64) (g2 : Nat → Nat → Int32) (gl2 : Nat → Nat → Int64) (hh2 : Nat → Nat → Option Nat) (v2 : Nat → Value) (tx2 : mm_W), Inv f2 fl2 g2 gl2 hh2 v2 tx2 → tx2.length ≤ tx.length + 3 → mm_sl tx2 ≤ mm_sl tx + 464 → WP X 2000 0 (1217, [some (.float 0), some (.ref 0), some (.ref 74), some (.int (nI n))], [], Wd f2 fl2 g2 gl2 hh2 v2 tx2) P) : WP X 2000 0 (552, [some (.float 0), some (.ref 0), some (.ref 74), some (.int (nI n))], [], Wd f fl g gl hh v tx) P := by
  have hop := hop0
  refine WP.run hP_0 1 (c' := (553, [some (.float 0), some (.ref 0), some (.ref 74), some (.int (nI n))], [.ref 0], Wd f fl g gl hh v tx)) rfl ?_
  refine WP.call hP_0 hP_68 (as := [.ref 0]) (pc' := 556) (L' := [some (.float 0), some (.ref 0), some (.ref 74), some (.int (nI n))]) (st' := []) (w1 := Wd f fl g gl hh v tx) rfl ⟨Nat.le_of_ble_eq_true rfl, Nat.le_of_ble_eq_true rfl⟩ rfl ?_
  refine WP.mono (hop X f fl g gl hh v tx hI) ?_
  rintro r1 w1 ⟨a, f1, fl1, g1, gl1, hh1, v1, tx1, rfl, rfl, hm⟩
  show WP X 2000 0 (556, [some (.float 0), some (.ref 0), some (.ref 74), some (.int (nI n))], [.int a.toInt32], Wd f1 fl1 g1 gl1 hh1 v1 tx1) P
  refine WP.run hP_0 1 (c' := (557, [some (.float 0), some (.ref 0), some (.ref 74), some (.int (nI n))], [.ref 74, .int a.toInt32], Wd f1 fl1 g1 gl1 hh1 v1 tx1)) rfl ?_
  refine WP.call hP_0 hP_148 (as := [.ref 74]) (pc' := 560) (L' := [some (.float 0), some (.ref 0), some (.ref 74), some (.int (nI n))]) (st' := [.int a.toInt32]) (w1 := Wd f1 fl1 g1 gl1 hh1 v1 tx1) rfl ⟨Nat.le_of_ble_eq_true rfl, Nat.le_of_ble_eq_true rfl⟩ rfl ?_
  refine WP.mono hm ?_
  rintro r2 w2 ⟨rfl, f2, fl2, g2, gl2, hh2, v2, tx2, rfl, hI2, hs1, hs2⟩
  show WP X 2000 0 (560, [some (.float 0), some (.ref 0), some (.ref 74), some (.int (nI n))], [.int a.toInt32, .int a.toInt32], Wd f2 fl2 g2 gl2 hh2 v2 tx2) P
  exact WP.br hP_0 (q := a.toInt32 = a.toInt32) (t := 1217) (f := 563) (L := [some (.float 0), some (.ref 0), some (.ref 74), some (.int (nI n))]) (st := []) (w := Wd f2 fl2 g2 gl2 hh2 v2 tx2) rfl (fun _ => hnext _ _ _ _ _ _ _ hI2 hs1 hs2) (fun c => absurd rfl c)
def k_op11 (Inv : k_I) : Prop := k_op k_mi Inv 69 174 [some (.ref 0), none, none] [some (.ref 74)]
set_option maxRecDepth 20000 in
theorem k_c11 {Inv : k_I} (hop0 : k_op11 Inv) {X : mm_X} {n : Nat} (f : Nat → Int32) (fl : Nat → Int64) (g : Nat → Nat → Int32) (gl : Nat → Nat → Int64) (hh : Nat → Nat → Option Nat) (v : Nat → Value) (tx : mm_W) {P : Option Value → mm_W → Prop} (hin : ∀ j : Int32, (j = 0 ∨ j = 1 ∨ j = 2 ∨ j = 3 ∨ j = 4 ∨ j = 5) → ¬ (nI n + j < 0 ∨ X.1 ≤ (nI n + j).toNatClampNeg)) (hI : Inv f fl g gl hh v tx) (hnext : ∀ (f2 : Nat → Int32) (fl2 : Nat → Int64) (g2 : Nat → Nat → Int32) (gl2 : Nat → Nat → Int64) (hh2 : Nat → Nat → Option Nat) (v2 : Nat → Value) (tx2 : mm_W), Inv f2 fl2 g2 gl2 hh2 v2 tx2 → tx2.length ≤ tx.length + 3 → mm_sl tx2 ≤ mm_sl tx + 464 → WP X 2000 0 (1217, [some (.float 0), some (.ref 0), some (.ref 74), some (.int (nI n))], [], Wd f2 fl2 g2 gl2 hh2 v2 tx2) P) : WP X 2000 0 (565, [some (.float 0), some (.ref 0), some (.ref 74), some (.int (nI n))], [], Wd f fl g gl hh v tx) P := by
  have hop := hop0
  refine WP.run hP_0 1 (c' := (566, [some (.float 0), some (.ref 0), some (.ref 74), some (.int (nI n))], [.ref 0], Wd f fl g gl hh v tx)) rfl ?_
  refine WP.call hP_0 hP_69 (as := [.ref 0]) (pc' := 569) (L' := [some (.float 0), some (.ref 0), some (.ref 74), some (.int (nI n))]) (st' := []) (w1 := Wd f fl g gl hh v tx) rfl ⟨Nat.le_of_ble_eq_true rfl, Nat.le_of_ble_eq_true rfl⟩ rfl ?_
  refine WP.mono (hop X f fl g gl hh v tx hI) ?_
  rintro r1 w1 ⟨a, f1, fl1, g1, gl1, hh1, v1, tx1, rfl, rfl, hm⟩
  show WP X 2000 0 (569, [some (.float 0), some (.ref 0), some (.ref 74), some (.int (nI n))], [.int a.toInt32], Wd f1 fl1 g1 gl1 hh1 v1 tx1) P
  refine WP.run hP_0 1 (c' := (570, [some (.float 0), some (.ref 0), some (.ref 74), some (.int (nI n))], [.ref 74, .int a.toInt32], Wd f1 fl1 g1 gl1 hh1 v1 tx1)) rfl ?_
  refine WP.call hP_0 hP_174 (as := [.ref 74]) (pc' := 573) (L' := [some (.float 0), some (.ref 0), some (.ref 74), some (.int (nI n))]) (st' := [.int a.toInt32]) (w1 := Wd f1 fl1 g1 gl1 hh1 v1 tx1) rfl ⟨Nat.le_of_ble_eq_true rfl, Nat.le_of_ble_eq_true rfl⟩ rfl ?_
  refine WP.mono hm ?_
  rintro r2 w2 ⟨rfl, f2, fl2, g2, gl2, hh2, v2, tx2, rfl, hI2, hs1, hs2⟩
  show WP X 2000 0 (573, [some (.float 0), some (.ref 0), some (.ref 74), some (.int (nI n))], [.int a.toInt32, .int a.toInt32], Wd f2 fl2 g2 gl2 hh2 v2 tx2) P
  exact WP.br hP_0 (q := a.toInt32 = a.toInt32) (t := 1217) (f := 576) (L := [some (.float 0), some (.ref 0), some (.ref 74), some (.int (nI n))]) (st := []) (w := Wd f2 fl2 g2 gl2 hh2 v2 tx2) rfl (fun _ => hnext _ _ _ _ _ _ _ hI2 hs1 hs2) (fun c => absurd rfl c)
def k_op12 (Inv : k_I) : Prop := k_op k_mi Inv 70 245 [some (.ref 0), none, none, none, none, none, none, none, none, none, none, none, none] [some (.ref 74), none, none, none, none]
set_option maxRecDepth 20000 in
theorem k_c12 {Inv : k_I} (hop0 : k_op12 Inv) {X : mm_X} {n : Nat} (f : Nat → Int32) (fl : Nat → Int64) (g : Nat → Nat → Int32) (gl : Nat → Nat → Int64) (hh : Nat → Nat → Option Nat) (v : Nat → Value) (tx : mm_W) {P : Option Value → mm_W → Prop} (hin : ∀ j : Int32, (j = 0 ∨ j = 1 ∨ j = 2 ∨ j = 3 ∨ j = 4 ∨ j = 5) → ¬ (nI n + j < 0 ∨ X.1 ≤ (nI n + j).toNatClampNeg)) (hI : Inv f fl g gl hh v tx) (hnext : ∀ (f2 : Nat → Int32) (fl2 : Nat → Int64) (g2 : Nat → Nat → Int32) (gl2 : Nat → Nat → Int64) (hh2 : Nat → Nat → Option Nat) (v2 : Nat → Value) (tx2 : mm_W), Inv f2 fl2 g2 gl2 hh2 v2 tx2 → tx2.length ≤ tx.length + 3 → mm_sl tx2 ≤ mm_sl tx + 464 → WP X 2000 0 (1217, [some (.float 0), some (.ref 0), some (.ref 74), some (.int (nI n))], [], Wd f2 fl2 g2 gl2 hh2 v2 tx2) P) : WP X 2000 0 (578, [some (.float 0), some (.ref 0), some (.ref 74), some (.int (nI n))], [], Wd f fl g gl hh v tx) P := by
  have hop := hop0
  refine WP.run hP_0 1 (c' := (579, [some (.float 0), some (.ref 0), some (.ref 74), some (.int (nI n))], [.ref 0], Wd f fl g gl hh v tx)) rfl ?_
  refine WP.call hP_0 hP_70 (as := [.ref 0]) (pc' := 582) (L' := [some (.float 0), some (.ref 0), some (.ref 74), some (.int (nI n))]) (st' := []) (w1 := Wd f fl g gl hh v tx) rfl ⟨Nat.le_of_ble_eq_true rfl, Nat.le_of_ble_eq_true rfl⟩ rfl ?_
  refine WP.mono (hop X f fl g gl hh v tx hI) ?_
  rintro r1 w1 ⟨a, f1, fl1, g1, gl1, hh1, v1, tx1, rfl, rfl, hm⟩
  show WP X 2000 0 (582, [some (.float 0), some (.ref 0), some (.ref 74), some (.int (nI n))], [.int a.toInt32], Wd f1 fl1 g1 gl1 hh1 v1 tx1) P
  refine WP.run hP_0 1 (c' := (583, [some (.float 0), some (.ref 0), some (.ref 74), some (.int (nI n))], [.ref 74, .int a.toInt32], Wd f1 fl1 g1 gl1 hh1 v1 tx1)) rfl ?_
  refine WP.call hP_0 hP_245 (as := [.ref 74]) (pc' := 586) (L' := [some (.float 0), some (.ref 0), some (.ref 74), some (.int (nI n))]) (st' := [.int a.toInt32]) (w1 := Wd f1 fl1 g1 gl1 hh1 v1 tx1) rfl ⟨Nat.le_of_ble_eq_true rfl, Nat.le_of_ble_eq_true rfl⟩ rfl ?_
  refine WP.mono hm ?_
  rintro r2 w2 ⟨rfl, f2, fl2, g2, gl2, hh2, v2, tx2, rfl, hI2, hs1, hs2⟩
  show WP X 2000 0 (586, [some (.float 0), some (.ref 0), some (.ref 74), some (.int (nI n))], [.int a.toInt32, .int a.toInt32], Wd f2 fl2 g2 gl2 hh2 v2 tx2) P
  exact WP.br hP_0 (q := a.toInt32 = a.toInt32) (t := 1217) (f := 589) (L := [some (.float 0), some (.ref 0), some (.ref 74), some (.int (nI n))]) (st := []) (w := Wd f2 fl2 g2 gl2 hh2 v2 tx2) rfl (fun _ => hnext _ _ _ _ _ _ _ hI2 hs1 hs2) (fun c => absurd rfl c)
def k_op13 (Inv : k_I) : Prop := k_op k_mi Inv 71 175 [some (.ref 0)] [some (.ref 74)]
set_option maxRecDepth 20000 in
theorem k_c13 {Inv : k_I} (hop0 : k_op13 Inv) {X : mm_X} {n : Nat} (f : Nat → Int32) (fl : Nat → Int64) (g : Nat → Nat → Int32) (gl : Nat → Nat → Int64) (hh : Nat → Nat → Option Nat) (v : Nat → Value) (tx : mm_W) {P : Option Value → mm_W → Prop} (hin : ∀ j : Int32, (j = 0 ∨ j = 1 ∨ j = 2 ∨ j = 3 ∨ j = 4 ∨ j = 5) → ¬ (nI n + j < 0 ∨ X.1 ≤ (nI n + j).toNatClampNeg)) (hI : Inv f fl g gl hh v tx) (hnext : ∀ (f2 : Nat → Int32) (fl2 : Nat → Int64) (g2 : Nat → Nat → Int32) (gl2 : Nat → Nat → Int64) (hh2 : Nat → Nat → Option Nat) (v2 : Nat → Value) (tx2 : mm_W), Inv f2 fl2 g2 gl2 hh2 v2 tx2 → tx2.length ≤ tx.length + 3 → mm_sl tx2 ≤ mm_sl tx + 464 → WP X 2000 0 (1217, [some (.float 0), some (.ref 0), some (.ref 74), some (.int (nI n))], [], Wd f2 fl2 g2 gl2 hh2 v2 tx2) P) : WP X 2000 0 (591, [some (.float 0), some (.ref 0), some (.ref 74), some (.int (nI n))], [], Wd f fl g gl hh v tx) P := by
  have hop := hop0
  refine WP.run hP_0 1 (c' := (592, [some (.float 0), some (.ref 0), some (.ref 74), some (.int (nI n))], [.ref 0], Wd f fl g gl hh v tx)) rfl ?_
  refine WP.call hP_0 hP_71 (as := [.ref 0]) (pc' := 595) (L' := [some (.float 0), some (.ref 0), some (.ref 74), some (.int (nI n))]) (st' := []) (w1 := Wd f fl g gl hh v tx) rfl ⟨Nat.le_of_ble_eq_true rfl, Nat.le_of_ble_eq_true rfl⟩ rfl ?_
  refine WP.mono (hop X f fl g gl hh v tx hI) ?_
  rintro r1 w1 ⟨a, f1, fl1, g1, gl1, hh1, v1, tx1, rfl, rfl, hm⟩
  show WP X 2000 0 (595, [some (.float 0), some (.ref 0), some (.ref 74), some (.int (nI n))], [.int a.toInt32], Wd f1 fl1 g1 gl1 hh1 v1 tx1) P
  refine WP.run hP_0 1 (c' := (596, [some (.float 0), some (.ref 0), some (.ref 74), some (.int (nI n))], [.ref 74, .int a.toInt32], Wd f1 fl1 g1 gl1 hh1 v1 tx1)) rfl ?_
  refine WP.call hP_0 hP_175 (as := [.ref 74]) (pc' := 599) (L' := [some (.float 0), some (.ref 0), some (.ref 74), some (.int (nI n))]) (st' := [.int a.toInt32]) (w1 := Wd f1 fl1 g1 gl1 hh1 v1 tx1) rfl ⟨Nat.le_of_ble_eq_true rfl, Nat.le_of_ble_eq_true rfl⟩ rfl ?_
  refine WP.mono hm ?_
  rintro r2 w2 ⟨rfl, f2, fl2, g2, gl2, hh2, v2, tx2, rfl, hI2, hs1, hs2⟩
  show WP X 2000 0 (599, [some (.float 0), some (.ref 0), some (.ref 74), some (.int (nI n))], [.int a.toInt32, .int a.toInt32], Wd f2 fl2 g2 gl2 hh2 v2 tx2) P
  exact WP.br hP_0 (q := a.toInt32 = a.toInt32) (t := 1217) (f := 602) (L := [some (.float 0), some (.ref 0), some (.ref 74), some (.int (nI n))]) (st := []) (w := Wd f2 fl2 g2 gl2 hh2 v2 tx2) rfl (fun _ => hnext _ _ _ _ _ _ _ hI2 hs1 hs2) (fun c => absurd rfl c)
def k_op14 (Inv : k_I) : Prop := k_op k_mi Inv 72 244 [some (.ref 0)] [some (.ref 74)]
set_option maxRecDepth 20000 in
theorem k_c14 {Inv : k_I} (hop0 : k_op14 Inv) {X : mm_X} {n : Nat} (f : Nat → Int32) (fl : Nat → Int64) (g : Nat → Nat → Int32) (gl : Nat → Nat → Int64) (hh : Nat → Nat → Option Nat) (v : Nat → Value) (tx : mm_W) {P : Option Value → mm_W → Prop} (hin : ∀ j : Int32, (j = 0 ∨ j = 1 ∨ j = 2 ∨ j = 3 ∨ j = 4 ∨ j = 5) → ¬ (nI n + j < 0 ∨ X.1 ≤ (nI n + j).toNatClampNeg)) (hI : Inv f fl g gl hh v tx) (hnext : ∀ (f2 : Nat → Int32) (fl2 : Nat → Int64) (g2 : Nat → Nat → Int32) (gl2 : Nat → Nat → Int64) (hh2 : Nat → Nat → Option Nat) (v2 : Nat → Value) (tx2 : mm_W), Inv f2 fl2 g2 gl2 hh2 v2 tx2 → tx2.length ≤ tx.length + 3 → mm_sl tx2 ≤ mm_sl tx + 464 → WP X 2000 0 (1217, [some (.float 0), some (.ref 0), some (.ref 74), some (.int (nI n))], [], Wd f2 fl2 g2 gl2 hh2 v2 tx2) P) : WP X 2000 0 (604, [some (.float 0), some (.ref 0), some (.ref 74), some (.int (nI n))], [], Wd f fl g gl hh v tx) P := by
  have hop := hop0
  refine WP.run hP_0 1 (c' := (605, [some (.float 0), some (.ref 0), some (.ref 74), some (.int (nI n))], [.ref 0], Wd f fl g gl hh v tx)) rfl ?_
  refine WP.call hP_0 hP_72 (as := [.ref 0]) (pc' := 608) (L' := [some (.float 0), some (.ref 0), some (.ref 74), some (.int (nI n))]) (st' := []) (w1 := Wd f fl g gl hh v tx) rfl ⟨Nat.le_of_ble_eq_true rfl, Nat.le_of_ble_eq_true rfl⟩ rfl ?_
  refine WP.mono (hop X f fl g gl hh v tx hI) ?_
  rintro r1 w1 ⟨a, f1, fl1, g1, gl1, hh1, v1, tx1, rfl, rfl, hm⟩
  show WP X 2000 0 (608, [some (.float 0), some (.ref 0), some (.ref 74), some (.int (nI n))], [.int a.toInt32], Wd f1 fl1 g1 gl1 hh1 v1 tx1) P
  refine WP.run hP_0 1 (c' := (609, [some (.float 0), some (.ref 0), some (.ref 74), some (.int (nI n))], [.ref 74, .int a.toInt32], Wd f1 fl1 g1 gl1 hh1 v1 tx1)) rfl ?_
  refine WP.call hP_0 hP_244 (as := [.ref 74]) (pc' := 612) (L' := [some (.float 0), some (.ref 0), some (.ref 74), some (.int (nI n))]) (st' := [.int a.toInt32]) (w1 := Wd f1 fl1 g1 gl1 hh1 v1 tx1) rfl ⟨Nat.le_of_ble_eq_true rfl, Nat.le_of_ble_eq_true rfl⟩ rfl ?_
  refine WP.mono hm ?_
  rintro r2 w2 ⟨rfl, f2, fl2, g2, gl2, hh2, v2, tx2, rfl, hI2, hs1, hs2⟩
  show WP X 2000 0 (612, [some (.float 0), some (.ref 0), some (.ref 74), some (.int (nI n))], [.int a.toInt32, .int a.toInt32], Wd f2 fl2 g2 gl2 hh2 v2 tx2) P
  exact WP.br hP_0 (q := a.toInt32 = a.toInt32) (t := 1217) (f := 615) (L := [some (.float 0), some (.ref 0), some (.ref 74), some (.int (nI n))]) (st := []) (w := Wd f2 fl2 g2 gl2 hh2 v2 tx2) rfl (fun _ => hnext _ _ _ _ _ _ _ hI2 hs1 hs2) (fun c => absurd rfl c)
def k_op15 (Inv : k_I) : Prop := (∀ a0 : Int32, k_op k_mi Inv 73 177 [some (.ref 0), some (.int a0), none] [some (.ref 74), some (.int a0), none])
set_option maxRecDepth 20000 in
theorem k_c15 {Inv : k_I} (hop0 : k_op15 Inv) {X : mm_X} {n : Nat} (f : Nat → Int32) (fl : Nat → Int64) (g : Nat → Nat → Int32) (gl : Nat → Nat → Int64) (hh : Nat → Nat → Option Nat) (v : Nat → Value) (tx : mm_W) {P : Option Value → mm_W → Prop} (hin : ∀ j : Int32, (j = 0 ∨ j = 1 ∨ j = 2 ∨ j = 3 ∨ j = 4 ∨ j = 5) → ¬ (nI n + j < 0 ∨ X.1 ≤ (nI n + j).toNatClampNeg)) (hI : Inv f fl g gl hh v tx) (hnext : ∀ (f2 : Nat → Int32) (fl2 : Nat → Int64) (g2 : Nat → Nat → Int32) (gl2 : Nat → Nat → Int64) (hh2 : Nat → Nat → Option Nat) (v2 : Nat → Value) (tx2 : mm_W), Inv f2 fl2 g2 gl2 hh2 v2 tx2 → tx2.length ≤ tx.length + 3 → mm_sl tx2 ≤ mm_sl tx + 464 → WP X 2000 0 (1217, [some (.float 0), some (.ref 0), some (.ref 74), some (.int (nI n))], [], Wd f2 fl2 g2 gl2 hh2 v2 tx2) P) : WP X 2000 0 (617, [some (.float 0), some (.ref 0), some (.ref 74), some (.int (nI n))], [], Wd f fl g gl hh v tx) P := by
  have hop := hop0 (X.2 (nI n + 1).toNatClampNeg)
  refine WP.run hP_0 5 (c' := (622, [some (.float 0), some (.ref 0), some (.ref 74), some (.int (nI n))], [.int (nI n + 1), .float 0, .ref 0], Wd f fl g gl hh v tx)) rfl ?_
  refine WP.of (fun _ _ => Ex.sald hP_0 rfl (hin 1 (by decide))) ?_
  refine WP.call hP_0 hP_73 (as := [.ref 0, .int (X.2 (nI n + 1).toNatClampNeg)]) (pc' := 626) (L' := [some (.float 0), some (.ref 0), some (.ref 74), some (.int (nI n))]) (st' := []) (w1 := Wd f fl g gl hh v tx) rfl ⟨Nat.le_of_ble_eq_true rfl, Nat.le_of_ble_eq_true rfl⟩ rfl ?_
  refine WP.mono (hop X f fl g gl hh v tx hI) ?_
  rintro r1 w1 ⟨a, f1, fl1, g1, gl1, hh1, v1, tx1, rfl, rfl, hm⟩
  show WP X 2000 0 (626, [some (.float 0), some (.ref 0), some (.ref 74), some (.int (nI n))], [.int a.toInt32], Wd f1 fl1 g1 gl1 hh1 v1 tx1) P
  refine WP.run hP_0 5 (c' := (631, [some (.float 0), some (.ref 0), some (.ref 74), some (.int (nI n))], [.int (nI n + 1), .float 0, .ref 74, .int a.toInt32], Wd f1 fl1 g1 gl1 hh1 v1 tx1)) rfl ?_
  refine WP.of (fun _ _ => Ex.sald hP_0 rfl (hin 1 (by decide))) ?_
  refine WP.call hP_0 hP_177 (as := [.ref 74, .int (X.2 (nI n + 1).toNatClampNeg)]) (pc' := 635) (L' := [some (.float 0), some (.ref 0), some (.ref 74), some (.int (nI n))]) (st' := [.int a.toInt32]) (w1 := Wd f1 fl1 g1 gl1 hh1 v1 tx1) rfl ⟨Nat.le_of_ble_eq_true rfl, Nat.le_of_ble_eq_true rfl⟩ rfl ?_
  refine WP.mono hm ?_
  rintro r2 w2 ⟨rfl, f2, fl2, g2, gl2, hh2, v2, tx2, rfl, hI2, hs1, hs2⟩
  show WP X 2000 0 (635, [some (.float 0), some (.ref 0), some (.ref 74), some (.int (nI n))], [.int a.toInt32, .int a.toInt32], Wd f2 fl2 g2 gl2 hh2 v2 tx2) P
  exact WP.br hP_0 (q := a.toInt32 = a.toInt32) (t := 1217) (f := 638) (L := [some (.float 0), some (.ref 0), some (.ref 74), some (.int (nI n))]) (st := []) (w := Wd f2 fl2 g2 gl2 hh2 v2 tx2) rfl (fun _ => hnext _ _ _ _ _ _ _ hI2 hs1 hs2) (fun c => absurd rfl c)
def k_op16 (Inv : k_I) : Prop := (∀ a0 : Int32, k_op k_mi Inv 74 240 [some (.ref 0), some (.int a0)] [some (.ref 74), some (.int a0)])
set_option maxRecDepth 20000 in
theorem k_c16 {Inv : k_I} (hop0 : k_op16 Inv) {X : mm_X} {n : Nat} (f : Nat → Int32) (fl : Nat → Int64) (g : Nat → Nat → Int32) (gl : Nat → Nat → Int64) (hh : Nat → Nat → Option Nat) (v : Nat → Value) (tx : mm_W) {P : Option Value → mm_W → Prop} (hin : ∀ j : Int32, (j = 0 ∨ j = 1 ∨ j = 2 ∨ j = 3 ∨ j = 4 ∨ j = 5) → ¬ (nI n + j < 0 ∨ X.1 ≤ (nI n + j).toNatClampNeg)) (hI : Inv f fl g gl hh v tx) (hnext : ∀ (f2 : Nat → Int32) (fl2 : Nat → Int64) (g2 : Nat → Nat → Int32) (gl2 : Nat → Nat → Int64) (hh2 : Nat → Nat → Option Nat) (v2 : Nat → Value) (tx2 : mm_W), Inv f2 fl2 g2 gl2 hh2 v2 tx2 → tx2.length ≤ tx.length + 3 → mm_sl tx2 ≤ mm_sl tx + 464 → WP X 2000 0 (1217, [some (.float 0), some (.ref 0), some (.ref 74), some (.int (nI n))], [], Wd f2 fl2 g2 gl2 hh2 v2 tx2) P) : WP X 2000 0 (640, [some (.float 0), some (.ref 0), some (.ref 74), some (.int (nI n))], [], Wd f fl g gl hh v tx) P := by
  have hop := hop0 (X.2 (nI n + 1).toNatClampNeg)
  refine WP.run hP_0 5 (c' := (645, [some (.float 0), some (.ref 0), some (.ref 74), some (.int (nI n))], [.int (nI n + 1), .float 0, .ref 0], Wd f fl g gl hh v tx)) rfl ?_
  refine WP.of (fun _ _ => Ex.sald hP_0 rfl (hin 1 (by decide))) ?_
  refine WP.call hP_0 hP_74 (as := [.ref 0, .int (X.2 (nI n + 1).toNatClampNeg)]) (pc' := 649) (L' := [some (.float 0), some (.ref 0), some (.ref 74), some (.int (nI n))]) (st' := []) (w1 := Wd f fl g gl hh v tx) rfl ⟨Nat.le_of_ble_eq_true rfl, Nat.le_of_ble_eq_true rfl⟩ rfl ?_
  refine WP.mono (hop X f fl g gl hh v tx hI) ?_
  rintro r1 w1 ⟨a, f1, fl1, g1, gl1, hh1, v1, tx1, rfl, rfl, hm⟩
  show WP X 2000 0 (649, [some (.float 0), some (.ref 0), some (.ref 74), some (.int (nI n))], [.int a.toInt32], Wd f1 fl1 g1 gl1 hh1 v1 tx1) P
  refine WP.run hP_0 5 (c' := (654, [some (.float 0), some (.ref 0), some (.ref 74), some (.int (nI n))], [.int (nI n + 1), .float 0, .ref 74, .int a.toInt32], Wd f1 fl1 g1 gl1 hh1 v1 tx1)) rfl ?_
  refine WP.of (fun _ _ => Ex.sald hP_0 rfl (hin 1 (by decide))) ?_
  refine WP.call hP_0 hP_240 (as := [.ref 74, .int (X.2 (nI n + 1).toNatClampNeg)]) (pc' := 658) (L' := [some (.float 0), some (.ref 0), some (.ref 74), some (.int (nI n))]) (st' := [.int a.toInt32]) (w1 := Wd f1 fl1 g1 gl1 hh1 v1 tx1) rfl ⟨Nat.le_of_ble_eq_true rfl, Nat.le_of_ble_eq_true rfl⟩ rfl ?_
  refine WP.mono hm ?_
  rintro r2 w2 ⟨rfl, f2, fl2, g2, gl2, hh2, v2, tx2, rfl, hI2, hs1, hs2⟩
  show WP X 2000 0 (658, [some (.float 0), some (.ref 0), some (.ref 74), some (.int (nI n))], [.int a.toInt32, .int a.toInt32], Wd f2 fl2 g2 gl2 hh2 v2 tx2) P
  exact WP.br hP_0 (q := a.toInt32 = a.toInt32) (t := 1217) (f := 661) (L := [some (.float 0), some (.ref 0), some (.ref 74), some (.int (nI n))]) (st := []) (w := Wd f2 fl2 g2 gl2 hh2 v2 tx2) rfl (fun _ => hnext _ _ _ _ _ _ _ hI2 hs1 hs2) (fun c => absurd rfl c)
def k_op17 (Inv : k_I) : Prop := k_op k_mi Inv 75 241 [some (.ref 0)] [some (.ref 74)]
set_option maxRecDepth 20000 in
theorem k_c17 {Inv : k_I} (hop0 : k_op17 Inv) {X : mm_X} {n : Nat} (f : Nat → Int32) (fl : Nat → Int64) (g : Nat → Nat → Int32) (gl : Nat → Nat → Int64) (hh : Nat → Nat → Option Nat) (v : Nat → Value) (tx : mm_W) {P : Option Value → mm_W → Prop} (hin : ∀ j : Int32, (j = 0 ∨ j = 1 ∨ j = 2 ∨ j = 3 ∨ j = 4 ∨ j = 5) → ¬ (nI n + j < 0 ∨ X.1 ≤ (nI n + j).toNatClampNeg)) (hI : Inv f fl g gl hh v tx) (hnext : ∀ (f2 : Nat → Int32) (fl2 : Nat → Int64) (g2 : Nat → Nat → Int32) (gl2 : Nat → Nat → Int64) (hh2 : Nat → Nat → Option Nat) (v2 : Nat → Value) (tx2 : mm_W), Inv f2 fl2 g2 gl2 hh2 v2 tx2 → tx2.length ≤ tx.length + 3 → mm_sl tx2 ≤ mm_sl tx + 464 → WP X 2000 0 (1217, [some (.float 0), some (.ref 0), some (.ref 74), some (.int (nI n))], [], Wd f2 fl2 g2 gl2 hh2 v2 tx2) P) : WP X 2000 0 (663, [some (.float 0), some (.ref 0), some (.ref 74), some (.int (nI n))], [], Wd f fl g gl hh v tx) P := by
  have hop := hop0
  refine WP.run hP_0 1 (c' := (664, [some (.float 0), some (.ref 0), some (.ref 74), some (.int (nI n))], [.ref 0], Wd f fl g gl hh v tx)) rfl ?_
  refine WP.call hP_0 hP_75 (as := [.ref 0]) (pc' := 667) (L' := [some (.float 0), some (.ref 0), some (.ref 74), some (.int (nI n))]) (st' := []) (w1 := Wd f fl g gl hh v tx) rfl ⟨Nat.le_of_ble_eq_true rfl, Nat.le_of_ble_eq_true rfl⟩ rfl ?_
  refine WP.mono (hop X f fl g gl hh v tx hI) ?_
  rintro r1 w1 ⟨a, f1, fl1, g1, gl1, hh1, v1, tx1, rfl, rfl, hm⟩
  show WP X 2000 0 (667, [some (.float 0), some (.ref 0), some (.ref 74), some (.int (nI n))], [.int a.toInt32], Wd f1 fl1 g1 gl1 hh1 v1 tx1) P
  refine WP.run hP_0 1 (c' := (668, [some (.float 0), some (.ref 0), some (.ref 74), some (.int (nI n))], [.ref 74, .int a.toInt32], Wd f1 fl1 g1 gl1 hh1 v1 tx1)) rfl ?_
  refine WP.call hP_0 hP_241 (as := [.ref 74]) (pc' := 671) (L' := [some (.float 0), some (.ref 0), some (.ref 74), some (.int (nI n))]) (st' := [.int a.toInt32]) (w1 := Wd f1 fl1 g1 gl1 hh1 v1 tx1) rfl ⟨Nat.le_of_ble_eq_true rfl, Nat.le_of_ble_eq_true rfl⟩ rfl ?_
  refine WP.mono hm ?_
  rintro r2 w2 ⟨rfl, f2, fl2, g2, gl2, hh2, v2, tx2, rfl, hI2, hs1, hs2⟩
  show WP X 2000 0 (671, [some (.float 0), some (.ref 0), some (.ref 74), some (.int (nI n))], [.int a.toInt32, .int a.toInt32], Wd f2 fl2 g2 gl2 hh2 v2 tx2) P
  exact WP.br hP_0 (q := a.toInt32 = a.toInt32) (t := 1217) (f := 674) (L := [some (.float 0), some (.ref 0), some (.ref 74), some (.int (nI n))]) (st := []) (w := Wd f2 fl2 g2 gl2 hh2 v2 tx2) rfl (fun _ => hnext _ _ _ _ _ _ _ hI2 hs1 hs2) (fun c => absurd rfl c)
def k_op18 (Inv : k_I) : Prop := (∀ a0 : Int32, k_op k_mi Inv 76 242 [some (.ref 0), some (.int a0)] [some (.ref 74), some (.int a0)])
set_option maxRecDepth 20000 in
theorem k_c18 {Inv : k_I} (hop0 : k_op18 Inv) {X : mm_X} {n : Nat} (f : Nat → Int32) (fl : Nat → Int64) (g : Nat → Nat → Int32) (gl : Nat → Nat → Int64) (hh : Nat → Nat → Option Nat) (v : Nat → Value) (tx : mm_W) {P : Option Value → mm_W → Prop} (hin : ∀ j : Int32, (j = 0 ∨ j = 1 ∨ j = 2 ∨ j = 3 ∨ j = 4 ∨ j = 5) → ¬ (nI n + j < 0 ∨ X.1 ≤ (nI n + j).toNatClampNeg)) (hI : Inv f fl g gl hh v tx) (hnext : ∀ (f2 : Nat → Int32) (fl2 : Nat → Int64) (g2 : Nat → Nat → Int32) (gl2 : Nat → Nat → Int64) (hh2 : Nat → Nat → Option Nat) (v2 : Nat → Value) (tx2 : mm_W), Inv f2 fl2 g2 gl2 hh2 v2 tx2 → tx2.length ≤ tx.length + 3 → mm_sl tx2 ≤ mm_sl tx + 464 → WP X 2000 0 (1217, [some (.float 0), some (.ref 0), some (.ref 74), some (.int (nI n))], [], Wd f2 fl2 g2 gl2 hh2 v2 tx2) P) : WP X 2000 0 (676, [some (.float 0), some (.ref 0), some (.ref 74), some (.int (nI n))], [], Wd f fl g gl hh v tx) P := by
  have hop := hop0 (X.2 (nI n + 1).toNatClampNeg)
  refine WP.run hP_0 5 (c' := (681, [some (.float 0), some (.ref 0), some (.ref 74), some (.int (nI n))], [.int (nI n + 1), .float 0, .ref 0], Wd f fl g gl hh v tx)) rfl ?_
  refine WP.of (fun _ _ => Ex.sald hP_0 rfl (hin 1 (by decide))) ?_
  refine WP.call hP_0 hP_76 (as := [.ref 0, .int (X.2 (nI n + 1).toNatClampNeg)]) (pc' := 685) (L' := [some (.float 0), some (.ref 0), some (.ref 74), some (.int (nI n))]) (st' := []) (w1 := Wd f fl g gl hh v tx) rfl ⟨Nat.le_of_ble_eq_true rfl, Nat.le_of_ble_eq_true rfl⟩ rfl ?_
  refine WP.mono (hop X f fl g gl hh v tx hI) ?_
  rintro r1 w1 ⟨a, f1, fl1, g1, gl1, hh1, v1, tx1, rfl, rfl, hm⟩
  show WP X 2000 0 (685, [some (.float 0), some (.ref 0), some (.ref 74), some (.int (nI n))], [.int a.toInt32], Wd f1 fl1 g1 gl1 hh1 v1 tx1) P
  refine WP.run hP_0 5 (c' := (690, [some (.float 0), some (.ref 0), some (.ref 74), some (.int (nI n))], [.int (nI n + 1), .float 0, .ref 74, .int a.toInt32], Wd f1 fl1 g1 gl1 hh1 v1 tx1)) rfl ?_
  refine WP.of (fun _ _ => Ex.sald hP_0 rfl (hin 1 (by decide))) ?_
  refine WP.call hP_0 hP_242 (as := [.ref 74, .int (X.2 (nI n + 1).toNatClampNeg)]) (pc' := 694) (L' := [some (.float 0), some (.ref 0), some (.ref 74), some (.int (nI n))]) (st' := [.int a.toInt32]) (w1 := Wd f1 fl1 g1 gl1 hh1 v1 tx1) rfl ⟨Nat.le_of_ble_eq_true rfl, Nat.le_of_ble_eq_true rfl⟩ rfl ?_
  refine WP.mono hm ?_
  rintro r2 w2 ⟨rfl, f2, fl2, g2, gl2, hh2, v2, tx2, rfl, hI2, hs1, hs2⟩
  show WP X 2000 0 (694, [some (.float 0), some (.ref 0), some (.ref 74), some (.int (nI n))], [.int a.toInt32, .int a.toInt32], Wd f2 fl2 g2 gl2 hh2 v2 tx2) P
  exact WP.br hP_0 (q := a.toInt32 = a.toInt32) (t := 1217) (f := 697) (L := [some (.float 0), some (.ref 0), some (.ref 74), some (.int (nI n))]) (st := []) (w := Wd f2 fl2 g2 gl2 hh2 v2 tx2) rfl (fun _ => hnext _ _ _ _ _ _ _ hI2 hs1 hs2) (fun c => absurd rfl c)
def k_op19 (Inv : k_I) : Prop := k_op k_mi Inv 77 243 [some (.ref 0)] [some (.ref 74)]
set_option maxRecDepth 20000 in
theorem k_c19 {Inv : k_I} (hop0 : k_op19 Inv) {X : mm_X} {n : Nat} (f : Nat → Int32) (fl : Nat → Int64) (g : Nat → Nat → Int32) (gl : Nat → Nat → Int64) (hh : Nat → Nat → Option Nat) (v : Nat → Value) (tx : mm_W) {P : Option Value → mm_W → Prop} (hin : ∀ j : Int32, (j = 0 ∨ j = 1 ∨ j = 2 ∨ j = 3 ∨ j = 4 ∨ j = 5) → ¬ (nI n + j < 0 ∨ X.1 ≤ (nI n + j).toNatClampNeg)) (hI : Inv f fl g gl hh v tx) (hnext : ∀ (f2 : Nat → Int32) (fl2 : Nat → Int64) (g2 : Nat → Nat → Int32) (gl2 : Nat → Nat → Int64) (hh2 : Nat → Nat → Option Nat) (v2 : Nat → Value) (tx2 : mm_W), Inv f2 fl2 g2 gl2 hh2 v2 tx2 → tx2.length ≤ tx.length + 3 → mm_sl tx2 ≤ mm_sl tx + 464 → WP X 2000 0 (1217, [some (.float 0), some (.ref 0), some (.ref 74), some (.int (nI n))], [], Wd f2 fl2 g2 gl2 hh2 v2 tx2) P) : WP X 2000 0 (699, [some (.float 0), some (.ref 0), some (.ref 74), some (.int (nI n))], [], Wd f fl g gl hh v tx) P := by
  have hop := hop0
  refine WP.run hP_0 1 (c' := (700, [some (.float 0), some (.ref 0), some (.ref 74), some (.int (nI n))], [.ref 0], Wd f fl g gl hh v tx)) rfl ?_
  refine WP.call hP_0 hP_77 (as := [.ref 0]) (pc' := 703) (L' := [some (.float 0), some (.ref 0), some (.ref 74), some (.int (nI n))]) (st' := []) (w1 := Wd f fl g gl hh v tx) rfl ⟨Nat.le_of_ble_eq_true rfl, Nat.le_of_ble_eq_true rfl⟩ rfl ?_
  refine WP.mono (hop X f fl g gl hh v tx hI) ?_
  rintro r1 w1 ⟨a, f1, fl1, g1, gl1, hh1, v1, tx1, rfl, rfl, hm⟩
  show WP X 2000 0 (703, [some (.float 0), some (.ref 0), some (.ref 74), some (.int (nI n))], [.int a.toInt32], Wd f1 fl1 g1 gl1 hh1 v1 tx1) P
  refine WP.run hP_0 1 (c' := (704, [some (.float 0), some (.ref 0), some (.ref 74), some (.int (nI n))], [.ref 74, .int a.toInt32], Wd f1 fl1 g1 gl1 hh1 v1 tx1)) rfl ?_
  refine WP.call hP_0 hP_243 (as := [.ref 74]) (pc' := 707) (L' := [some (.float 0), some (.ref 0), some (.ref 74), some (.int (nI n))]) (st' := [.int a.toInt32]) (w1 := Wd f1 fl1 g1 gl1 hh1 v1 tx1) rfl ⟨Nat.le_of_ble_eq_true rfl, Nat.le_of_ble_eq_true rfl⟩ rfl ?_
  refine WP.mono hm ?_
  rintro r2 w2 ⟨rfl, f2, fl2, g2, gl2, hh2, v2, tx2, rfl, hI2, hs1, hs2⟩
  show WP X 2000 0 (707, [some (.float 0), some (.ref 0), some (.ref 74), some (.int (nI n))], [.int a.toInt32, .int a.toInt32], Wd f2 fl2 g2 gl2 hh2 v2 tx2) P
  exact WP.br hP_0 (q := a.toInt32 = a.toInt32) (t := 1217) (f := 710) (L := [some (.float 0), some (.ref 0), some (.ref 74), some (.int (nI n))]) (st := []) (w := Wd f2 fl2 g2 gl2 hh2 v2 tx2) rfl (fun _ => hnext _ _ _ _ _ _ _ hI2 hs1 hs2) (fun c => absurd rfl c)
def k_op20 (Inv : k_I) : Prop := k_op k_mi Inv 78 233 [some (.ref 0)] [some (.ref 74), none, none]
set_option maxRecDepth 20000 in
theorem k_c20 {Inv : k_I} (hop0 : k_op20 Inv) {X : mm_X} {n : Nat} (f : Nat → Int32) (fl : Nat → Int64) (g : Nat → Nat → Int32) (gl : Nat → Nat → Int64) (hh : Nat → Nat → Option Nat) (v : Nat → Value) (tx : mm_W) {P : Option Value → mm_W → Prop} (hin : ∀ j : Int32, (j = 0 ∨ j = 1 ∨ j = 2 ∨ j = 3 ∨ j = 4 ∨ j = 5) → ¬ (nI n + j < 0 ∨ X.1 ≤ (nI n + j).toNatClampNeg)) (hI : Inv f fl g gl hh v tx) (hnext : ∀ (f2 : Nat → Int32) (fl2 : Nat → Int64) (g2 : Nat → Nat → Int32) (gl2 : Nat → Nat → Int64) (hh2 : Nat → Nat → Option Nat) (v2 : Nat → Value) (tx2 : mm_W), Inv f2 fl2 g2 gl2 hh2 v2 tx2 → tx2.length ≤ tx.length + 3 → mm_sl tx2 ≤ mm_sl tx + 464 → WP X 2000 0 (1217, [some (.float 0), some (.ref 0), some (.ref 74), some (.int (nI n))], [], Wd f2 fl2 g2 gl2 hh2 v2 tx2) P) : WP X 2000 0 (712, [some (.float 0), some (.ref 0), some (.ref 74), some (.int (nI n))], [], Wd f fl g gl hh v tx) P := by
  have hop := hop0
  refine WP.run hP_0 1 (c' := (713, [some (.float 0), some (.ref 0), some (.ref 74), some (.int (nI n))], [.ref 0], Wd f fl g gl hh v tx)) rfl ?_
  refine WP.call hP_0 hP_78 (as := [.ref 0]) (pc' := 716) (L' := [some (.float 0), some (.ref 0), some (.ref 74), some (.int (nI n))]) (st' := []) (w1 := Wd f fl g gl hh v tx) rfl ⟨Nat.le_of_ble_eq_true rfl, Nat.le_of_ble_eq_true rfl⟩ rfl ?_
  refine WP.mono (hop X f fl g gl hh v tx hI) ?_
  rintro r1 w1 ⟨a, f1, fl1, g1, gl1, hh1, v1, tx1, rfl, rfl, hm⟩
  show WP X 2000 0 (716, [some (.float 0), some (.ref 0), some (.ref 74), some (.int (nI n))], [.int a.toInt32], Wd f1 fl1 g1 gl1 hh1 v1 tx1) P
  refine WP.run hP_0 1 (c' := (717, [some (.float 0), some (.ref 0), some (.ref 74), some (.int (nI n))], [.ref 74, .int a.toInt32], Wd f1 fl1 g1 gl1 hh1 v1 tx1)) rfl ?_
  refine WP.call hP_0 hP_233 (as := [.ref 74]) (pc' := 720) (L' := [some (.float 0), some (.ref 0), some (.ref 74), some (.int (nI n))]) (st' := [.int a.toInt32]) (w1 := Wd f1 fl1 g1 gl1 hh1 v1 tx1) rfl ⟨Nat.le_of_ble_eq_true rfl, Nat.le_of_ble_eq_true rfl⟩ rfl ?_
  refine WP.mono hm ?_
  rintro r2 w2 ⟨rfl, f2, fl2, g2, gl2, hh2, v2, tx2, rfl, hI2, hs1, hs2⟩
  show WP X 2000 0 (720, [some (.float 0), some (.ref 0), some (.ref 74), some (.int (nI n))], [.int a.toInt32, .int a.toInt32], Wd f2 fl2 g2 gl2 hh2 v2 tx2) P
  exact WP.br hP_0 (q := a.toInt32 = a.toInt32) (t := 1217) (f := 723) (L := [some (.float 0), some (.ref 0), some (.ref 74), some (.int (nI n))]) (st := []) (w := Wd f2 fl2 g2 gl2 hh2 v2 tx2) rfl (fun _ => hnext _ _ _ _ _ _ _ hI2 hs1 hs2) (fun c => absurd rfl c)
def k_op21 (Inv : k_I) : Prop := k_op k_mi Inv 79 195 [some (.ref 0)] [some (.ref 74), none, none]
set_option maxRecDepth 20000 in
theorem k_c21 {Inv : k_I} (hop0 : k_op21 Inv) {X : mm_X} {n : Nat} (f : Nat → Int32) (fl : Nat → Int64) (g : Nat → Nat → Int32) (gl : Nat → Nat → Int64) (hh : Nat → Nat → Option Nat) (v : Nat → Value) (tx : mm_W) {P : Option Value → mm_W → Prop} (hin : ∀ j : Int32, (j = 0 ∨ j = 1 ∨ j = 2 ∨ j = 3 ∨ j = 4 ∨ j = 5) → ¬ (nI n + j < 0 ∨ X.1 ≤ (nI n + j).toNatClampNeg)) (hI : Inv f fl g gl hh v tx) (hnext : ∀ (f2 : Nat → Int32) (fl2 : Nat → Int64) (g2 : Nat → Nat → Int32) (gl2 : Nat → Nat → Int64) (hh2 : Nat → Nat → Option Nat) (v2 : Nat → Value) (tx2 : mm_W), Inv f2 fl2 g2 gl2 hh2 v2 tx2 → tx2.length ≤ tx.length + 3 → mm_sl tx2 ≤ mm_sl tx + 464 → WP X 2000 0 (1217, [some (.float 0), some (.ref 0), some (.ref 74), some (.int (nI n))], [], Wd f2 fl2 g2 gl2 hh2 v2 tx2) P) : WP X 2000 0 (725, [some (.float 0), some (.ref 0), some (.ref 74), some (.int (nI n))], [], Wd f fl g gl hh v tx) P := by
  have hop := hop0
  refine WP.run hP_0 1 (c' := (726, [some (.float 0), some (.ref 0), some (.ref 74), some (.int (nI n))], [.ref 0], Wd f fl g gl hh v tx)) rfl ?_
  refine WP.call hP_0 hP_79 (as := [.ref 0]) (pc' := 729) (L' := [some (.float 0), some (.ref 0), some (.ref 74), some (.int (nI n))]) (st' := []) (w1 := Wd f fl g gl hh v tx) rfl ⟨Nat.le_of_ble_eq_true rfl, Nat.le_of_ble_eq_true rfl⟩ rfl ?_
  refine WP.mono (hop X f fl g gl hh v tx hI) ?_
  rintro r1 w1 ⟨a, f1, fl1, g1, gl1, hh1, v1, tx1, rfl, rfl, hm⟩
  show WP X 2000 0 (729, [some (.float 0), some (.ref 0), some (.ref 74), some (.int (nI n))], [.int a.toInt32], Wd f1 fl1 g1 gl1 hh1 v1 tx1) P
  refine WP.run hP_0 1 (c' := (730, [some (.float 0), some (.ref 0), some (.ref 74), some (.int (nI n))], [.ref 74, .int a.toInt32], Wd f1 fl1 g1 gl1 hh1 v1 tx1)) rfl ?_
  refine WP.call hP_0 hP_195 (as := [.ref 74]) (pc' := 733) (L' := [some (.float 0), some (.ref 0), some (.ref 74), some (.int (nI n))]) (st' := [.int a.toInt32]) (w1 := Wd f1 fl1 g1 gl1 hh1 v1 tx1) rfl ⟨Nat.le_of_ble_eq_true rfl, Nat.le_of_ble_eq_true rfl⟩ rfl ?_
  refine WP.mono hm ?_
  rintro r2 w2 ⟨rfl, f2, fl2, g2, gl2, hh2, v2, tx2, rfl, hI2, hs1, hs2⟩
  show WP X 2000 0 (733, [some (.float 0), some (.ref 0), some (.ref 74), some (.int (nI n))], [.int a.toInt32, .int a.toInt32], Wd f2 fl2 g2 gl2 hh2 v2 tx2) P
  exact WP.br hP_0 (q := a.toInt32 = a.toInt32) (t := 1217) (f := 736) (L := [some (.float 0), some (.ref 0), some (.ref 74), some (.int (nI n))]) (st := []) (w := Wd f2 fl2 g2 gl2 hh2 v2 tx2) rfl (fun _ => hnext _ _ _ _ _ _ _ hI2 hs1 hs2) (fun c => absurd rfl c)
def k_op22 (Inv : k_I) : Prop := (∀ a0 a1 : Int32, k_op k_mi Inv 80 202 [some (.ref 0), some (.int a0), some (.int a1)] [some (.ref 74), some (.int a0), some (.int a1)])
set_option maxRecDepth 20000 in
theorem k_c22 {Inv : k_I} (hop0 : k_op22 Inv) {X : mm_X} {n : Nat} (f : Nat → Int32) (fl : Nat → Int64) (g : Nat → Nat → Int32) (gl : Nat → Nat → Int64) (hh : Nat → Nat → Option Nat) (v : Nat → Value) (tx : mm_W) {P : Option Value → mm_W → Prop} (hin : ∀ j : Int32, (j = 0 ∨ j = 1 ∨ j = 2 ∨ j = 3 ∨ j = 4 ∨ j = 5) → ¬ (nI n + j < 0 ∨ X.1 ≤ (nI n + j).toNatClampNeg)) (hI : Inv f fl g gl hh v tx) (hnext : ∀ (f2 : Nat → Int32) (fl2 : Nat → Int64) (g2 : Nat → Nat → Int32) (gl2 : Nat → Nat → Int64) (hh2 : Nat → Nat → Option Nat) (v2 : Nat → Value) (tx2 : mm_W), Inv f2 fl2 g2 gl2 hh2 v2 tx2 → tx2.length ≤ tx.length + 3 → mm_sl tx2 ≤ mm_sl tx + 464 → WP X 2000 0 (1217, [some (.float 0), some (.ref 0), some (.ref 74), some (.int (nI n))], [], Wd f2 fl2 g2 gl2 hh2 v2 tx2) P) : WP X 2000 0 (738, [some (.float 0), some (.ref 0), some (.ref 74), some (.int (nI n))], [], Wd f fl g gl hh v tx) P := by
  have hop := hop0 (X.2 (nI n + 1).toNatClampNeg) (X.2 (nI n + 2).toNatClampNeg)
  refine WP.run hP_0 5 (c' := (743, [some (.float 0), some (.ref 0), some (.ref 74), some (.int (nI n))], [.int (nI n + 1), .float 0, .ref 0], Wd f fl g gl hh v tx)) rfl ?_
  refine WP.of (fun _ _ => Ex.sald hP_0 rfl (hin 1 (by decide))) ?_
  refine WP.run hP_0 4 (c' := (748, [some (.float 0), some (.ref 0), some (.ref 74), some (.int (nI n))], [.int (nI n + 2), .float 0, .int (X.2 (nI n + 1).toNatClampNeg), .ref 0], Wd f fl g gl hh v tx)) rfl ?_
  refine WP.of (fun _ _ => Ex.sald hP_0 rfl (hin 2 (by decide))) ?_
  refine WP.call hP_0 hP_80 (as := [.ref 0, .int (X.2 (nI n + 1).toNatClampNeg), .int (X.2 (nI n + 2).toNatClampNeg)]) (pc' := 752) (L' := [some (.float 0), some (.ref 0), some (.ref 74), some (.int (nI n))]) (st' := []) (w1 := Wd f fl g gl hh v tx) rfl ⟨Nat.le_of_ble_eq_true rfl, Nat.le_of_ble_eq_true rfl⟩ rfl ?_
  refine WP.mono (hop X f fl g gl hh v tx hI) ?_
  rintro r1 w1 ⟨a, f1, fl1, g1, gl1, hh1, v1, tx1, rfl, rfl, hm⟩
  show WP X 2000 0 (752, [some (.float 0), some (.ref 0), some (.ref 74), some (.int (nI n))], [.int a.toInt32], Wd f1 fl1 g1 gl1 hh1 v1 tx1) P
  refine WP.run hP_0 5 (c' := (757, [some (.float 0), some (.ref 0), some (.ref 74), some (.int (nI n))], [.int (nI n + 1), .float 0, .ref 74, .int a.toInt32], Wd f1 fl1 g1 gl1 hh1 v1 tx1)) rfl ?_
  refine WP.of (fun _ _ => Ex.sald hP_0 rfl (hin 1 (by decide))) ?_
  refine WP.run hP_0 4 (c' := (762, [some (.float 0), some (.ref 0), some (.ref 74), some (.int (nI n))], [.int (nI n + 2), .float 0, .int (X.2 (nI n + 1).toNatClampNeg), .ref 74, .int a.toInt32], Wd f1 fl1 g1 gl1 hh1 v1 tx1)) rfl ?_
  refine WP.of (fun _ _ => Ex.sald hP_0 rfl (hin 2 (by decide))) ?_
  refine WP.call hP_0 hP_202 (as := [.ref 74, .int (X.2 (nI n + 1).toNatClampNeg), .int (X.2 (nI n + 2).toNatClampNeg)]) (pc' := 766) (L' := [some (.float 0), some (.ref 0), some (.ref 74), some (.int (nI n))]) (st' := [.int a.toInt32]) (w1 := Wd f1 fl1 g1 gl1 hh1 v1 tx1) rfl ⟨Nat.le_of_ble_eq_true rfl, Nat.le_of_ble_eq_true rfl⟩ rfl ?_
  refine WP.mono hm ?_
  rintro r2 w2 ⟨rfl, f2, fl2, g2, gl2, hh2, v2, tx2, rfl, hI2, hs1, hs2⟩
  show WP X 2000 0 (766, [some (.float 0), some (.ref 0), some (.ref 74), some (.int (nI n))], [.int a.toInt32, .int a.toInt32], Wd f2 fl2 g2 gl2 hh2 v2 tx2) P
  exact WP.br hP_0 (q := a.toInt32 = a.toInt32) (t := 1217) (f := 769) (L := [some (.float 0), some (.ref 0), some (.ref 74), some (.int (nI n))]) (st := []) (w := Wd f2 fl2 g2 gl2 hh2 v2 tx2) rfl (fun _ => hnext _ _ _ _ _ _ _ hI2 hs1 hs2) (fun c => absurd rfl c)
def k_op23 (Inv : k_I) : Prop := (∀ a0 a1 : Int32, k_op k_mi Inv 81 211 [some (.ref 0), some (.int a0), some (.int a1)] [some (.ref 74), some (.int a0), some (.int a1), none])
set_option maxRecDepth 20000 in
theorem k_c23 {Inv : k_I} (hop0 : k_op23 Inv) {X : mm_X} {n : Nat} (f : Nat → Int32) (fl : Nat → Int64) (g : Nat → Nat → Int32) (gl : Nat → Nat → Int64) (hh : Nat → Nat → Option Nat) (v : Nat → Value) (tx : mm_W) {P : Option Value → mm_W → Prop} (hin : ∀ j : Int32, (j = 0 ∨ j = 1 ∨ j = 2 ∨ j = 3 ∨ j = 4 ∨ j = 5) → ¬ (nI n + j < 0 ∨ X.1 ≤ (nI n + j).toNatClampNeg)) (hI : Inv f fl g gl hh v tx) (hnext : ∀ (f2 : Nat → Int32) (fl2 : Nat → Int64) (g2 : Nat → Nat → Int32) (gl2 : Nat → Nat → Int64) (hh2 : Nat → Nat → Option Nat) (v2 : Nat → Value) (tx2 : mm_W), Inv f2 fl2 g2 gl2 hh2 v2 tx2 → tx2.length ≤ tx.length + 3 → mm_sl tx2 ≤ mm_sl tx + 464 → WP X 2000 0 (1217, [some (.float 0), some (.ref 0), some (.ref 74), some (.int (nI n))], [], Wd f2 fl2 g2 gl2 hh2 v2 tx2) P) : WP X 2000 0 (771, [some (.float 0), some (.ref 0), some (.ref 74), some (.int (nI n))], [], Wd f fl g gl hh v tx) P := by
  have hop := hop0 (X.2 (nI n + 1).toNatClampNeg) (X.2 (nI n + 2).toNatClampNeg)
  refine WP.run hP_0 5 (c' := (776, [some (.float 0), some (.ref 0), some (.ref 74), some (.int (nI n))], [.int (nI n + 1), .float 0, .ref 0], Wd f fl g gl hh v tx)) rfl ?_
  refine WP.of (fun _ _ => Ex.sald hP_0 rfl (hin 1 (by decide))) ?_
  refine WP.run hP_0 4 (c' := (781, [some (.float 0), some (.ref 0), some (.ref 74), some (.int (nI n))], [.int (nI n + 2), .float 0, .int (X.2 (nI n + 1).toNatClampNeg), .ref 0], Wd f fl g gl hh v tx)) rfl ?_
  refine WP.of (fun _ _ => Ex.sald hP_0 rfl (hin 2 (by decide))) ?_
  refine WP.call hP_0 hP_81 (as := [.ref 0, .int (X.2 (nI n + 1).toNatClampNeg), .int (X.2 (nI n + 2).toNatClampNeg)]) (pc' := 785) (L' := [some (.float 0), some (.ref 0), some (.ref 74), some (.int (nI n))]) (st' := []) (w1 := Wd f fl g gl hh v tx) rfl ⟨Nat.le_of_ble_eq_true rfl, Nat.le_of_ble_eq_true rfl⟩ rfl ?_
  refine WP.mono (hop X f fl g gl hh v tx hI) ?_
  rintro r1 w1 ⟨a, f1, fl1, g1, gl1, hh1, v1, tx1, rfl, rfl, hm⟩
  show WP X 2000 0 (785, [some (.float 0), some (.ref 0), some (.ref 74), some (.int (nI n))], [.int a.toInt32], Wd f1 fl1 g1 gl1 hh1 v1 tx1) P
  refine WP.run hP_0 5 (c' := (790, [some (.float 0), some (.ref 0), some (.ref 74), some (.int (nI n))], [.int (nI n + 1), .float 0, .ref 74, .int a.toInt32], Wd f1 fl1 g1 gl1 hh1 v1 tx1)) rfl ?_
  refine WP.of (fun _ _ => Ex.sald hP_0 rfl (hin 1 (by decide))) ?_
  refine WP.run hP_0 4 (c' := (795, [some (.float 0), some (.ref 0), some (.ref 74), some (.int (nI n))], [.int (nI n + 2), .float 0, .int (X.2 (nI n + 1).toNatClampNeg), .ref 74, .int a.toInt32], Wd f1 fl1 g1 gl1 hh1 v1 tx1)) rfl ?_
  refine WP.of (fun _ _ => Ex.sald hP_0 rfl (hin 2 (by decide))) ?_
  refine WP.call hP_0 hP_211 (as := [.ref 74, .int (X.2 (nI n + 1).toNatClampNeg), .int (X.2 (nI n + 2).toNatClampNeg)]) (pc' := 799) (L' := [some (.float 0), some (.ref 0), some (.ref 74), some (.int (nI n))]) (st' := [.int a.toInt32]) (w1 := Wd f1 fl1 g1 gl1 hh1 v1 tx1) rfl ⟨Nat.le_of_ble_eq_true rfl, Nat.le_of_ble_eq_true rfl⟩ rfl ?_
  refine WP.mono hm ?_
  rintro r2 w2 ⟨rfl, f2, fl2, g2, gl2, hh2, v2, tx2, rfl, hI2, hs1, hs2⟩
  show WP X 2000 0 (799, [some (.float 0), some (.ref 0), some (.ref 74), some (.int (nI n))], [.int a.toInt32, .int a.toInt32], Wd f2 fl2 g2 gl2 hh2 v2 tx2) P
  exact WP.br hP_0 (q := a.toInt32 = a.toInt32) (t := 1217) (f := 802) (L := [some (.float 0), some (.ref 0), some (.ref 74), some (.int (nI n))]) (st := []) (w := Wd f2 fl2 g2 gl2 hh2 v2 tx2) rfl (fun _ => hnext _ _ _ _ _ _ _ hI2 hs1 hs2) (fun c => absurd rfl c)
def k_op24 (Inv : k_I) : Prop := (∀ a0 : Int32, k_op k_mi Inv 82 212 [some (.ref 0), some (.int a0), none, none, none, none] [some (.ref 74), some (.int a0), none, none, none])
set_option maxRecDepth 20000 in
theorem k_c24 {Inv : k_I} (hop0 : k_op24 Inv) {X : mm_X} {n : Nat} (f : Nat → Int32) (fl : Nat → Int64) (g : Nat → Nat → Int32) (gl : Nat → Nat → Int64) (hh : Nat → Nat → Option Nat) (v : Nat → Value) (tx : mm_W) {P : Option Value → mm_W → Prop} (hin : ∀ j : Int32, (j = 0 ∨ j = 1 ∨ j = 2 ∨ j = 3 ∨ j = 4 ∨ j = 5) → ¬ (nI n + j < 0 ∨ X.1 ≤ (nI n + j).toNatClampNeg)) (hI : Inv f fl g gl hh v tx) (hnext : ∀ (f2 : Nat → Int32) (fl2 : Nat → Int64) (g2 : Nat → Nat → Int32) (gl2 : Nat → Nat → Int64) (hh2 : Nat → Nat → Option Nat) (v2 : Nat → Value) (tx2 : mm_W), Inv f2 fl2 g2 gl2 hh2 v2 tx2 → tx2.length ≤ tx.length + 3 → mm_sl tx2 ≤ mm_sl tx + 464 → WP X 2000 0 (1217, [some (.float 0), some (.ref 0), some (.ref 74), some (.int (nI n))], [], Wd f2 fl2 g2 gl2 hh2 v2 tx2) P) : WP X 2000 0 (804, [some (.float 0), some (.ref 0), some (.ref 74), some (.int (nI n))], [], Wd f fl g gl hh v tx) P := by
  have hop := hop0 (X.2 (nI n + 1).toNatClampNeg)
  refine WP.run hP_0 5 (c' := (809, [some (.float 0), some (.ref 0), some (.ref 74), some (.int (nI n))], [.int (nI n + 1), .float 0, .ref 0], Wd f fl g gl hh v tx)) rfl ?_
  refine WP.of (fun _ _ => Ex.sald hP_0 rfl (hin 1 (by decide))) ?_
  refine WP.call hP_0 hP_82 (as := [.ref 0, .int (X.2 (nI n + 1).toNatClampNeg)]) (pc' := 813) (L' := [some (.float 0), some (.ref 0), some (.ref 74), some (.int (nI n))]) (st' := []) (w1 := Wd f fl g gl hh v tx) rfl ⟨Nat.le_of_ble_eq_true rfl, Nat.le_of_ble_eq_true rfl⟩ rfl ?_
  refine WP.mono (hop X f fl g gl hh v tx hI) ?_
  rintro r1 w1 ⟨a, f1, fl1, g1, gl1, hh1, v1, tx1, rfl, rfl, hm⟩
  show WP X 2000 0 (813, [some (.float 0), some (.ref 0), some (.ref 74), some (.int (nI n))], [.int a.toInt32], Wd f1 fl1 g1 gl1 hh1 v1 tx1) P
  refine WP.run hP_0 5 (c' := (818, [some (.float 0), some (.ref 0), some (.ref 74), some (.int (nI n))], [.int (nI n + 1), .float 0, .ref 74, .int a.toInt32], Wd f1 fl1 g1 gl1 hh1 v1 tx1)) rfl ?_
  refine WP.of (fun _ _ => Ex.sald hP_0 rfl (hin 1 (by decide))) ?_
  refine WP.call hP_0 hP_212 (as := [.ref 74, .int (X.2 (nI n + 1).toNatClampNeg)]) (pc' := 822) (L' := [some (.float 0), some (.ref 0), some (.ref 74), some (.int (nI n))]) (st' := [.int a.toInt32]) (w1 := Wd f1 fl1 g1 gl1 hh1 v1 tx1) rfl ⟨Nat.le_of_ble_eq_true rfl, Nat.le_of_ble_eq_true rfl⟩ rfl ?_
  refine WP.mono hm ?_
  rintro r2 w2 ⟨rfl, f2, fl2, g2, gl2, hh2, v2, tx2, rfl, hI2, hs1, hs2⟩
  show WP X 2000 0 (822, [some (.float 0), some (.ref 0), some (.ref 74), some (.int (nI n))], [.int a.toInt32, .int a.toInt32], Wd f2 fl2 g2 gl2 hh2 v2 tx2) P
  exact WP.br hP_0 (q := a.toInt32 = a.toInt32) (t := 1217) (f := 825) (L := [some (.float 0), some (.ref 0), some (.ref 74), some (.int (nI n))]) (st := []) (w := Wd f2 fl2 g2 gl2 hh2 v2 tx2) rfl (fun _ => hnext _ _ _ _ _ _ _ hI2 hs1 hs2) (fun c => absurd rfl c)
def k_op25 (Inv : k_I) : Prop := (∀ a0 a1 a2 : Int32, k_op k_mi Inv 83 215 [some (.ref 0), some (.int a0), some (.int a1), some (.int a2), none, none] [some (.ref 74), some (.int a0), some (.int a1), some (.int a2), none, none, none])
set_option maxRecDepth 20000 in
theorem k_c25 {Inv : k_I} (hop0 : k_op25 Inv) {X : mm_X} {n : Nat} (f : Nat → Int32) (fl : Nat → Int64) (g : Nat → Nat → Int32) (gl : Nat → Nat → Int64) (hh : Nat → Nat → Option Nat) (v : Nat → Value) (tx : mm_W) {P : Option Value → mm_W → Prop} (hin : ∀ j : Int32, (j = 0 ∨ j = 1 ∨ j = 2 ∨ j = 3 ∨ j = 4 ∨ j = 5) → ¬ (nI n + j < 0 ∨ X.1 ≤ (nI n + j).toNatClampNeg)) (hI : Inv f fl g gl hh v tx) (hnext : ∀ (f2 : Nat → Int32) (fl2 : Nat → Int64) (g2 : Nat → Nat → Int32) (gl2 : Nat → Nat → Int64) (hh2 : Nat → Nat → Option Nat) (v2 : Nat → Value) (tx2 : mm_W), Inv f2 fl2 g2 gl2 hh2 v2 tx2 → tx2.length ≤ tx.length + 3 → mm_sl tx2 ≤ mm_sl tx + 464 → WP X 2000 0 (1217, [some (.float 0), some (.ref 0), some (.ref 74), some (.int (nI n))], [], Wd f2 fl2 g2 gl2 hh2 v2 tx2) P) : WP X 2000 0 (827, [some (.float 0), some (.ref 0), some (.ref 74), some (.int (nI n))], [], Wd f fl g gl hh v tx) P := by
  have hop := hop0 (X.2 (nI n + 1).toNatClampNeg) (X.2 (nI n + 2).toNatClampNeg) (X.2 (nI n + 3).toNatClampNeg)
  refine WP.run hP_0 5 (c' := (832, [some (.float 0), some (.ref 0), some (.ref 74), some (.int (nI n))], [.int (nI n + 1), .float 0, .ref 0], Wd f fl g gl hh v tx)) rfl ?_
  refine WP.of (fun _ _ => Ex.sald hP_0 rfl (hin 1 (by decide))) ?_
  refine WP.run hP_0 4 (c' := (837, [some (.float 0), some (.ref 0), some (.ref 74), some (.int (nI n))], [.int (nI n + 2), .float 0, .int (X.2 (nI n + 1).toNatClampNeg), .ref 0], Wd f fl g gl hh v tx)) rfl ?_
  refine WP.of (fun _ _ => Ex.sald hP_0 rfl (hin 2 (by decide))) ?_
  refine WP.run hP_0 4 (c' := (842, [some (.float 0), some (.ref 0), some (.ref 74), some (.int (nI n))], [.int (nI n + 3), .float 0, .int (X.2 (nI n + 2).toNatClampNeg), .int (X.2 (nI n + 1).toNatClampNeg), .ref 0], Wd f fl g gl hh v tx)) rfl ?_
  refine WP.of (fun _ _ => Ex.sald hP_0 rfl (hin 3 (by decide))) ?_
  refine WP.call hP_0 hP_83 (as := [.ref 0, .int (X.2 (nI n + 1).toNatClampNeg), .int (X.2 (nI n + 2).toNatClampNeg), .int (X.2 (nI n + 3).toNatClampNeg)]) (pc' := 846) (L' := [some (.float 0), some (.ref 0), some (.ref 74), some (.int (nI n))]) (st' := []) (w1 := Wd f fl g gl hh v tx) rfl ⟨Nat.le_of_ble_eq_true rfl, Nat.le_of_ble_eq_true rfl⟩ rfl ?_
  refine WP.mono (hop X f fl g gl hh v tx hI) ?_
  rintro r1 w1 ⟨a, f1, fl1, g1, gl1, hh1, v1, tx1, rfl, rfl, hm⟩
  show WP X 2000 0 (846, [some (.float 0), some (.ref 0), some (.ref 74), some (.int (nI n))], [.int a.toInt32], Wd f1 fl1 g1 gl1 hh1 v1 tx1) P
  refine WP.run hP_0 5 (c' := (851, [some (.float 0), some (.ref 0), some (.ref 74), some (.int (nI n))], [.int (nI n + 1), .float 0, .ref 74, .int a.toInt32], Wd f1 fl1 g1 gl1 hh1 v1 tx1)) rfl ?_
  refine WP.of (fun _ _ => Ex.sald hP_0 rfl (hin 1 (by decide))) ?_
  refine WP.run hP_0 4 (c' := (856, [some (.float 0), some (.ref 0), some (.ref 74), some (.int (nI n))], [.int (nI n + 2), .float 0, .int (X.2 (nI n + 1).toNatClampNeg), .ref 74, .int a.toInt32], Wd f1 fl1 g1 gl1 hh1 v1 tx1)) rfl ?_
  refine WP.of (fun _ _ => Ex.sald hP_0 rfl (hin 2 (by decide))) ?_
  refine WP.run hP_0 4 (c' := (861, [some (.float 0), some (.ref 0), some (.ref 74), some (.int (nI n))], [.int (nI n + 3), .float 0, .int (X.2 (nI n + 2).toNatClampNeg), .int (X.2 (nI n + 1).toNatClampNeg), .ref 74, .int a.toInt32], Wd f1 fl1 g1 gl1 hh1 v1 tx1)) rfl ?_
  refine WP.of (fun _ _ => Ex.sald hP_0 rfl (hin 3 (by decide))) ?_
  refine WP.call hP_0 hP_215 (as := [.ref 74, .int (X.2 (nI n + 1).toNatClampNeg), .int (X.2 (nI n + 2).toNatClampNeg), .int (X.2 (nI n + 3).toNatClampNeg)]) (pc' := 865) (L' := [some (.float 0), some (.ref 0), some (.ref 74), some (.int (nI n))]) (st' := [.int a.toInt32]) (w1 := Wd f1 fl1 g1 gl1 hh1 v1 tx1) rfl ⟨Nat.le_of_ble_eq_true rfl, Nat.le_of_ble_eq_true rfl⟩ rfl ?_
  refine WP.mono hm ?_
  rintro r2 w2 ⟨rfl, f2, fl2, g2, gl2, hh2, v2, tx2, rfl, hI2, hs1, hs2⟩
  show WP X 2000 0 (865, [some (.float 0), some (.ref 0), some (.ref 74), some (.int (nI n))], [.int a.toInt32, .int a.toInt32], Wd f2 fl2 g2 gl2 hh2 v2 tx2) P
  exact WP.br hP_0 (q := a.toInt32 = a.toInt32) (t := 1217) (f := 868) (L := [some (.float 0), some (.ref 0), some (.ref 74), some (.int (nI n))]) (st := []) (w := Wd f2 fl2 g2 gl2 hh2 v2 tx2) rfl (fun _ => hnext _ _ _ _ _ _ _ hI2 hs1 hs2) (fun c => absurd rfl c)
def k_op26 (Inv : k_I) : Prop := (∀ a0 : Int32, k_op k_mi Inv 84 204 [some (.ref 0), some (.int a0)] [some (.ref 74), some (.int a0)])
set_option maxRecDepth 20000 in
theorem k_c26 {Inv : k_I} (hop0 : k_op26 Inv) {X : mm_X} {n : Nat} (f : Nat → Int32) (fl : Nat → Int64) (g : Nat → Nat → Int32) (gl : Nat → Nat → Int64) (hh : Nat → Nat → Option Nat) (v : Nat → Value) (tx : mm_W) {P : Option Value → mm_W → Prop} (hin : ∀ j : Int32, (j = 0 ∨ j = 1 ∨ j = 2 ∨ j = 3 ∨ j = 4 ∨ j = 5) → ¬ (nI n + j < 0 ∨ X.1 ≤ (nI n + j).toNatClampNeg)) (hI : Inv f fl g gl hh v tx) (hnext : ∀ (f2 : Nat → Int32) (fl2 : Nat → Int64) (g2 : Nat → Nat → Int32) (gl2 : Nat → Nat → Int64) (hh2 : Nat → Nat → Option Nat) (v2 : Nat → Value) (tx2 : mm_W), Inv f2 fl2 g2 gl2 hh2 v2 tx2 → tx2.length ≤ tx.length + 3 → mm_sl tx2 ≤ mm_sl tx + 464 → WP X 2000 0 (1217, [some (.float 0), some (.ref 0), some (.ref 74), some (.int (nI n))], [], Wd f2 fl2 g2 gl2 hh2 v2 tx2) P) : WP X 2000 0 (870, [some (.float 0), some (.ref 0), some (.ref 74), some (.int (nI n))], [], Wd f fl g gl hh v tx) P := by
  have hop := hop0 (X.2 (nI n + 1).toNatClampNeg)
  refine WP.run hP_0 5 (c' := (875, [some (.float 0), some (.ref 0), some (.ref 74), some (.int (nI n))], [.int (nI n + 1), .float 0, .ref 0], Wd f fl g gl hh v tx)) rfl ?_
  refine WP.of (fun _ _ => Ex.sald hP_0 rfl (hin 1 (by decide))) ?_
  refine WP.call hP_0 hP_84 (as := [.ref 0, .int (X.2 (nI n + 1).toNatClampNeg)]) (pc' := 879) (L' := [some (.float 0), some (.ref 0), some (.ref 74), some (.int (nI n))]) (st' := []) (w1 := Wd f fl g gl hh v tx) rfl ⟨Nat.le_of_ble_eq_true rfl, Nat.le_of_ble_eq_true rfl⟩ rfl ?_
  refine WP.mono (hop X f fl g gl hh v tx hI) ?_
  rintro r1 w1 ⟨a, f1, fl1, g1, gl1, hh1, v1, tx1, rfl, rfl, hm⟩
  show WP X 2000 0 (879, [some (.float 0), some (.ref 0), some (.ref 74), some (.int (nI n))], [.int a.toInt32], Wd f1 fl1 g1 gl1 hh1 v1 tx1) P
  refine WP.run hP_0 5 (c' := (884, [some (.float 0), some (.ref 0), some (.ref 74), some (.int (nI n))], [.int (nI n + 1), .float 0, .ref 74, .int a.toInt32], Wd f1 fl1 g1 gl1 hh1 v1 tx1)) rfl ?_
  refine WP.of (fun _ _ => Ex.sald hP_0 rfl (hin 1 (by decide))) ?_
  refine WP.call hP_0 hP_204 (as := [.ref 74, .int (X.2 (nI n + 1).toNatClampNeg)]) (pc' := 888) (L' := [some (.float 0), some (.ref 0), some (.ref 74), some (.int (nI n))]) (st' := [.int a.toInt32]) (w1 := Wd f1 fl1 g1 gl1 hh1 v1 tx1) rfl ⟨Nat.le_of_ble_eq_true rfl, Nat.le_of_ble_eq_true rfl⟩ rfl ?_
  refine WP.mono hm ?_
  rintro r2 w2 ⟨rfl, f2, fl2, g2, gl2, hh2, v2, tx2, rfl, hI2, hs1, hs2⟩
  show WP X 2000 0 (888, [some (.float 0), some (.ref 0), some (.ref 74), some (.int (nI n))], [.int a.toInt32, .int a.toInt32], Wd f2 fl2 g2 gl2 hh2 v2 tx2) P
  exact WP.br hP_0 (q := a.toInt32 = a.toInt32) (t := 1217) (f := 891) (L := [some (.float 0), some (.ref 0), some (.ref 74), some (.int (nI n))]) (st := []) (w := Wd f2 fl2 g2 gl2 hh2 v2 tx2) rfl (fun _ => hnext _ _ _ _ _ _ _ hI2 hs1 hs2) (fun c => absurd rfl c)
def k_op27 (Inv : k_I) : Prop := k_op k_mi Inv 85 225 [some (.ref 0), none] [some (.ref 74), none]
set_option maxRecDepth 20000 in
theorem k_c27 {Inv : k_I} (hop0 : k_op27 Inv) {X : mm_X} {n : Nat} (f : Nat → Int32) (fl : Nat → Int64) (g : Nat → Nat → Int32) (gl : Nat → Nat → Int64) (hh : Nat → Nat → Option Nat) (v : Nat → Value) (tx : mm_W) {P : Option Value → mm_W → Prop} (hin : ∀ j : Int32, (j = 0 ∨ j = 1 ∨ j = 2 ∨ j = 3 ∨ j = 4 ∨ j = 5) → ¬ (nI n + j < 0 ∨ X.1 ≤ (nI n + j).toNatClampNeg)) (hI : Inv f fl g gl hh v tx) (hnext : ∀ (f2 : Nat → Int32) (fl2 : Nat → Int64) (g2 : Nat → Nat → Int32) (gl2 : Nat → Nat → Int64) (hh2 : Nat → Nat → Option Nat) (v2 : Nat → Value) (tx2 : mm_W), Inv f2 fl2 g2 gl2 hh2 v2 tx2 → tx2.length ≤ tx.length + 3 → mm_sl tx2 ≤ mm_sl tx + 464 → WP X 2000 0 (1217, [some (.float 0), some (.ref 0), some (.ref 74), some (.int (nI n))], [], Wd f2 fl2 g2 gl2 hh2 v2 tx2) P) : WP X 2000 0 (893, [some (.float 0), some (.ref 0), some (.ref 74), some (.int (nI n))], [], Wd f fl g gl hh v tx) P := by
  have hop := hop0
  refine WP.run hP_0 1 (c' := (894, [some (.float 0), some (.ref 0), some (.ref 74), some (.int (nI n))], [.ref 0], Wd f fl g gl hh v tx)) rfl ?_
  refine WP.call hP_0 hP_85 (as := [.ref 0]) (pc' := 897) (L' := [some (.float 0), some (.ref 0), some (.ref 74), some (.int (nI n))]) (st' := []) (w1 := Wd f fl g gl hh v tx) rfl ⟨Nat.le_of_ble_eq_true rfl, Nat.le_of_ble_eq_true rfl⟩ rfl ?_
  refine WP.mono (hop X f fl g gl hh v tx hI) ?_
  rintro r1 w1 ⟨a, f1, fl1, g1, gl1, hh1, v1, tx1, rfl, rfl, hm⟩
  show WP X 2000 0 (897, [some (.float 0), some (.ref 0), some (.ref 74), some (.int (nI n))], [.int a.toInt32], Wd f1 fl1 g1 gl1 hh1 v1 tx1) P
  refine WP.run hP_0 1 (c' := (898, [some (.float 0), some (.ref 0), some (.ref 74), some (.int (nI n))], [.ref 74, .int a.toInt32], Wd f1 fl1 g1 gl1 hh1 v1 tx1)) rfl ?_
  refine WP.call hP_0 hP_225 (as := [.ref 74]) (pc' := 901) (L' := [some (.float 0), some (.ref 0), some (.ref 74), some (.int (nI n))]) (st' := [.int a.toInt32]) (w1 := Wd f1 fl1 g1 gl1 hh1 v1 tx1) rfl ⟨Nat.le_of_ble_eq_true rfl, Nat.le_of_ble_eq_true rfl⟩ rfl ?_
  refine WP.mono hm ?_
  rintro r2 w2 ⟨rfl, f2, fl2, g2, gl2, hh2, v2, tx2, rfl, hI2, hs1, hs2⟩
  show WP X 2000 0 (901, [some (.float 0), some (.ref 0), some (.ref 74), some (.int (nI n))], [.int a.toInt32, .int a.toInt32], Wd f2 fl2 g2 gl2 hh2 v2 tx2) P
  exact WP.br hP_0 (q := a.toInt32 = a.toInt32) (t := 1217) (f := 904) (L := [some (.float 0), some (.ref 0), some (.ref 74), some (.int (nI n))]) (st := []) (w := Wd f2 fl2 g2 gl2 hh2 v2 tx2) rfl (fun _ => hnext _ _ _ _ _ _ _ hI2 hs1 hs2) (fun c => absurd rfl c)
def k_op28 (Inv : k_I) : Prop := (∀ a0 : Int32, k_op k_mi Inv 86 226 [some (.ref 0), some (.int a0), none, none, none] [some (.ref 74), some (.int a0), none, none, none])
set_option maxRecDepth 20000 in
theorem k_c28 {Inv : k_I} (hop0 : k_op28 Inv) {X : mm_X} {n : Nat} (f : Nat → Int32) (fl : Nat → Int64) (g : Nat → Nat → Int32) (gl : Nat → Nat → Int64) (hh : Nat → Nat → Option Nat) (v : Nat → Value) (tx : mm_W) {P : Option Value → mm_W → Prop} (hin : ∀ j : Int32, (j = 0 ∨ j = 1 ∨ j = 2 ∨ j = 3 ∨ j = 4 ∨ j = 5) → ¬ (nI n + j < 0 ∨ X.1 ≤ (nI n + j).toNatClampNeg)) (hI : Inv f fl g gl hh v tx) (hnext : ∀ (f2 : Nat → Int32) (fl2 : Nat → Int64) (g2 : Nat → Nat → Int32) (gl2 : Nat → Nat → Int64) (hh2 : Nat → Nat → Option Nat) (v2 : Nat → Value) (tx2 : mm_W), Inv f2 fl2 g2 gl2 hh2 v2 tx2 → tx2.length ≤ tx.length + 3 → mm_sl tx2 ≤ mm_sl tx + 464 → WP X 2000 0 (1217, [some (.float 0), some (.ref 0), some (.ref 74), some (.int (nI n))], [], Wd f2 fl2 g2 gl2 hh2 v2 tx2) P) : WP X 2000 0 (906, [some (.float 0), some (.ref 0), some (.ref 74), some (.int (nI n))], [], Wd f fl g gl hh v tx) P := by
  have hop := hop0 (X.2 (nI n + 1).toNatClampNeg)
  refine WP.run hP_0 5 (c' := (911, [some (.float 0), some (.ref 0), some (.ref 74), some (.int (nI n))], [.int (nI n + 1), .float 0, .ref 0], Wd f fl g gl hh v tx)) rfl ?_
  refine WP.of (fun _ _ => Ex.sald hP_0 rfl (hin 1 (by decide))) ?_
  refine WP.call hP_0 hP_86 (as := [.ref 0, .int (X.2 (nI n + 1).toNatClampNeg)]) (pc' := 915) (L' := [some (.float 0), some (.ref 0), some (.ref 74), some (.int (nI n))]) (st' := []) (w1 := Wd f fl g gl hh v tx) rfl ⟨Nat.le_of_ble_eq_true rfl, Nat.le_of_ble_eq_true rfl⟩ rfl ?_
  refine WP.mono (hop X f fl g gl hh v tx hI) ?_
  rintro r1 w1 ⟨a, f1, fl1, g1, gl1, hh1, v1, tx1, rfl, rfl, hm⟩
  show WP X 2000 0 (915, [some (.float 0), some (.ref 0), some (.ref 74), some (.int (nI n))], [.int a.toInt32], Wd f1 fl1 g1 gl1 hh1 v1 tx1) P
  refine WP.run hP_0 5 (c' := (920, [some (.float 0), some (.ref 0), some (.ref 74), some (.int (nI n))], [.int (nI n + 1), .float 0, .ref 74, .int a.toInt32], Wd f1 fl1 g1 gl1 hh1 v1 tx1)) rfl ?_
  refine WP.of (fun _ _ => Ex.sald hP_0 rfl (hin 1 (by decide))) ?_
  refine WP.call hP_0 hP_226 (as := [.ref 74, .int (X.2 (nI n + 1).toNatClampNeg)]) (pc' := 924) (L' := [some (.float 0), some (.ref 0), some (.ref 74), some (.int (nI n))]) (st' := [.int a.toInt32]) (w1 := Wd f1 fl1 g1 gl1 hh1 v1 tx1) rfl ⟨Nat.le_of_ble_eq_true rfl, Nat.le_of_ble_eq_true rfl⟩ rfl ?_
  refine WP.mono hm ?_
  rintro r2 w2 ⟨rfl, f2, fl2, g2, gl2, hh2, v2, tx2, rfl, hI2, hs1, hs2⟩
  show WP X 2000 0 (924, [some (.float 0), some (.ref 0), some (.ref 74), some (.int (nI n))], [.int a.toInt32, .int a.toInt32], Wd f2 fl2 g2 gl2 hh2 v2 tx2) P
  exact WP.br hP_0 (q := a.toInt32 = a.toInt32) (t := 1217) (f := 927) (L := [some (.float 0), some (.ref 0), some (.ref 74), some (.int (nI n))]) (st := []) (w := Wd f2 fl2 g2 gl2 hh2 v2 tx2) rfl (fun _ => hnext _ _ _ _ _ _ _ hI2 hs1 hs2) (fun c => absurd rfl c)
def k_op29 (Inv : k_I) : Prop := (∀ a0 : Int32, k_op k_ml Inv 87 227 [some (.ref 0), some (.int a0), none, none, none] [some (.ref 74), some (.int a0), none, none])
set_option maxRecDepth 20000 in
theorem k_c29 {Inv : k_I} (hop0 : k_op29 Inv) {X : mm_X} {n : Nat} (f : Nat → Int32) (fl : Nat → Int64) (g : Nat → Nat → Int32) (gl : Nat → Nat → Int64) (hh : Nat → Nat → Option Nat) (v : Nat → Value) (tx : mm_W) {P : Option Value → mm_W → Prop} (hin : ∀ j : Int32, (j = 0 ∨ j = 1 ∨ j = 2 ∨ j = 3 ∨ j = 4 ∨ j = 5) → ¬ (nI n + j < 0 ∨ X.1 ≤ (nI n + j).toNatClampNeg)) (hI : Inv f fl g gl hh v tx) (hnext : ∀ (f2 : Nat → Int32) (fl2 : Nat → Int64) (g2 : Nat → Nat → Int32) (gl2 : Nat → Nat → Int64) (hh2 : Nat → Nat → Option Nat) (v2 : Nat → Value) (tx2 : mm_W), Inv f2 fl2 g2 gl2 hh2 v2 tx2 → tx2.length ≤ tx.length + 3 → mm_sl tx2 ≤ mm_sl tx + 464 → WP X 2000 0 (1217, [some (.float 0), some (.ref 0), some (.ref 74), some (.int (nI n))], [], Wd f2 fl2 g2 gl2 hh2 v2 tx2) P) : WP X 2000 0 (929, [some (.float 0), some (.ref 0), some (.ref 74), some (.int (nI n))], [], Wd f fl g gl hh v tx) P := by
  have hop := hop0 (X.2 (nI n + 1).toNatClampNeg)
  refine WP.run hP_0 5 (c' := (934, [some (.float 0), some (.ref 0), some (.ref 74), some (.int (nI n))], [.int (nI n + 1), .float 0, .ref 0], Wd f fl g gl hh v tx)) rfl ?_
  refine WP.of (fun _ _ => Ex.sald hP_0 rfl (hin 1 (by decide))) ?_
  refine WP.call hP_0 hP_87 (as := [.ref 0, .int (X.2 (nI n + 1).toNatClampNeg)]) (pc' := 938) (L' := [some (.float 0), some (.ref 0), some (.ref 74), some (.int (nI n))]) (st' := []) (w1 := Wd f fl g gl hh v tx) rfl ⟨Nat.le_of_ble_eq_true rfl, Nat.le_of_ble_eq_true rfl⟩ rfl ?_
  refine WP.mono (hop X f fl g gl hh v tx hI) ?_
  rintro r1 w1 ⟨a, f1, fl1, g1, gl1, hh1, v1, tx1, rfl, rfl, hm⟩
  show WP X 2000 0 (938, [some (.float 0), some (.ref 0), some (.ref 74), some (.int (nI n))], [.long a], Wd f1 fl1 g1 gl1 hh1 v1 tx1) P
  refine WP.run hP_0 5 (c' := (943, [some (.float 0), some (.ref 0), some (.ref 74), some (.int (nI n))], [.int (nI n + 1), .float 0, .ref 74, .long a], Wd f1 fl1 g1 gl1 hh1 v1 tx1)) rfl ?_
  refine WP.of (fun _ _ => Ex.sald hP_0 rfl (hin 1 (by decide))) ?_
  refine WP.call hP_0 hP_227 (as := [.ref 74, .int (X.2 (nI n + 1).toNatClampNeg)]) (pc' := 947) (L' := [some (.float 0), some (.ref 0), some (.ref 74), some (.int (nI n))]) (st' := [.long a]) (w1 := Wd f1 fl1 g1 gl1 hh1 v1 tx1) rfl ⟨Nat.le_of_ble_eq_true rfl, Nat.le_of_ble_eq_true rfl⟩ rfl ?_
  refine WP.mono hm ?_
  rintro r2 w2 ⟨rfl, f2, fl2, g2, gl2, hh2, v2, tx2, rfl, hI2, hs1, hs2⟩
  show WP X 2000 0 (947, [some (.float 0), some (.ref 0), some (.ref 74), some (.int (nI n))], [.long a, .long a], Wd f2 fl2 g2 gl2 hh2 v2 tx2) P
  refine WP.run hP_0 1 (c' := (948, [some (.float 0), some (.ref 0), some (.ref 74), some (.int (nI n))], [.int (lg_cmp a a)], Wd f2 fl2 g2 gl2 hh2 v2 tx2)) rfl ?_
  exact WP.br hP_0 (q := lg_cmp a a = 0) (t := 1217) (f := 951) (L := [some (.float 0), some (.ref 0), some (.ref 74), some (.int (nI n))]) (st := []) (w := Wd f2 fl2 g2 gl2 hh2 v2 tx2) rfl (fun _ => hnext _ _ _ _ _ _ _ hI2 hs1 hs2) (fun c => absurd (by simp [lg_cmp]) c)
def k_op30 (Inv : k_I) : Prop := (∀ a0 : Int32, k_op k_mi Inv 88 228 [some (.ref 0), some (.int a0)] [some (.ref 74), some (.int a0), none])
set_option maxRecDepth 20000 in
theorem k_c30 {Inv : k_I} (hop0 : k_op30 Inv) {X : mm_X} {n : Nat} (f : Nat → Int32) (fl : Nat → Int64) (g : Nat → Nat → Int32) (gl : Nat → Nat → Int64) (hh : Nat → Nat → Option Nat) (v : Nat → Value) (tx : mm_W) {P : Option Value → mm_W → Prop} (hin : ∀ j : Int32, (j = 0 ∨ j = 1 ∨ j = 2 ∨ j = 3 ∨ j = 4 ∨ j = 5) → ¬ (nI n + j < 0 ∨ X.1 ≤ (nI n + j).toNatClampNeg)) (hI : Inv f fl g gl hh v tx) (hnext : ∀ (f2 : Nat → Int32) (fl2 : Nat → Int64) (g2 : Nat → Nat → Int32) (gl2 : Nat → Nat → Int64) (hh2 : Nat → Nat → Option Nat) (v2 : Nat → Value) (tx2 : mm_W), Inv f2 fl2 g2 gl2 hh2 v2 tx2 → tx2.length ≤ tx.length + 3 → mm_sl tx2 ≤ mm_sl tx + 464 → WP X 2000 0 (1217, [some (.float 0), some (.ref 0), some (.ref 74), some (.int (nI n))], [], Wd f2 fl2 g2 gl2 hh2 v2 tx2) P) : WP X 2000 0 (953, [some (.float 0), some (.ref 0), some (.ref 74), some (.int (nI n))], [], Wd f fl g gl hh v tx) P := by
  have hop := hop0 (X.2 (nI n + 1).toNatClampNeg)
  refine WP.run hP_0 5 (c' := (958, [some (.float 0), some (.ref 0), some (.ref 74), some (.int (nI n))], [.int (nI n + 1), .float 0, .ref 0], Wd f fl g gl hh v tx)) rfl ?_
  refine WP.of (fun _ _ => Ex.sald hP_0 rfl (hin 1 (by decide))) ?_
  refine WP.call hP_0 hP_88 (as := [.ref 0, .int (X.2 (nI n + 1).toNatClampNeg)]) (pc' := 962) (L' := [some (.float 0), some (.ref 0), some (.ref 74), some (.int (nI n))]) (st' := []) (w1 := Wd f fl g gl hh v tx) rfl ⟨Nat.le_of_ble_eq_true rfl, Nat.le_of_ble_eq_true rfl⟩ rfl ?_
  refine WP.mono (hop X f fl g gl hh v tx hI) ?_
  rintro r1 w1 ⟨a, f1, fl1, g1, gl1, hh1, v1, tx1, rfl, rfl, hm⟩
  show WP X 2000 0 (962, [some (.float 0), some (.ref 0), some (.ref 74), some (.int (nI n))], [.int a.toInt32], Wd f1 fl1 g1 gl1 hh1 v1 tx1) P
  refine WP.run hP_0 5 (c' := (967, [some (.float 0), some (.ref 0), some (.ref 74), some (.int (nI n))], [.int (nI n + 1), .float 0, .ref 74, .int a.toInt32], Wd f1 fl1 g1 gl1 hh1 v1 tx1)) rfl ?_
  refine WP.of (fun _ _ => Ex.sald hP_0 rfl (hin 1 (by decide))) ?_
  refine WP.call hP_0 hP_228 (as := [.ref 74, .int (X.2 (nI n + 1).toNatClampNeg)]) (pc' := 971) (L' := [some (.float 0), some (.ref 0), some (.ref 74), some (.int (nI n))]) (st' := [.int a.toInt32]) (w1 := Wd f1 fl1 g1 gl1 hh1 v1 tx1) rfl ⟨Nat.le_of_ble_eq_true rfl, Nat.le_of_ble_eq_true rfl⟩ rfl ?_
  refine WP.mono hm ?_
  rintro r2 w2 ⟨rfl, f2, fl2, g2, gl2, hh2, v2, tx2, rfl, hI2, hs1, hs2⟩
  show WP X 2000 0 (971, [some (.float 0), some (.ref 0), some (.ref 74), some (.int (nI n))], [.int a.toInt32, .int a.toInt32], Wd f2 fl2 g2 gl2 hh2 v2 tx2) P
  exact WP.br hP_0 (q := a.toInt32 = a.toInt32) (t := 1217) (f := 974) (L := [some (.float 0), some (.ref 0), some (.ref 74), some (.int (nI n))]) (st := []) (w := Wd f2 fl2 g2 gl2 hh2 v2 tx2) rfl (fun _ => hnext _ _ _ _ _ _ _ hI2 hs1 hs2) (fun c => absurd rfl c)
def k_op31 (Inv : k_I) : Prop := k_op k_mi Inv 89 229 [some (.ref 0), none] [some (.ref 74), none]
set_option maxRecDepth 20000 in
theorem k_c31 {Inv : k_I} (hop0 : k_op31 Inv) {X : mm_X} {n : Nat} (f : Nat → Int32) (fl : Nat → Int64) (g : Nat → Nat → Int32) (gl : Nat → Nat → Int64) (hh : Nat → Nat → Option Nat) (v : Nat → Value) (tx : mm_W) {P : Option Value → mm_W → Prop} (hin : ∀ j : Int32, (j = 0 ∨ j = 1 ∨ j = 2 ∨ j = 3 ∨ j = 4 ∨ j = 5) → ¬ (nI n + j < 0 ∨ X.1 ≤ (nI n + j).toNatClampNeg)) (hI : Inv f fl g gl hh v tx) (hnext : ∀ (f2 : Nat → Int32) (fl2 : Nat → Int64) (g2 : Nat → Nat → Int32) (gl2 : Nat → Nat → Int64) (hh2 : Nat → Nat → Option Nat) (v2 : Nat → Value) (tx2 : mm_W), Inv f2 fl2 g2 gl2 hh2 v2 tx2 → tx2.length ≤ tx.length + 3 → mm_sl tx2 ≤ mm_sl tx + 464 → WP X 2000 0 (1217, [some (.float 0), some (.ref 0), some (.ref 74), some (.int (nI n))], [], Wd f2 fl2 g2 gl2 hh2 v2 tx2) P) : WP X 2000 0 (976, [some (.float 0), some (.ref 0), some (.ref 74), some (.int (nI n))], [], Wd f fl g gl hh v tx) P := by
  have hop := hop0
  refine WP.run hP_0 1 (c' := (977, [some (.float 0), some (.ref 0), some (.ref 74), some (.int (nI n))], [.ref 0], Wd f fl g gl hh v tx)) rfl ?_
  refine WP.call hP_0 hP_89 (as := [.ref 0]) (pc' := 980) (L' := [some (.float 0), some (.ref 0), some (.ref 74), some (.int (nI n))]) (st' := []) (w1 := Wd f fl g gl hh v tx) rfl ⟨Nat.le_of_ble_eq_true rfl, Nat.le_of_ble_eq_true rfl⟩ rfl ?_
  refine WP.mono (hop X f fl g gl hh v tx hI) ?_
  rintro r1 w1 ⟨a, f1, fl1, g1, gl1, hh1, v1, tx1, rfl, rfl, hm⟩
  show WP X 2000 0 (980, [some (.float 0), some (.ref 0), some (.ref 74), some (.int (nI n))], [.int a.toInt32], Wd f1 fl1 g1 gl1 hh1 v1 tx1) P
  refine WP.run hP_0 1 (c' := (981, [some (.float 0), some (.ref 0), some (.ref 74), some (.int (nI n))], [.ref 74, .int a.toInt32], Wd f1 fl1 g1 gl1 hh1 v1 tx1)) rfl ?_
  refine WP.call hP_0 hP_229 (as := [.ref 74]) (pc' := 984) (L' := [some (.float 0), some (.ref 0), some (.ref 74), some (.int (nI n))]) (st' := [.int a.toInt32]) (w1 := Wd f1 fl1 g1 gl1 hh1 v1 tx1) rfl ⟨Nat.le_of_ble_eq_true rfl, Nat.le_of_ble_eq_true rfl⟩ rfl ?_
  refine WP.mono hm ?_
  rintro r2 w2 ⟨rfl, f2, fl2, g2, gl2, hh2, v2, tx2, rfl, hI2, hs1, hs2⟩
  show WP X 2000 0 (984, [some (.float 0), some (.ref 0), some (.ref 74), some (.int (nI n))], [.int a.toInt32, .int a.toInt32], Wd f2 fl2 g2 gl2 hh2 v2 tx2) P
  exact WP.br hP_0 (q := a.toInt32 = a.toInt32) (t := 1217) (f := 987) (L := [some (.float 0), some (.ref 0), some (.ref 74), some (.int (nI n))]) (st := []) (w := Wd f2 fl2 g2 gl2 hh2 v2 tx2) rfl (fun _ => hnext _ _ _ _ _ _ _ hI2 hs1 hs2) (fun c => absurd rfl c)
def k_op32 (Inv : k_I) : Prop := k_op k_mi Inv 90 230 [some (.ref 0)] [some (.ref 74), none, none, none, none, none]
set_option maxRecDepth 20000 in
theorem k_c32 {Inv : k_I} (hop0 : k_op32 Inv) {X : mm_X} {n : Nat} (f : Nat → Int32) (fl : Nat → Int64) (g : Nat → Nat → Int32) (gl : Nat → Nat → Int64) (hh : Nat → Nat → Option Nat) (v : Nat → Value) (tx : mm_W) {P : Option Value → mm_W → Prop} (hin : ∀ j : Int32, (j = 0 ∨ j = 1 ∨ j = 2 ∨ j = 3 ∨ j = 4 ∨ j = 5) → ¬ (nI n + j < 0 ∨ X.1 ≤ (nI n + j).toNatClampNeg)) (hI : Inv f fl g gl hh v tx) (hnext : ∀ (f2 : Nat → Int32) (fl2 : Nat → Int64) (g2 : Nat → Nat → Int32) (gl2 : Nat → Nat → Int64) (hh2 : Nat → Nat → Option Nat) (v2 : Nat → Value) (tx2 : mm_W), Inv f2 fl2 g2 gl2 hh2 v2 tx2 → tx2.length ≤ tx.length + 3 → mm_sl tx2 ≤ mm_sl tx + 464 → WP X 2000 0 (1217, [some (.float 0), some (.ref 0), some (.ref 74), some (.int (nI n))], [], Wd f2 fl2 g2 gl2 hh2 v2 tx2) P) : WP X 2000 0 (989, [some (.float 0), some (.ref 0), some (.ref 74), some (.int (nI n))], [], Wd f fl g gl hh v tx) P := by
  have hop := hop0
  refine WP.run hP_0 1 (c' := (990, [some (.float 0), some (.ref 0), some (.ref 74), some (.int (nI n))], [.ref 0], Wd f fl g gl hh v tx)) rfl ?_
  refine WP.call hP_0 hP_90 (as := [.ref 0]) (pc' := 993) (L' := [some (.float 0), some (.ref 0), some (.ref 74), some (.int (nI n))]) (st' := []) (w1 := Wd f fl g gl hh v tx) rfl ⟨Nat.le_of_ble_eq_true rfl, Nat.le_of_ble_eq_true rfl⟩ rfl ?_
  refine WP.mono (hop X f fl g gl hh v tx hI) ?_
  rintro r1 w1 ⟨a, f1, fl1, g1, gl1, hh1, v1, tx1, rfl, rfl, hm⟩
  show WP X 2000 0 (993, [some (.float 0), some (.ref 0), some (.ref 74), some (.int (nI n))], [.int a.toInt32], Wd f1 fl1 g1 gl1 hh1 v1 tx1) P
  refine WP.run hP_0 1 (c' := (994, [some (.float 0), some (.ref 0), some (.ref 74), some (.int (nI n))], [.ref 74, .int a.toInt32], Wd f1 fl1 g1 gl1 hh1 v1 tx1)) rfl ?_
  refine WP.call hP_0 hP_230 (as := [.ref 74]) (pc' := 997) (L' := [some (.float 0), some (.ref 0), some (.ref 74), some (.int (nI n))]) (st' := [.int a.toInt32]) (w1 := Wd f1 fl1 g1 gl1 hh1 v1 tx1) rfl ⟨Nat.le_of_ble_eq_true rfl, Nat.le_of_ble_eq_true rfl⟩ rfl ?_
  refine WP.mono hm ?_
  rintro r2 w2 ⟨rfl, f2, fl2, g2, gl2, hh2, v2, tx2, rfl, hI2, hs1, hs2⟩
  show WP X 2000 0 (997, [some (.float 0), some (.ref 0), some (.ref 74), some (.int (nI n))], [.int a.toInt32, .int a.toInt32], Wd f2 fl2 g2 gl2 hh2 v2 tx2) P
  exact WP.br hP_0 (q := a.toInt32 = a.toInt32) (t := 1217) (f := 1000) (L := [some (.float 0), some (.ref 0), some (.ref 74), some (.int (nI n))]) (st := []) (w := Wd f2 fl2 g2 gl2 hh2 v2 tx2) rfl (fun _ => hnext _ _ _ _ _ _ _ hI2 hs1 hs2) (fun c => absurd rfl c)
def k_op33 (Inv : k_I) : Prop := (∀ a0 a1 : Int32, k_op k_ml Inv 91 231 [some (.ref 0), some (.int a0), some (.int a1), none, none, none, none] [some (.ref 74), some (.int a0), some (.int a1), none, none, none])
set_option maxRecDepth 20000 in
theorem k_c33 {Inv : k_I} (hop0 : k_op33 Inv) {X : mm_X} {n : Nat} (f : Nat → Int32) (fl : Nat → Int64) (g : Nat → Nat → Int32) (gl : Nat → Nat → Int64) (hh : Nat → Nat → Option Nat) (v : Nat → Value) (tx : mm_W) {P : Option Value → mm_W → Prop} (hin : ∀ j : Int32, (j = 0 ∨ j = 1 ∨ j = 2 ∨ j = 3 ∨ j = 4 ∨ j = 5) → ¬ (nI n + j < 0 ∨ X.1 ≤ (nI n + j).toNatClampNeg)) (hI : Inv f fl g gl hh v tx) (hnext : ∀ (f2 : Nat → Int32) (fl2 : Nat → Int64) (g2 : Nat → Nat → Int32) (gl2 : Nat → Nat → Int64) (hh2 : Nat → Nat → Option Nat) (v2 : Nat → Value) (tx2 : mm_W), Inv f2 fl2 g2 gl2 hh2 v2 tx2 → tx2.length ≤ tx.length + 3 → mm_sl tx2 ≤ mm_sl tx + 464 → WP X 2000 0 (1217, [some (.float 0), some (.ref 0), some (.ref 74), some (.int (nI n))], [], Wd f2 fl2 g2 gl2 hh2 v2 tx2) P) : WP X 2000 0 (1002, [some (.float 0), some (.ref 0), some (.ref 74), some (.int (nI n))], [], Wd f fl g gl hh v tx) P := by
  have hop := hop0 (X.2 (nI n + 1).toNatClampNeg) (X.2 (nI n + 2).toNatClampNeg)
  refine WP.run hP_0 5 (c' := (1007, [some (.float 0), some (.ref 0), some (.ref 74), some (.int (nI n))], [.int (nI n + 1), .float 0, .ref 0], Wd f fl g gl hh v tx)) rfl ?_
  refine WP.of (fun _ _ => Ex.sald hP_0 rfl (hin 1 (by decide))) ?_
  refine WP.run hP_0 4 (c' := (1012, [some (.float 0), some (.ref 0), some (.ref 74), some (.int (nI n))], [.int (nI n + 2), .float 0, .int (X.2 (nI n + 1).toNatClampNeg), .ref 0], Wd f fl g gl hh v tx)) rfl ?_
  refine WP.of (fun _ _ => Ex.sald hP_0 rfl (hin 2 (by decide))) ?_
  refine WP.call hP_0 hP_91 (as := [.ref 0, .int (X.2 (nI n + 1).toNatClampNeg), .int (X.2 (nI n + 2).toNatClampNeg)]) (pc' := 1016) (L' := [some (.float 0), some (.ref 0), some (.ref 74), some (.int (nI n))]) (st' := []) (w1 := Wd f fl g gl hh v tx) rfl ⟨Nat.le_of_ble_eq_true rfl, Nat.le_of_ble_eq_true rfl⟩ rfl ?_
  refine WP.mono (hop X f fl g gl hh v tx hI) ?_
  rintro r1 w1 ⟨a, f1, fl1, g1, gl1, hh1, v1, tx1, rfl, rfl, hm⟩
  show WP X 2000 0 (1016, [some (.float 0), some (.ref 0), some (.ref 74), some (.int (nI n))], [.long a], Wd f1 fl1 g1 gl1 hh1 v1 tx1) P
  refine WP.run hP_0 5 (c' := (1021, [some (.float 0), some (.ref 0), some (.ref 74), some (.int (nI n))], [.int (nI n + 1), .float 0, .ref 74, .long a], Wd f1 fl1 g1 gl1 hh1 v1 tx1)) rfl ?_
  refine WP.of (fun _ _ => Ex.sald hP_0 rfl (hin 1 (by decide))) ?_
  refine WP.run hP_0 4 (c' := (1026, [some (.float 0), some (.ref 0), some (.ref 74), some (.int (nI n))], [.int (nI n + 2), .float 0, .int (X.2 (nI n + 1).toNatClampNeg), .ref 74, .long a], Wd f1 fl1 g1 gl1 hh1 v1 tx1)) rfl ?_
  refine WP.of (fun _ _ => Ex.sald hP_0 rfl (hin 2 (by decide))) ?_
  refine WP.call hP_0 hP_231 (as := [.ref 74, .int (X.2 (nI n + 1).toNatClampNeg), .int (X.2 (nI n + 2).toNatClampNeg)]) (pc' := 1030) (L' := [some (.float 0), some (.ref 0), some (.ref 74), some (.int (nI n))]) (st' := [.long a]) (w1 := Wd f1 fl1 g1 gl1 hh1 v1 tx1) rfl ⟨Nat.le_of_ble_eq_true rfl, Nat.le_of_ble_eq_true rfl⟩ rfl ?_
  refine WP.mono hm ?_
  rintro r2 w2 ⟨rfl, f2, fl2, g2, gl2, hh2, v2, tx2, rfl, hI2, hs1, hs2⟩
  show WP X 2000 0 (1030, [some (.float 0), some (.ref 0), some (.ref 74), some (.int (nI n))], [.long a, .long a], Wd f2 fl2 g2 gl2 hh2 v2 tx2) P
  refine WP.run hP_0 1 (c' := (1031, [some (.float 0), some (.ref 0), some (.ref 74), some (.int (nI n))], [.int (lg_cmp a a)], Wd f2 fl2 g2 gl2 hh2 v2 tx2)) rfl ?_
  exact WP.br hP_0 (q := lg_cmp a a = 0) (t := 1217) (f := 1034) (L := [some (.float 0), some (.ref 0), some (.ref 74), some (.int (nI n))]) (st := []) (w := Wd f2 fl2 g2 gl2 hh2 v2 tx2) rfl (fun _ => hnext _ _ _ _ _ _ _ hI2 hs1 hs2) (fun c => absurd (by simp [lg_cmp]) c)
def k_op34 (Inv : k_I) : Prop := (∀ a0 a1 : Int32, k_op k_mi Inv 92 203 [some (.ref 0), some (.int a0), some (.int a1), none] [some (.ref 74), some (.int a0), some (.int a1), none, none])
set_option maxRecDepth 20000 in
theorem k_c34 {Inv : k_I} (hop0 : k_op34 Inv) {X : mm_X} {n : Nat} (f : Nat → Int32) (fl : Nat → Int64) (g : Nat → Nat → Int32) (gl : Nat → Nat → Int64) (hh : Nat → Nat → Option Nat) (v : Nat → Value) (tx : mm_W) {P : Option Value → mm_W → Prop} (hin : ∀ j : Int32, (j = 0 ∨ j = 1 ∨ j = 2 ∨ j = 3 ∨ j = 4 ∨ j = 5) → ¬ (nI n + j < 0 ∨ X.1 ≤ (nI n + j).toNatClampNeg)) (hI : Inv f fl g gl hh v tx) (hnext : ∀ (f2 : Nat → Int32) (fl2 : Nat → Int64) (g2 : Nat → Nat → Int32) (gl2 : Nat → Nat → Int64) (hh2 : Nat → Nat → Option Nat) (v2 : Nat → Value) (tx2 : mm_W), Inv f2 fl2 g2 gl2 hh2 v2 tx2 → tx2.length ≤ tx.length + 3 → mm_sl tx2 ≤ mm_sl tx + 464 → WP X 2000 0 (1217, [some (.float 0), some (.ref 0), some (.ref 74), some (.int (nI n))], [], Wd f2 fl2 g2 gl2 hh2 v2 tx2) P) : WP X 2000 0 (1036, [some (.float 0), some (.ref 0), some (.ref 74), some (.int (nI n))], [], Wd f fl g gl hh v tx) P := by
  have hop := hop0 (X.2 (nI n + 1).toNatClampNeg) (X.2 (nI n + 2).toNatClampNeg)
  refine WP.run hP_0 5 (c' := (1041, [some (.float 0), some (.ref 0), some (.ref 74), some (.int (nI n))], [.int (nI n + 1), .float 0, .ref 0], Wd f fl g gl hh v tx)) rfl ?_
  refine WP.of (fun _ _ => Ex.sald hP_0 rfl (hin 1 (by decide))) ?_
  refine WP.run hP_0 4 (c' := (1046, [some (.float 0), some (.ref 0), some (.ref 74), some (.int (nI n))], [.int (nI n + 2), .float 0, .int (X.2 (nI n + 1).toNatClampNeg), .ref 0], Wd f fl g gl hh v tx)) rfl ?_
  refine WP.of (fun _ _ => Ex.sald hP_0 rfl (hin 2 (by decide))) ?_
  refine WP.call hP_0 hP_92 (as := [.ref 0, .int (X.2 (nI n + 1).toNatClampNeg), .int (X.2 (nI n + 2).toNatClampNeg)]) (pc' := 1050) (L' := [some (.float 0), some (.ref 0), some (.ref 74), some (.int (nI n))]) (st' := []) (w1 := Wd f fl g gl hh v tx) rfl ⟨Nat.le_of_ble_eq_true rfl, Nat.le_of_ble_eq_true rfl⟩ rfl ?_
  refine WP.mono (hop X f fl g gl hh v tx hI) ?_
  rintro r1 w1 ⟨a, f1, fl1, g1, gl1, hh1, v1, tx1, rfl, rfl, hm⟩
  show WP X 2000 0 (1050, [some (.float 0), some (.ref 0), some (.ref 74), some (.int (nI n))], [.int a.toInt32], Wd f1 fl1 g1 gl1 hh1 v1 tx1) P
  refine WP.run hP_0 5 (c' := (1055, [some (.float 0), some (.ref 0), some (.ref 74), some (.int (nI n))], [.int (nI n + 1), .float 0, .ref 74, .int a.toInt32], Wd f1 fl1 g1 gl1 hh1 v1 tx1)) rfl ?_
  refine WP.of (fun _ _ => Ex.sald hP_0 rfl (hin 1 (by decide))) ?_
  refine WP.run hP_0 4 (c' := (1060, [some (.float 0), some (.ref 0), some (.ref 74), some (.int (nI n))], [.int (nI n + 2), .float 0, .int (X.2 (nI n + 1).toNatClampNeg), .ref 74, .int a.toInt32], Wd f1 fl1 g1 gl1 hh1 v1 tx1)) rfl ?_
  refine WP.of (fun _ _ => Ex.sald hP_0 rfl (hin 2 (by decide))) ?_
  refine WP.call hP_0 hP_203 (as := [.ref 74, .int (X.2 (nI n + 1).toNatClampNeg), .int (X.2 (nI n + 2).toNatClampNeg)]) (pc' := 1064) (L' := [some (.float 0), some (.ref 0), some (.ref 74), some (.int (nI n))]) (st' := [.int a.toInt32]) (w1 := Wd f1 fl1 g1 gl1 hh1 v1 tx1) rfl ⟨Nat.le_of_ble_eq_true rfl, Nat.le_of_ble_eq_true rfl⟩ rfl ?_
  refine WP.mono hm ?_
  rintro r2 w2 ⟨rfl, f2, fl2, g2, gl2, hh2, v2, tx2, rfl, hI2, hs1, hs2⟩
  show WP X 2000 0 (1064, [some (.float 0), some (.ref 0), some (.ref 74), some (.int (nI n))], [.int a.toInt32, .int a.toInt32], Wd f2 fl2 g2 gl2 hh2 v2 tx2) P
  exact WP.br hP_0 (q := a.toInt32 = a.toInt32) (t := 1217) (f := 1067) (L := [some (.float 0), some (.ref 0), some (.ref 74), some (.int (nI n))]) (st := []) (w := Wd f2 fl2 g2 gl2 hh2 v2 tx2) rfl (fun _ => hnext _ _ _ _ _ _ _ hI2 hs1 hs2) (fun c => absurd rfl c)
def k_op35 (Inv : k_I) : Prop := (∀ a0 a1 : Int32, k_op k_mi Inv 93 252 [some (.ref 0), some (.int a0), some (.int a1), none, none, none, none, none] [some (.ref 74), some (.int a0), some (.int a1), none, none])
set_option maxRecDepth 20000 in
theorem k_c35 {Inv : k_I} (hop0 : k_op35 Inv) {X : mm_X} {n : Nat} (f : Nat → Int32) (fl : Nat → Int64) (g : Nat → Nat → Int32) (gl : Nat → Nat → Int64) (hh : Nat → Nat → Option Nat) (v : Nat → Value) (tx : mm_W) {P : Option Value → mm_W → Prop} (hin : ∀ j : Int32, (j = 0 ∨ j = 1 ∨ j = 2 ∨ j = 3 ∨ j = 4 ∨ j = 5) → ¬ (nI n + j < 0 ∨ X.1 ≤ (nI n + j).toNatClampNeg)) (hI : Inv f fl g gl hh v tx) (hnext : ∀ (f2 : Nat → Int32) (fl2 : Nat → Int64) (g2 : Nat → Nat → Int32) (gl2 : Nat → Nat → Int64) (hh2 : Nat → Nat → Option Nat) (v2 : Nat → Value) (tx2 : mm_W), Inv f2 fl2 g2 gl2 hh2 v2 tx2 → tx2.length ≤ tx.length + 3 → mm_sl tx2 ≤ mm_sl tx + 464 → WP X 2000 0 (1217, [some (.float 0), some (.ref 0), some (.ref 74), some (.int (nI n))], [], Wd f2 fl2 g2 gl2 hh2 v2 tx2) P) : WP X 2000 0 (1069, [some (.float 0), some (.ref 0), some (.ref 74), some (.int (nI n))], [], Wd f fl g gl hh v tx) P := by
  have hop := hop0 (X.2 (nI n + 1).toNatClampNeg) (X.2 (nI n + 2).toNatClampNeg)
  refine WP.run hP_0 5 (c' := (1074, [some (.float 0), some (.ref 0), some (.ref 74), some (.int (nI n))], [.int (nI n + 1), .float 0, .ref 0], Wd f fl g gl hh v tx)) rfl ?_
  refine WP.of (fun _ _ => Ex.sald hP_0 rfl (hin 1 (by decide))) ?_
  refine WP.run hP_0 4 (c' := (1079, [some (.float 0), some (.ref 0), some (.ref 74), some (.int (nI n))], [.int (nI n + 2), .float 0, .int (X.2 (nI n + 1).toNatClampNeg), .ref 0], Wd f fl g gl hh v tx)) rfl ?_
  refine WP.of (fun _ _ => Ex.sald hP_0 rfl (hin 2 (by decide))) ?_
  refine WP.call hP_0 hP_93 (as := [.ref 0, .int (X.2 (nI n + 1).toNatClampNeg), .int (X.2 (nI n + 2).toNatClampNeg)]) (pc' := 1083) (L' := [some (.float 0), some (.ref 0), some (.ref 74), some (.int (nI n))]) (st' := []) (w1 := Wd f fl g gl hh v tx) rfl ⟨Nat.le_of_ble_eq_true rfl, Nat.le_of_ble_eq_true rfl⟩ rfl ?_
  refine WP.mono (hop X f fl g gl hh v tx hI) ?_
  rintro r1 w1 ⟨a, f1, fl1, g1, gl1, hh1, v1, tx1, rfl, rfl, hm⟩
  show WP X 2000 0 (1083, [some (.float 0), some (.ref 0), some (.ref 74), some (.int (nI n))], [.int a.toInt32], Wd f1 fl1 g1 gl1 hh1 v1 tx1) P
  refine WP.run hP_0 5 (c' := (1088, [some (.float 0), some (.ref 0), some (.ref 74), some (.int (nI n))], [.int (nI n + 1), .float 0, .ref 74, .int a.toInt32], Wd f1 fl1 g1 gl1 hh1 v1 tx1)) rfl ?_
  refine WP.of (fun _ _ => Ex.sald hP_0 rfl (hin 1 (by decide))) ?_
  refine WP.run hP_0 4 (c' := (1093, [some (.float 0), some (.ref 0), some (.ref 74), some (.int (nI n))], [.int (nI n + 2), .float 0, .int (X.2 (nI n + 1).toNatClampNeg), .ref 74, .int a.toInt32], Wd f1 fl1 g1 gl1 hh1 v1 tx1)) rfl ?_
  refine WP.of (fun _ _ => Ex.sald hP_0 rfl (hin 2 (by decide))) ?_
  refine WP.call hP_0 hP_252 (as := [.ref 74, .int (X.2 (nI n + 1).toNatClampNeg), .int (X.2 (nI n + 2).toNatClampNeg)]) (pc' := 1097) (L' := [some (.float 0), some (.ref 0), some (.ref 74), some (.int (nI n))]) (st' := [.int a.toInt32]) (w1 := Wd f1 fl1 g1 gl1 hh1 v1 tx1) rfl ⟨Nat.le_of_ble_eq_true rfl, Nat.le_of_ble_eq_true rfl⟩ rfl ?_
  refine WP.mono hm ?_
  rintro r2 w2 ⟨rfl, f2, fl2, g2, gl2, hh2, v2, tx2, rfl, hI2, hs1, hs2⟩
  show WP X 2000 0 (1097, [some (.float 0), some (.ref 0), some (.ref 74), some (.int (nI n))], [.int a.toInt32, .int a.toInt32], Wd f2 fl2 g2 gl2 hh2 v2 tx2) P
  exact WP.br hP_0 (q := a.toInt32 = a.toInt32) (t := 1217) (f := 1100) (L := [some (.float 0), some (.ref 0), some (.ref 74), some (.int (nI n))]) (st := []) (w := Wd f2 fl2 g2 gl2 hh2 v2 tx2) rfl (fun _ => hnext _ _ _ _ _ _ _ hI2 hs1 hs2) (fun c => absurd rfl c)
def k_op36 (Inv : k_I) : Prop := (∀ a0 a1 : Int32, k_op k_mi Inv 94 253 [some (.ref 0), some (.int a0), some (.int a1)] [some (.ref 74), some (.int a0), some (.int a1)])
set_option maxRecDepth 20000 in
theorem k_c36 {Inv : k_I} (hop0 : k_op36 Inv) {X : mm_X} {n : Nat} (f : Nat → Int32) (fl : Nat → Int64) (g : Nat → Nat → Int32) (gl : Nat → Nat → Int64) (hh : Nat → Nat → Option Nat) (v : Nat → Value) (tx : mm_W) {P : Option Value → mm_W → Prop} (hin : ∀ j : Int32, (j = 0 ∨ j = 1 ∨ j = 2 ∨ j = 3 ∨ j = 4 ∨ j = 5) → ¬ (nI n + j < 0 ∨ X.1 ≤ (nI n + j).toNatClampNeg)) (hI : Inv f fl g gl hh v tx) (hnext : ∀ (f2 : Nat → Int32) (fl2 : Nat → Int64) (g2 : Nat → Nat → Int32) (gl2 : Nat → Nat → Int64) (hh2 : Nat → Nat → Option Nat) (v2 : Nat → Value) (tx2 : mm_W), Inv f2 fl2 g2 gl2 hh2 v2 tx2 → tx2.length ≤ tx.length + 3 → mm_sl tx2 ≤ mm_sl tx + 464 → WP X 2000 0 (1217, [some (.float 0), some (.ref 0), some (.ref 74), some (.int (nI n))], [], Wd f2 fl2 g2 gl2 hh2 v2 tx2) P) : WP X 2000 0 (1102, [some (.float 0), some (.ref 0), some (.ref 74), some (.int (nI n))], [], Wd f fl g gl hh v tx) P := by
  have hop := hop0 (X.2 (nI n + 1).toNatClampNeg) (X.2 (nI n + 2).toNatClampNeg)
  refine WP.run hP_0 5 (c' := (1107, [some (.float 0), some (.ref 0), some (.ref 74), some (.int (nI n))], [.int (nI n + 1), .float 0, .ref 0], Wd f fl g gl hh v tx)) rfl ?_
  refine WP.of (fun _ _ => Ex.sald hP_0 rfl (hin 1 (by decide))) ?_
  refine WP.run hP_0 4 (c' := (1112, [some (.float 0), some (.ref 0), some (.ref 74), some (.int (nI n))], [.int (nI n + 2), .float 0, .int (X.2 (nI n + 1).toNatClampNeg), .ref 0], Wd f fl g gl hh v tx)) rfl ?_
  refine WP.of (fun _ _ => Ex.sald hP_0 rfl (hin 2 (by decide))) ?_
  refine WP.call hP_0 hP_94 (as := [.ref 0, .int (X.2 (nI n + 1).toNatClampNeg), .int (X.2 (nI n + 2).toNatClampNeg)]) (pc' := 1116) (L' := [some (.float 0), some (.ref 0), some (.ref 74), some (.int (nI n))]) (st' := []) (w1 := Wd f fl g gl hh v tx) rfl ⟨Nat.le_of_ble_eq_true rfl, Nat.le_of_ble_eq_true rfl⟩ rfl ?_
  refine WP.mono (hop X f fl g gl hh v tx hI) ?_
  rintro r1 w1 ⟨a, f1, fl1, g1, gl1, hh1, v1, tx1, rfl, rfl, hm⟩
  show WP X 2000 0 (1116, [some (.float 0), some (.ref 0), some (.ref 74), some (.int (nI n))], [.int a.toInt32], Wd f1 fl1 g1 gl1 hh1 v1 tx1) P
  refine WP.run hP_0 5 (c' := (1121, [some (.float 0), some (.ref 0), some (.ref 74), some (.int (nI n))], [.int (nI n + 1), .float 0, .ref 74, .int a.toInt32], Wd f1 fl1 g1 gl1 hh1 v1 tx1)) rfl ?_
  refine WP.of (fun _ _ => Ex.sald hP_0 rfl (hin 1 (by decide))) ?_
  refine WP.run hP_0 4 (c' := (1126, [some (.float 0), some (.ref 0), some (.ref 74), some (.int (nI n))], [.int (nI n + 2), .float 0, .int (X.2 (nI n + 1).toNatClampNeg), .ref 74, .int a.toInt32], Wd f1 fl1 g1 gl1 hh1 v1 tx1)) rfl ?_
  refine WP.of (fun _ _ => Ex.sald hP_0 rfl (hin 2 (by decide))) ?_
  refine WP.call hP_0 hP_253 (as := [.ref 74, .int (X.2 (nI n + 1).toNatClampNeg), .int (X.2 (nI n + 2).toNatClampNeg)]) (pc' := 1130) (L' := [some (.float 0), some (.ref 0), some (.ref 74), some (.int (nI n))]) (st' := [.int a.toInt32]) (w1 := Wd f1 fl1 g1 gl1 hh1 v1 tx1) rfl ⟨Nat.le_of_ble_eq_true rfl, Nat.le_of_ble_eq_true rfl⟩ rfl ?_
  refine WP.mono hm ?_
  rintro r2 w2 ⟨rfl, f2, fl2, g2, gl2, hh2, v2, tx2, rfl, hI2, hs1, hs2⟩
  show WP X 2000 0 (1130, [some (.float 0), some (.ref 0), some (.ref 74), some (.int (nI n))], [.int a.toInt32, .int a.toInt32], Wd f2 fl2 g2 gl2 hh2 v2 tx2) P
  exact WP.br hP_0 (q := a.toInt32 = a.toInt32) (t := 1217) (f := 1133) (L := [some (.float 0), some (.ref 0), some (.ref 74), some (.int (nI n))]) (st := []) (w := Wd f2 fl2 g2 gl2 hh2 v2 tx2) rfl (fun _ => hnext _ _ _ _ _ _ _ hI2 hs1 hs2) (fun c => absurd rfl c)
def k_op37 (Inv : k_I) : Prop := (∀ a0 : Int32, k_op k_mi Inv 95 127 [some (.ref 0), some (.int a0)] [some (.ref 74), some (.int a0), none])
set_option maxRecDepth 20000 in
theorem k_c37 {Inv : k_I} (hop0 : k_op37 Inv) {X : mm_X} {n : Nat} (f : Nat → Int32) (fl : Nat → Int64) (g : Nat → Nat → Int32) (gl : Nat → Nat → Int64) (hh : Nat → Nat → Option Nat) (v : Nat → Value) (tx : mm_W) {P : Option Value → mm_W → Prop} (hin : ∀ j : Int32, (j = 0 ∨ j = 1 ∨ j = 2 ∨ j = 3 ∨ j = 4 ∨ j = 5) → ¬ (nI n + j < 0 ∨ X.1 ≤ (nI n + j).toNatClampNeg)) (hI : Inv f fl g gl hh v tx) (hnext : ∀ (f2 : Nat → Int32) (fl2 : Nat → Int64) (g2 : Nat → Nat → Int32) (gl2 : Nat → Nat → Int64) (hh2 : Nat → Nat → Option Nat) (v2 : Nat → Value) (tx2 : mm_W), Inv f2 fl2 g2 gl2 hh2 v2 tx2 → tx2.length ≤ tx.length + 3 → mm_sl tx2 ≤ mm_sl tx + 464 → WP X 2000 0 (1217, [some (.float 0), some (.ref 0), some (.ref 74), some (.int (nI n))], [], Wd f2 fl2 g2 gl2 hh2 v2 tx2) P) : WP X 2000 0 (1135, [some (.float 0), some (.ref 0), some (.ref 74), some (.int (nI n))], [], Wd f fl g gl hh v tx) P := by
  have hop := hop0 (X.2 (nI n + 1).toNatClampNeg)
  refine WP.run hP_0 5 (c' := (1140, [some (.float 0), some (.ref 0), some (.ref 74), some (.int (nI n))], [.int (nI n + 1), .float 0, .ref 0], Wd f fl g gl hh v tx)) rfl ?_
  refine WP.of (fun _ _ => Ex.sald hP_0 rfl (hin 1 (by decide))) ?_
  refine WP.call hP_0 hP_95 (as := [.ref 0, .int (X.2 (nI n + 1).toNatClampNeg)]) (pc' := 1144) (L' := [some (.float 0), some (.ref 0), some (.ref 74), some (.int (nI n))]) (st' := []) (w1 := Wd f fl g gl hh v tx) rfl ⟨Nat.le_of_ble_eq_true rfl, Nat.le_of_ble_eq_true rfl⟩ rfl ?_
  refine WP.mono (hop X f fl g gl hh v tx hI) ?_
  rintro r1 w1 ⟨a, f1, fl1, g1, gl1, hh1, v1, tx1, rfl, rfl, hm⟩
  show WP X 2000 0 (1144, [some (.float 0), some (.ref 0), some (.ref 74), some (.int (nI n))], [.int a.toInt32], Wd f1 fl1 g1 gl1 hh1 v1 tx1) P
  refine WP.run hP_0 5 (c' := (1149, [some (.float 0), some (.ref 0), some (.ref 74), some (.int (nI n))], [.int (nI n + 1), .float 0, .ref 74, .int a.toInt32], Wd f1 fl1 g1 gl1 hh1 v1 tx1)) rfl ?_
  refine WP.of (fun _ _ => Ex.sald hP_0 rfl (hin 1 (by decide))) ?_
  refine WP.call hP_0 hP_127 (as := [.ref 74, .int (X.2 (nI n + 1).toNatClampNeg)]) (pc' := 1153) (L' := [some (.float 0), some (.ref 0), some (.ref 74), some (.int (nI n))]) (st' := [.int a.toInt32]) (w1 := Wd f1 fl1 g1 gl1 hh1 v1 tx1) rfl ⟨Nat.le_of_ble_eq_true rfl, Nat.le_of_ble_eq_true rfl⟩ rfl ?_
  refine WP.mono hm ?_
  rintro r2 w2 ⟨rfl, f2, fl2, g2, gl2, hh2, v2, tx2, rfl, hI2, hs1, hs2⟩
  show WP X 2000 0 (1153, [some (.float 0), some (.ref 0), some (.ref 74), some (.int (nI n))], [.int a.toInt32, .int a.toInt32], Wd f2 fl2 g2 gl2 hh2 v2 tx2) P
  exact WP.br hP_0 (q := a.toInt32 = a.toInt32) (t := 1217) (f := 1156) (L := [some (.float 0), some (.ref 0), some (.ref 74), some (.int (nI n))]) (st := []) (w := Wd f2 fl2 g2 gl2 hh2 v2 tx2) rfl (fun _ => hnext _ _ _ _ _ _ _ hI2 hs1 hs2) (fun c => absurd rfl c)
def k_op38 (Inv : k_I) : Prop := (∀ a0 : Int32, k_op k_mi Inv 96 128 [some (.ref 0), some (.int a0)] [some (.ref 74), some (.int a0), none])
set_option maxRecDepth 20000 in
theorem k_c38 {Inv : k_I} (hop0 : k_op38 Inv) {X : mm_X} {n : Nat} (f : Nat → Int32) (fl : Nat → Int64) (g : Nat → Nat → Int32) (gl : Nat → Nat → Int64) (hh : Nat → Nat → Option Nat) (v : Nat → Value) (tx : mm_W) {P : Option Value → mm_W → Prop} (hin : ∀ j : Int32, (j = 0 ∨ j = 1 ∨ j = 2 ∨ j = 3 ∨ j = 4 ∨ j = 5) → ¬ (nI n + j < 0 ∨ X.1 ≤ (nI n + j).toNatClampNeg)) (hI : Inv f fl g gl hh v tx) (hnext : ∀ (f2 : Nat → Int32) (fl2 : Nat → Int64) (g2 : Nat → Nat → Int32) (gl2 : Nat → Nat → Int64) (hh2 : Nat → Nat → Option Nat) (v2 : Nat → Value) (tx2 : mm_W), Inv f2 fl2 g2 gl2 hh2 v2 tx2 → tx2.length ≤ tx.length + 3 → mm_sl tx2 ≤ mm_sl tx + 464 → WP X 2000 0 (1217, [some (.float 0), some (.ref 0), some (.ref 74), some (.int (nI n))], [], Wd f2 fl2 g2 gl2 hh2 v2 tx2) P) : WP X 2000 0 (1158, [some (.float 0), some (.ref 0), some (.ref 74), some (.int (nI n))], [], Wd f fl g gl hh v tx) P := by
  have hop := hop0 (X.2 (nI n + 1).toNatClampNeg)
  refine WP.run hP_0 5 (c' := (1163, [some (.float 0), some (.ref 0), some (.ref 74), some (.int (nI n))], [.int (nI n + 1), .float 0, .ref 0], Wd f fl g gl hh v tx)) rfl ?_
  refine WP.of (fun _ _ => Ex.sald hP_0 rfl (hin 1 (by decide))) ?_
  refine WP.call hP_0 hP_96 (as := [.ref 0, .int (X.2 (nI n + 1).toNatClampNeg)]) (pc' := 1167) (L' := [some (.float 0), some (.ref 0), some (.ref 74), some (.int (nI n))]) (st' := []) (w1 := Wd f fl g gl hh v tx) rfl ⟨Nat.le_of_ble_eq_true rfl, Nat.le_of_ble_eq_true rfl⟩ rfl ?_
  refine WP.mono (hop X f fl g gl hh v tx hI) ?_
  rintro r1 w1 ⟨a, f1, fl1, g1, gl1, hh1, v1, tx1, rfl, rfl, hm⟩
  show WP X 2000 0 (1167, [some (.float 0), some (.ref 0), some (.ref 74), some (.int (nI n))], [.int a.toInt32], Wd f1 fl1 g1 gl1 hh1 v1 tx1) P
  refine WP.run hP_0 5 (c' := (1172, [some (.float 0), some (.ref 0), some (.ref 74), some (.int (nI n))], [.int (nI n + 1), .float 0, .ref 74, .int a.toInt32], Wd f1 fl1 g1 gl1 hh1 v1 tx1)) rfl ?_
  refine WP.of (fun _ _ => Ex.sald hP_0 rfl (hin 1 (by decide))) ?_
  refine WP.call hP_0 hP_128 (as := [.ref 74, .int (X.2 (nI n + 1).toNatClampNeg)]) (pc' := 1176) (L' := [some (.float 0), some (.ref 0), some (.ref 74), some (.int (nI n))]) (st' := [.int a.toInt32]) (w1 := Wd f1 fl1 g1 gl1 hh1 v1 tx1) rfl ⟨Nat.le_of_ble_eq_true rfl, Nat.le_of_ble_eq_true rfl⟩ rfl ?_
  refine WP.mono hm ?_
  rintro r2 w2 ⟨rfl, f2, fl2, g2, gl2, hh2, v2, tx2, rfl, hI2, hs1, hs2⟩
  show WP X 2000 0 (1176, [some (.float 0), some (.ref 0), some (.ref 74), some (.int (nI n))], [.int a.toInt32, .int a.toInt32], Wd f2 fl2 g2 gl2 hh2 v2 tx2) P
  exact WP.br hP_0 (q := a.toInt32 = a.toInt32) (t := 1217) (f := 1179) (L := [some (.float 0), some (.ref 0), some (.ref 74), some (.int (nI n))]) (st := []) (w := Wd f2 fl2 g2 gl2 hh2 v2 tx2) rfl (fun _ => hnext _ _ _ _ _ _ _ hI2 hs1 hs2) (fun c => absurd rfl c)
def k_op39 (Inv : k_I) : Prop := (∀ a0 : Int32, k_op k_mi Inv 97 254 [some (.ref 0), some (.int a0)] [some (.ref 74), some (.int a0)])
set_option maxRecDepth 20000 in
theorem k_c39 {Inv : k_I} (hop0 : k_op39 Inv) {X : mm_X} {n : Nat} (f : Nat → Int32) (fl : Nat → Int64) (g : Nat → Nat → Int32) (gl : Nat → Nat → Int64) (hh : Nat → Nat → Option Nat) (v : Nat → Value) (tx : mm_W) {P : Option Value → mm_W → Prop} (hin : ∀ j : Int32, (j = 0 ∨ j = 1 ∨ j = 2 ∨ j = 3 ∨ j = 4 ∨ j = 5) → ¬ (nI n + j < 0 ∨ X.1 ≤ (nI n + j).toNatClampNeg)) (hI : Inv f fl g gl hh v tx) (hnext : ∀ (f2 : Nat → Int32) (fl2 : Nat → Int64) (g2 : Nat → Nat → Int32) (gl2 : Nat → Nat → Int64) (hh2 : Nat → Nat → Option Nat) (v2 : Nat → Value) (tx2 : mm_W), Inv f2 fl2 g2 gl2 hh2 v2 tx2 → tx2.length ≤ tx.length + 3 → mm_sl tx2 ≤ mm_sl tx + 464 → WP X 2000 0 (1217, [some (.float 0), some (.ref 0), some (.ref 74), some (.int (nI n))], [], Wd f2 fl2 g2 gl2 hh2 v2 tx2) P) : WP X 2000 0 (1181, [some (.float 0), some (.ref 0), some (.ref 74), some (.int (nI n))], [], Wd f fl g gl hh v tx) P := by
  have hop := hop0 (X.2 (nI n + 1).toNatClampNeg)
  refine WP.run hP_0 5 (c' := (1186, [some (.float 0), some (.ref 0), some (.ref 74), some (.int (nI n))], [.int (nI n + 1), .float 0, .ref 0], Wd f fl g gl hh v tx)) rfl ?_
  refine WP.of (fun _ _ => Ex.sald hP_0 rfl (hin 1 (by decide))) ?_
  refine WP.call hP_0 hP_97 (as := [.ref 0, .int (X.2 (nI n + 1).toNatClampNeg)]) (pc' := 1190) (L' := [some (.float 0), some (.ref 0), some (.ref 74), some (.int (nI n))]) (st' := []) (w1 := Wd f fl g gl hh v tx) rfl ⟨Nat.le_of_ble_eq_true rfl, Nat.le_of_ble_eq_true rfl⟩ rfl ?_
  refine WP.mono (hop X f fl g gl hh v tx hI) ?_
  rintro r1 w1 ⟨a, f1, fl1, g1, gl1, hh1, v1, tx1, rfl, rfl, hm⟩
  show WP X 2000 0 (1190, [some (.float 0), some (.ref 0), some (.ref 74), some (.int (nI n))], [.int a.toInt32], Wd f1 fl1 g1 gl1 hh1 v1 tx1) P
  refine WP.run hP_0 5 (c' := (1195, [some (.float 0), some (.ref 0), some (.ref 74), some (.int (nI n))], [.int (nI n + 1), .float 0, .ref 74, .int a.toInt32], Wd f1 fl1 g1 gl1 hh1 v1 tx1)) rfl ?_
  refine WP.of (fun _ _ => Ex.sald hP_0 rfl (hin 1 (by decide))) ?_
  refine WP.call hP_0 hP_254 (as := [.ref 74, .int (X.2 (nI n + 1).toNatClampNeg)]) (pc' := 1199) (L' := [some (.float 0), some (.ref 0), some (.ref 74), some (.int (nI n))]) (st' := [.int a.toInt32]) (w1 := Wd f1 fl1 g1 gl1 hh1 v1 tx1) rfl ⟨Nat.le_of_ble_eq_true rfl, Nat.le_of_ble_eq_true rfl⟩ rfl ?_
  refine WP.mono hm ?_
  rintro r2 w2 ⟨rfl, f2, fl2, g2, gl2, hh2, v2, tx2, rfl, hI2, hs1, hs2⟩
  show WP X 2000 0 (1199, [some (.float 0), some (.ref 0), some (.ref 74), some (.int (nI n))], [.int a.toInt32, .int a.toInt32], Wd f2 fl2 g2 gl2 hh2 v2 tx2) P
  exact WP.br hP_0 (q := a.toInt32 = a.toInt32) (t := 1217) (f := 1202) (L := [some (.float 0), some (.ref 0), some (.ref 74), some (.int (nI n))]) (st := []) (w := Wd f2 fl2 g2 gl2 hh2 v2 tx2) rfl (fun _ => hnext _ _ _ _ _ _ _ hI2 hs1 hs2) (fun c => absurd rfl c)
def k_op40 (Inv : k_I) : Prop := k_op k_mi Inv 98 255 [some (.ref 0)] [some (.ref 74)]
set_option maxRecDepth 20000 in
theorem k_c40 {Inv : k_I} (hop0 : k_op40 Inv) {X : mm_X} {n : Nat} (f : Nat → Int32) (fl : Nat → Int64) (g : Nat → Nat → Int32) (gl : Nat → Nat → Int64) (hh : Nat → Nat → Option Nat) (v : Nat → Value) (tx : mm_W) {P : Option Value → mm_W → Prop} (hin : ∀ j : Int32, (j = 0 ∨ j = 1 ∨ j = 2 ∨ j = 3 ∨ j = 4 ∨ j = 5) → ¬ (nI n + j < 0 ∨ X.1 ≤ (nI n + j).toNatClampNeg)) (hI : Inv f fl g gl hh v tx) (hnext : ∀ (f2 : Nat → Int32) (fl2 : Nat → Int64) (g2 : Nat → Nat → Int32) (gl2 : Nat → Nat → Int64) (hh2 : Nat → Nat → Option Nat) (v2 : Nat → Value) (tx2 : mm_W), Inv f2 fl2 g2 gl2 hh2 v2 tx2 → tx2.length ≤ tx.length + 3 → mm_sl tx2 ≤ mm_sl tx + 464 → WP X 2000 0 (1217, [some (.float 0), some (.ref 0), some (.ref 74), some (.int (nI n))], [], Wd f2 fl2 g2 gl2 hh2 v2 tx2) P) : WP X 2000 0 (1204, [some (.float 0), some (.ref 0), some (.ref 74), some (.int (nI n))], [], Wd f fl g gl hh v tx) P := by
  have hop := hop0
  refine WP.run hP_0 1 (c' := (1205, [some (.float 0), some (.ref 0), some (.ref 74), some (.int (nI n))], [.ref 0], Wd f fl g gl hh v tx)) rfl ?_
  refine WP.call hP_0 hP_98 (as := [.ref 0]) (pc' := 1208) (L' := [some (.float 0), some (.ref 0), some (.ref 74), some (.int (nI n))]) (st' := []) (w1 := Wd f fl g gl hh v tx) rfl ⟨Nat.le_of_ble_eq_true rfl, Nat.le_of_ble_eq_true rfl⟩ rfl ?_
  refine WP.mono (hop X f fl g gl hh v tx hI) ?_
  rintro r1 w1 ⟨a, f1, fl1, g1, gl1, hh1, v1, tx1, rfl, rfl, hm⟩
  show WP X 2000 0 (1208, [some (.float 0), some (.ref 0), some (.ref 74), some (.int (nI n))], [.int a.toInt32], Wd f1 fl1 g1 gl1 hh1 v1 tx1) P
  refine WP.run hP_0 1 (c' := (1209, [some (.float 0), some (.ref 0), some (.ref 74), some (.int (nI n))], [.ref 74, .int a.toInt32], Wd f1 fl1 g1 gl1 hh1 v1 tx1)) rfl ?_
  refine WP.call hP_0 hP_255 (as := [.ref 74]) (pc' := 1212) (L' := [some (.float 0), some (.ref 0), some (.ref 74), some (.int (nI n))]) (st' := [.int a.toInt32]) (w1 := Wd f1 fl1 g1 gl1 hh1 v1 tx1) rfl ⟨Nat.le_of_ble_eq_true rfl, Nat.le_of_ble_eq_true rfl⟩ rfl ?_
  refine WP.mono hm ?_
  rintro r2 w2 ⟨rfl, f2, fl2, g2, gl2, hh2, v2, tx2, rfl, hI2, hs1, hs2⟩
  show WP X 2000 0 (1212, [some (.float 0), some (.ref 0), some (.ref 74), some (.int (nI n))], [.int a.toInt32, .int a.toInt32], Wd f2 fl2 g2 gl2 hh2 v2 tx2) P
  exact WP.br hP_0 (q := a.toInt32 = a.toInt32) (t := 1217) (f := 1215) (L := [some (.float 0), some (.ref 0), some (.ref 74), some (.int (nI n))]) (st := []) (w := Wd f2 fl2 g2 gl2 hh2 v2 tx2) rfl (fun _ => hnext _ _ _ _ _ _ _ hI2 hs1 hs2) (fun c => absurd rfl c)
def k_Ops (Inv : k_I) : Prop := k_op0 Inv ∧ k_op1 Inv ∧ k_op2 Inv ∧ k_op3 Inv ∧ k_op4 Inv ∧ k_op5 Inv ∧ k_op6 Inv ∧ k_op7 Inv ∧ k_op8 Inv ∧ k_op9 Inv ∧ k_op10 Inv ∧ k_op11 Inv ∧ k_op12 Inv ∧ k_op13 Inv ∧ k_op14 Inv ∧ k_op15 Inv ∧ k_op16 Inv ∧ k_op17 Inv ∧ k_op18 Inv ∧ k_op19 Inv ∧ k_op20 Inv ∧ k_op21 Inv ∧ k_op22 Inv ∧ k_op23 Inv ∧ k_op24 Inv ∧ k_op25 Inv ∧ k_op26 Inv ∧ k_op27 Inv ∧ k_op28 Inv ∧ k_op29 Inv ∧ k_op30 Inv ∧ k_op31 Inv ∧ k_op32 Inv ∧ k_op33 Inv ∧ k_op34 Inv ∧ k_op35 Inv ∧ k_op36 Inv ∧ k_op37 Inv ∧ k_op38 Inv ∧ k_op39 Inv ∧ k_op40 Inv
theorem k_idx {L n : Nat} (hL : L ≤ 3072) (h : n + 6 ≤ L) : ∀ j : Int32, (j = 0 ∨ j = 1 ∨ j = 2 ∨ j = 3 ∨ j = 4 ∨ j = 5) → ¬ (nI n + j < 0 ∨ L ≤ (nI n + j).toNatClampNeg) := by
  have key : ∀ k : Nat, k < 6 → ¬ (nI n + nI k < 0 ∨ L ≤ (nI n + nI k).toNatClampNeg) := by
    intro k hk
    rw [nI_add]
    exact nI_in (by omega) (by omega)
  rintro j (rfl | rfl | rfl | rfl | rfl | rfl)
  · exact key 0 (by decide)
  · exact key 1 (by decide)
  · exact key 2 (by decide)
  · exact key 3 (by decide)
  · exact key 4 (by decide)
  · exact key 5 (by decide)
theorem k_head {L n : Nat} (hL : L ≤ 3072) (hn : n ≤ 3078) (h : ¬ (Int32.ofNat L - 6 < nI n)) : n + 6 ≤ L := by
  have h1 : (Int32.ofNat L - 6).toInt = (L : Int) - 6 := pk_sub_toInt (a := L) (b := 6) (by omega) (by decide)
  have h2 : (nI n).toInt = (n : Int) := nI_toInt (by omega)
  rw [Int32.lt_iff_toInt_lt, h1, h2] at h
  omega
set_option maxRecDepth 20000 in
set_option maxHeartbeats 2000000 in
theorem k_loop {Inv : k_I} (H : k_Ops Inv) {X : mm_X} (hX : X.1 ≤ 3072) {P : Option Value → mm_W → Prop} (hP : ∀ (f : Nat → Int32) (fl : Nat → Int64) (g : Nat → Nat → Int32) (gl : Nat → Nat → Int64) (hh : Nat → Nat → Option Nat) (v : Nat → Value) (tx : mm_W), tx.length ≤ 6000 → mm_sl tx ≤ 700000 → P (some (.int 1)) (Wd f fl g gl hh v tx)) : ∀ (m n : Nat) (f : Nat → Int32) (fl : Nat → Int64) (g : Nat → Nat → Int32) (gl : Nat → Nat → Int64) (hh : Nat → Nat → Option Nat) (v : Nat → Value) (tx : mm_W), X.1 + 6 ≤ n + m → n ≤ 3078 → Inv f fl g gl hh v tx → tx.length ≤ n → mm_sl tx ≤ 80 * n → WP X 2000 0 (18, [some (.float 0), some (.ref 0), some (.ref 74), some (.int (nI n))], [], Wd f fl g gl hh v tx) P := by
  intro m
  induction m with
  | zero =>
    intro n f fl g gl hh v tx h1 h2 hI hs1 hs2
    refine WP.run hP_0 5 (c' := (24, [some (.float 0), some (.ref 0), some (.ref 74), some (.int (nI n))], [.int (Int32.ofNat X.1 - 6), .int (nI n)], Wd f fl g gl hh v tx)) rfl ?_
    refine WP.br hP_0 (q := Int32.ofNat X.1 - 6 < nI n) (t := 1223) (f := 27) (L := [some (.float 0), some (.ref 0), some (.ref 74), some (.int (nI n))]) (st := []) (w := Wd f fl g gl hh v tx) rfl (fun _ => ?_) (fun c => absurd (k_head hX h2 c) (by omega))
    refine WP.run hP_0 1 (c' := (1224, [none, none, none, none], [.int 1], Wd f fl g gl hh v tx)) rfl ?_
    exact WP.retZ hP_0 rfl rfl (Or.inr rfl) (hP _ _ _ _ _ _ _ (by omega) (by omega))
  | succ m ih =>
    intro n f fl g gl hh v tx h1 h2 hI hs1 hs2
    refine WP.run hP_0 5 (c' := (24, [some (.float 0), some (.ref 0), some (.ref 74), some (.int (nI n))], [.int (Int32.ofNat X.1 - 6), .int (nI n)], Wd f fl g gl hh v tx)) rfl ?_
    refine WP.br hP_0 (q := Int32.ofNat X.1 - 6 < nI n) (t := 1223) (f := 27) (L := [some (.float 0), some (.ref 0), some (.ref 74), some (.int (nI n))]) (st := []) (w := Wd f fl g gl hh v tx) rfl (fun _ => ?_) (fun c => ?_)
    · refine WP.run hP_0 1 (c' := (1224, [none, none, none, none], [.int 1], Wd f fl g gl hh v tx)) rfl ?_
      exact WP.retZ hP_0 rfl rfl (Or.inr rfl) (hP _ _ _ _ _ _ _ (by omega) (by omega))
    · have hn6 := k_head hX h2 c
      have hin := k_idx hX hn6
      have hi0 : ¬ (nI n < 0 ∨ X.1 ≤ (nI n).toNatClampNeg) := nI_in (by omega) (by omega)
      refine WP.run hP_0 2 (c' := (29, [some (.float 0), some (.ref 0), some (.ref 74), some (.int (nI n))], [.int (nI n), .float 0], Wd f fl g gl hh v tx)) rfl ?_
      refine WP.of (fun _ _ => Ex.sald hP_0 rfl hi0) ?_
      refine WP.run hP_0 3 (c' := (mm_sw (X.2 (nI n).toNatClampNeg &&& 63) 0 [212, 245, 278, 321, 354, 397, 420, 453, 516, 539, 552, 565, 578, 591, 604, 617, 640, 663, 676, 699, 712, 725, 738, 771, 804, 827, 870, 893, 906, 929, 953, 976, 989, 1002, 1036, 1069, 1102, 1135, 1158, 1181, 1204] 1217, [some (.float 0), some (.ref 0), some (.ref 74), some (.int (nI n))], [], Wd f fl g gl hh v tx)) rfl ?_
      have hnext : ∀ (f2 : Nat → Int32) (fl2 : Nat → Int64) (g2 : Nat → Nat → Int32) (gl2 : Nat → Nat → Int64) (hh2 : Nat → Nat → Option Nat) (v2 : Nat → Value) (tx2 : mm_W), Inv f2 fl2 g2 gl2 hh2 v2 tx2 → tx2.length ≤ tx.length + 3 → mm_sl tx2 ≤ mm_sl tx + 464 → WP X 2000 0 (1217, [some (.float 0), some (.ref 0), some (.ref 74), some (.int (nI n))], [], Wd f2 fl2 g2 gl2 hh2 v2 tx2) P := by
        intro f2 fl2 g2 gl2 hh2 v2 tx2 hI2 ht1 ht2
        refine WP.run hP_0 2 (c' := (18, [some (.float 0), some (.ref 0), some (.ref 74), some (.int (nI n + 6))], [], Wd f2 fl2 g2 gl2 hh2 v2 tx2)) rfl ?_
        have e6 : nI n + 6 = nI (n + 6) := nI_add n 6
        rw [e6]
        exact ih (n + 6) _ _ _ _ _ _ _ (by omega) (by omega) hI2 (by omega) (by omega)
      rcases mm_sw_mem (X.2 (nI n).toNatClampNeg &&& 63) 0 [212, 245, 278, 321, 354, 397, 420, 453, 516, 539, 552, 565, 578, 591, 604, 617, 640, 663, 676, 699, 712, 725, 738, 771, 804, 827, 870, 893, 906, 929, 953, 976, 989, 1002, 1036, 1069, 1102, 1135, 1158, 1181, 1204] 1217 with h | h
      · rw [h]
        exact hnext _ _ _ _ _ _ _ hI (by omega) (by omega)
      · generalize mm_sw (X.2 (nI n).toNatClampNeg &&& 63) 0 [212, 245, 278, 321, 354, 397, 420, 453, 516, 539, 552, 565, 578, 591, 604, 617, 640, 663, 676, 699, 712, 725, 738, 771, 804, 827, 870, 893, 906, 929, 953, 976, 989, 1002, 1036, 1069, 1102, 1135, 1158, 1181, 1204] 1217 = t at h ⊢
        simp only [List.mem_cons, List.not_mem_nil, or_false] at h
        rcases h with rfl | rfl | rfl | rfl | rfl | rfl | rfl | rfl | rfl | rfl | rfl | rfl | rfl | rfl | rfl | rfl | rfl | rfl | rfl | rfl | rfl | rfl | rfl | rfl | rfl | rfl | rfl | rfl | rfl | rfl | rfl | rfl | rfl | rfl | rfl | rfl | rfl | rfl | rfl | rfl | rfl
        · exact k_c0 H.1 f fl g gl hh v tx hin hI hnext
        · exact k_c1 H.2.1 f fl g gl hh v tx hin hI hnext
        · exact k_c2 H.2.2.1 f fl g gl hh v tx hin hI hnext
        · exact k_c3 H.2.2.2.1 f fl g gl hh v tx hin hI hnext
        · exact k_c4 H.2.2.2.2.1 f fl g gl hh v tx hin hI hnext
        · exact k_c5 H.2.2.2.2.2.1 f fl g gl hh v tx hin hI hnext
        · exact k_c6 H.2.2.2.2.2.2.1 f fl g gl hh v tx hin hI hnext
        · exact k_c7 H.2.2.2.2.2.2.2.1 f fl g gl hh v tx hin hI hnext
        · exact k_c8 H.2.2.2.2.2.2.2.2.1 f fl g gl hh v tx hin hI hnext
        · exact k_c9 H.2.2.2.2.2.2.2.2.2.1 f fl g gl hh v tx hin hI hnext
        · exact k_c10 H.2.2.2.2.2.2.2.2.2.2.1 f fl g gl hh v tx hin hI hnext
        · exact k_c11 H.2.2.2.2.2.2.2.2.2.2.2.1 f fl g gl hh v tx hin hI hnext
        · exact k_c12 H.2.2.2.2.2.2.2.2.2.2.2.2.1 f fl g gl hh v tx hin hI hnext
        · exact k_c13 H.2.2.2.2.2.2.2.2.2.2.2.2.2.1 f fl g gl hh v tx hin hI hnext
        · exact k_c14 H.2.2.2.2.2.2.2.2.2.2.2.2.2.2.1 f fl g gl hh v tx hin hI hnext
        · exact k_c15 H.2.2.2.2.2.2.2.2.2.2.2.2.2.2.2.1 f fl g gl hh v tx hin hI hnext
        · exact k_c16 H.2.2.2.2.2.2.2.2.2.2.2.2.2.2.2.2.1 f fl g gl hh v tx hin hI hnext
        · exact k_c17 H.2.2.2.2.2.2.2.2.2.2.2.2.2.2.2.2.2.1 f fl g gl hh v tx hin hI hnext
        · exact k_c18 H.2.2.2.2.2.2.2.2.2.2.2.2.2.2.2.2.2.2.1 f fl g gl hh v tx hin hI hnext
        · exact k_c19 H.2.2.2.2.2.2.2.2.2.2.2.2.2.2.2.2.2.2.2.1 f fl g gl hh v tx hin hI hnext
        · exact k_c20 H.2.2.2.2.2.2.2.2.2.2.2.2.2.2.2.2.2.2.2.2.1 f fl g gl hh v tx hin hI hnext
        · exact k_c21 H.2.2.2.2.2.2.2.2.2.2.2.2.2.2.2.2.2.2.2.2.2.1 f fl g gl hh v tx hin hI hnext
        · exact k_c22 H.2.2.2.2.2.2.2.2.2.2.2.2.2.2.2.2.2.2.2.2.2.2.1 f fl g gl hh v tx hin hI hnext
        · exact k_c23 H.2.2.2.2.2.2.2.2.2.2.2.2.2.2.2.2.2.2.2.2.2.2.2.1 f fl g gl hh v tx hin hI hnext
        · exact k_c24 H.2.2.2.2.2.2.2.2.2.2.2.2.2.2.2.2.2.2.2.2.2.2.2.2.1 f fl g gl hh v tx hin hI hnext
        · exact k_c25 H.2.2.2.2.2.2.2.2.2.2.2.2.2.2.2.2.2.2.2.2.2.2.2.2.2.1 f fl g gl hh v tx hin hI hnext
        · exact k_c26 H.2.2.2.2.2.2.2.2.2.2.2.2.2.2.2.2.2.2.2.2.2.2.2.2.2.2.1 f fl g gl hh v tx hin hI hnext
        · exact k_c27 H.2.2.2.2.2.2.2.2.2.2.2.2.2.2.2.2.2.2.2.2.2.2.2.2.2.2.2.1 f fl g gl hh v tx hin hI hnext
        · exact k_c28 H.2.2.2.2.2.2.2.2.2.2.2.2.2.2.2.2.2.2.2.2.2.2.2.2.2.2.2.2.1 f fl g gl hh v tx hin hI hnext
        · exact k_c29 H.2.2.2.2.2.2.2.2.2.2.2.2.2.2.2.2.2.2.2.2.2.2.2.2.2.2.2.2.2.1 f fl g gl hh v tx hin hI hnext
        · exact k_c30 H.2.2.2.2.2.2.2.2.2.2.2.2.2.2.2.2.2.2.2.2.2.2.2.2.2.2.2.2.2.2.1 f fl g gl hh v tx hin hI hnext
        · exact k_c31 H.2.2.2.2.2.2.2.2.2.2.2.2.2.2.2.2.2.2.2.2.2.2.2.2.2.2.2.2.2.2.2.1 f fl g gl hh v tx hin hI hnext
        · exact k_c32 H.2.2.2.2.2.2.2.2.2.2.2.2.2.2.2.2.2.2.2.2.2.2.2.2.2.2.2.2.2.2.2.2.1 f fl g gl hh v tx hin hI hnext
        · exact k_c33 H.2.2.2.2.2.2.2.2.2.2.2.2.2.2.2.2.2.2.2.2.2.2.2.2.2.2.2.2.2.2.2.2.2.1 f fl g gl hh v tx hin hI hnext
        · exact k_c34 H.2.2.2.2.2.2.2.2.2.2.2.2.2.2.2.2.2.2.2.2.2.2.2.2.2.2.2.2.2.2.2.2.2.2.1 f fl g gl hh v tx hin hI hnext
        · exact k_c35 H.2.2.2.2.2.2.2.2.2.2.2.2.2.2.2.2.2.2.2.2.2.2.2.2.2.2.2.2.2.2.2.2.2.2.2.1 f fl g gl hh v tx hin hI hnext
        · exact k_c36 H.2.2.2.2.2.2.2.2.2.2.2.2.2.2.2.2.2.2.2.2.2.2.2.2.2.2.2.2.2.2.2.2.2.2.2.2.1 f fl g gl hh v tx hin hI hnext
        · exact k_c37 H.2.2.2.2.2.2.2.2.2.2.2.2.2.2.2.2.2.2.2.2.2.2.2.2.2.2.2.2.2.2.2.2.2.2.2.2.2.1 f fl g gl hh v tx hin hI hnext
        · exact k_c38 H.2.2.2.2.2.2.2.2.2.2.2.2.2.2.2.2.2.2.2.2.2.2.2.2.2.2.2.2.2.2.2.2.2.2.2.2.2.2.1 f fl g gl hh v tx hin hI hnext
        · exact k_c39 H.2.2.2.2.2.2.2.2.2.2.2.2.2.2.2.2.2.2.2.2.2.2.2.2.2.2.2.2.2.2.2.2.2.2.2.2.2.2.2.1 f fl g gl hh v tx hin hI hnext
        · exact k_c40 H.2.2.2.2.2.2.2.2.2.2.2.2.2.2.2.2.2.2.2.2.2.2.2.2.2.2.2.2.2.2.2.2.2.2.2.2.2.2.2.2 f fl g gl hh v tx hin hI hnext
theorem k_pure {Inv : k_I} (h0 : Inv k_f (fun _ => 0) k_g (fun _ _ => 0) k_hh (fun _ => .null) []) (H : k_Ops Inv) : mk_Pure := by
  intro L xs hL
  have h1 : WP (L, xs) 2000 0 (0, [some (.float 0), none, none, none], [], []) (fun r w' => r = some (.int 1) ∧ w'.length ≤ 600000 ∧ mm_sl w' ≤ 7302250) := by
    refine k_made (L, xs) _ ?_
    refine k_loop H (X := (L, xs)) hL ?_ 3078 0 _ _ _ _ _ _ _ (by show L + 6 ≤ _; omega) (by decide) h0 (by decide) (by decide)
    intro f fl g gl hh v tx h1 h2
    refine ⟨rfl, ?_, ?_⟩
    · have : (Wd f fl g gl hh v tx).length = tx.length + 100 := rfl
      rw [this]
      omega
    · have : mm_sl (Wd f fl g gl hh v tx) = mm_sl tx + 30957 := by
        simp only [Wd, mm_sl, List.map_cons, List.sum_cons, mm_sl1, List.length_cons, List.length_nil]
        omega
      rw [this]
      omega
  obtain ⟨r, w', ⟨n, he⟩, rfl, h2, h3⟩ := h1
  exact ⟨n, w', he, h2, h3⟩
