/-! what a ship reads, does: both -/
theorem P_i {P : Option Value → mm_W → Prop} {x y : Int} {w : mm_W} (h : P (some (.int (iI y))) w) (e : x = y) : P (some (.int (iI x))) w := e ▸ h
theorem ite_iI {c : Prop} [Decidable c] {a b : Int} : (if c then iI a else iI b) = iI (if c then a else b) := by split <;> rfl
theorem wgt_le {κ : Nat → Nat} {cs : List pC} {p j : Nat} (h : wS κ) (hj : j < κ 55) : wgt κ cs p j ≤ 99 := by
  obtain ⟨s1, s2, -⟩ := h.2.1 j hj
  unfold wgt
  split
  · rename_i s _
    have := clI_rg (s := s) (hi := 99) (by omega)
    omega
  · omega
theorem gos_le {κ : Nat → Nat} {cs : List pC} {p c w : Nat} : gos κ cs p c w ≤ 4 := by
  unfold gos
  split
  · rename_i s _
    have := clI_rg (s := s) (hi := 4) (by omega)
    omega
  · omega
/-- the captain's law is this one, given as a value -/
def lwV (tx : mm_W) (L : Value) (cs : List pC) : Prop := (cs = [] ∧ L = .null) ∨ ∃ o, L = .ref o ∧ lwX tx o cs ∧ csOK cs
theorem lwV.cp {tx : mm_W} {L : Value} {cs : List pC} {v : Nat → Value} (h : lwV tx L cs) : cpX (va_up v 2439 L) tx cs := by
  rcases h with ⟨h1, h2⟩ | ⟨o, h1, h2, h3⟩
  · exact Or.inl ⟨h1, by rw [va_s]; exact h2⟩
  · exact Or.inr ⟨o, by rw [va_s]; exact h1, h2, h3⟩
theorem c_choose1 {X : mm_X} {d : Nat} {f : Nat → Int32} {fl : Nat → Int64} {g : Nat → Nat → Int32} {gl : Nat → Nat → Int64} {hh : Nat → Nat → Option Nat} {v : Nat → Value} {tx : mm_W} {P : Option Value → mm_W → Prop} {κ : Nat → Nat} {cs : List pC} {p : Nat} {L : Value} (hL : lwV tx L cs) (hwS : wS κ) (hwH : wH κ) (hwL : wL κ) (hwT : wT κ) (hxS : xS (f 64) (g 2) (g 3) (g 4) κ) (hxH : xH (f 68) (g 5) κ) (hxL : xL (f 70) (f 71) κ) (hxT : xT (g 8) κ) (hp : p < κ 56)
    (h0 : lyF κ false (wgt κ cs p) 0 = 1000000 → ∀ n A B C st, P (some (.int (iI 0))) (Wd (va_up (va_up (va_up f 2437 n) 2438 (iI 1000000)) 2440 (iI (spot κ p))) fl (va_up (va_up (va_up g 41 A) 42 B) 43 C) (va_up gl 40 st) hh (va_up v 2439 L) tx))
    (h1 : lyF κ false (wgt κ cs p) 0 < 1000000 → ∀ (A B C D : Nat → Int32) st, A 0 = iI (p : Int) → A 6 = iI (κ 22) → A 7 = iI (κ 54) → (∀ i, i < pln κ false (wgt κ cs p) → D i = iI (sgn κ false (wgt κ cs p) (psn κ false (wgt κ cs p) i))) → P (some (.int (iI 1))) (Wd (va_up (va_up (va_up f 2437 (iI (pln κ false (wgt κ cs p)))) 2438 (iI (lyF κ false (wgt κ cs p) 0))) 2440 (iI (spot κ p))) fl (va_up (va_up (va_up (va_up g 41 A) 42 B) 43 C) 44 D) (va_up gl 40 st) hh (va_up v 2439 L) tx)) : WP X (d + 5) 7 (0, [some (.ref 38), some (.ref 1), some (.int (iI (p : Int))), some L, none], [], Wd f fl g gl hh v tx) P := by
  have b55 := hwS.1
  have b56 := hwH.1
  have loop : ∀ (A : Nat → Int32), A 0 = iI (p : Int) → A 6 = iI (κ 22) → A 7 = iI (κ 54) → WP X (d + 5) 7 (10, [some (.ref 38), some (.ref 1), none, none, some (.int (iI 0))], [], Wd (va_up f 2440 (iI (spot κ p))) fl (va_up g 41 A) gl hh (va_up v 2439 L) tx) P := by
    intro A A0 A6 A7
    have key : ∀ j, j ≤ κ 55 → ∀ (A B : Nat → Int32) (st : Nat → Int64), A 0 = iI (p : Int) → A 6 = iI (κ 22) → A 7 = iI (κ 54) → (∀ i, i < j → B i = iI (wgt κ cs p i)) → WP X (d + 5) 7 (10, [some (.ref 38), some (.ref 1), none, none, some (.int (iI j))], [], Wd (va_up f 2440 (iI (spot κ p))) fl (va_up (va_up g 41 A) 42 B) (va_up gl 40 st) hh (va_up v 2439 L) tx) P := by
      apply k_up (Q := fun j => ∀ (A B : Nat → Int32) (st : Nat → Int64), A 0 = iI (p : Int) → A 6 = iI (κ 22) → A 7 = iI (κ 54) → (∀ i, i < j → B i = iI (wgt κ cs p i)) → WP X (d + 5) 7 (10, [some (.ref 38), some (.ref 1), none, none, some (.int (iI j))], [], Wd (va_up f 2440 (iI (spot κ p))) fl (va_up (va_up g 41 A) 42 B) (va_up gl 40 st) hh (va_up v 2439 L) tx) P)
      · intro A B st A0 A6 A7 hB
        refine b_yca_choose_1n_10 (h := ?_) ..
        rw [show va_up f 2440 (iI (spot κ p)) 64 = iI (κ 55) from (va_ne (by decide)).trans hxS.1]
        refine ⟨fun _ => ?_, fun c => absurd (Int32.le_refl _) c⟩
        have v42 : va_up (va_up g 41 A) 42 B 42 = B := va_s
        refine c_pick1 (md := false) (wt := wgt κ cs p) (κ := κ) (g := va_up (va_up g 41 A) 42 B) (f := va_up f 2440 (iI (spot κ p))) hwS hwL (by exact hxS) (by exact hxL) (Or.inr fun j hj => ⟨by rw [v42]; exact hB j hj, wgt_le hwS hj⟩) (fun hz a => ?_) fun hlt a b hb => ?_
        · refine b_yca_choose_1n_45 (h := ?_) ..
          have := h0 hz (iI 0) A B a st
          simp (disch := decide) only [va_cm] at this ⊢
          exact ⟨Or.inl rfl, this⟩
        · refine b_yca_choose_1n_45 (h := ?_) ..
          have := h1 hlt A B a b st A0 A6 A7 hb
          simp (disch := decide) only [va_cm] at this ⊢
          exact ⟨Or.inr rfl, this⟩
      · intro j hj ih A B st A0 A6 A7 hB
        refine b_yca_choose_1n_10 (h := ?_) ..
        rw [show va_up f 2440 (iI (spot κ p)) 64 = iI (κ 55) from (va_ne (by decide)).trans hxS.1]
        refine ⟨fun c => by simp (disch := omega) only [z_lit, z_litl, z_neg, z_negl, z_add, z_sub, z_mul, z_addl, z_subl, z_mull, z_cc, z_cl, z_cr, z_cm, z_cml, z_cmr, z_lt, z_le, z_eq, z_ltl, z_lel, z_eql, z_nat, z_i2l, z_l2i, z_div, z_sh, Int.toNat_natCast, z_ts, z_tsl] at c; omega, fun _ => ?_⟩
        refine c_weighs1 (κ := κ) (cs := cs) (p := p) (j := j) (f := va_up f 2440 (iI (spot κ p))) (g := va_up (va_up g 41 A) 42 B) hL.cp hwS hwH hwT (by exact hxS) (by omega) hj (by exact A0) (by exact A6) (by exact A7) va_s fun a st' a0 a6 a7 => ?_
        refine b_yca_choose_1n_32 (h := ?_) ..
        refine ⟨by simp (disch := omega) only [z_lit, z_litl, z_neg, z_negl, z_add, z_sub, z_mul, z_addl, z_subl, z_mull, z_cc, z_cl, z_cr, z_cm, z_cml, z_cmr, z_lt, z_le, z_eq, z_ltl, z_lel, z_eql, z_nat, z_i2l, z_l2i, z_div, z_sh, Int.toNat_natCast, z_ts, z_tsl]; omega, ?_⟩
        rw [show (iI (j : Int)).toNatClampNeg = j by rw [z_nat (by omega)]; omega, show iI (j : Int) + (1 : Int32) = iI ((j + 1 : Nat) : Int) by simp (disch := omega) only [z_lit, z_litl, z_neg, z_negl, z_add, z_sub, z_mul, z_addl, z_subl, z_mull, z_cc, z_cl, z_cr, z_cm, z_cml, z_cmr, z_lt, z_le, z_eq, z_ltl, z_lel, z_eql, z_nat, z_i2l, z_l2i, z_div, z_sh, Int.toNat_natCast, z_ts, z_tsl]]
        simp (disch := decide) only [va_ne, va_s, va_cm, va_tw]
        refine ih a _ _ a0 a6 a7 fun i hi => ?_
        by_cases e : i = j
        · rw [e, upd_s]
        · rw [upd_ne e]; exact hB i (by omega)
    have := key 0 (Nat.zero_le _) A (g 42) (gl 40) A0 A6 A7 fun i hi => absurd hi (Nat.not_lt_zero i)
    rw [va_id (f := va_up g 41 A) (k := 42) (va_ne (by decide)), va_id (f := gl) rfl] at this
    exact this
  rcases hL with ⟨h2, rfl⟩ | ⟨o, rfl, h2, h3⟩
  · refine b_yca_choose_1n_0 (h := ?_) ..
    refine c_boardn1 hwH hxH hxT hp fun A A0 A6 A7 => ?_
    refine b_yca_choose_1n_7 (h := ?_) ..
    exact WP.deep 0 (loop A A0 A6 A7)
  · refine b_yca_choose_1t_0 (h := ?_) ..
    refine c_boardt1 hwH hxH hxT hp fun A A0 A6 A7 => ?_
    refine b_yca_choose_1t_7 (h := ?_) ..
    exact WP.deep 0 (loop A A0 A6 A7)
theorem c_choose19 {X : mm_X} {d : Nat} {f : Nat → Int32} {fl : Nat → Int64} {g : Nat → Nat → Int32} {gl : Nat → Nat → Int64} {hh : Nat → Nat → Option Nat} {v : Nat → Value} {tx : mm_W} {P : Option Value → mm_W → Prop} {κ : Nat → Nat} {cs : List pC} {p : Nat} {L : Value} (hL : lwV tx L cs) (hwS : wS κ) (hwH : wH κ) (hwL : wL κ) (hwT : wT κ) (hxS : xS (f 1216) (g 20) (g 21) (g 22) κ) (hxH : xH (f 1220) (g 23) κ) (hxL : xL (f 1222) (f 1223) κ) (hxT : xT (g 26) κ) (hp : p < κ 56)
    (h0 : lyF κ false (wgt κ cs p) 0 = 1000000 → ∀ n A B C st, P (some (.int (iI 0))) (Wd (va_up (va_up (va_up f 2437 n) 2438 (iI 1000000)) 2440 (iI (spot κ p))) fl (va_up (va_up (va_up g 41 A) 42 B) 43 C) (va_up gl 40 st) hh (va_up v 2439 L) tx))
    (h1 : lyF κ false (wgt κ cs p) 0 < 1000000 → ∀ (A B C D : Nat → Int32) st, A 0 = iI (p : Int) → A 6 = iI (κ 22) → A 7 = iI (κ 54) → (∀ i, i < pln κ false (wgt κ cs p) → D i = iI (sgn κ false (wgt κ cs p) (psn κ false (wgt κ cs p) i))) → P (some (.int (iI 1))) (Wd (va_up (va_up (va_up f 2437 (iI (pln κ false (wgt κ cs p)))) 2438 (iI (lyF κ false (wgt κ cs p) 0))) 2440 (iI (spot κ p))) fl (va_up (va_up (va_up (va_up g 41 A) 42 B) 43 C) 44 D) (va_up gl 40 st) hh (va_up v 2439 L) tx)) : WP X (d + 5) 7 (0, [some (.ref 38), some (.ref 19), some (.int (iI (p : Int))), some L, none], [], Wd f fl g gl hh v tx) P := by
  have b55 := hwS.1
  have b56 := hwH.1
  have loop : ∀ (A : Nat → Int32), A 0 = iI (p : Int) → A 6 = iI (κ 22) → A 7 = iI (κ 54) → WP X (d + 5) 7 (10, [some (.ref 38), some (.ref 19), none, none, some (.int (iI 0))], [], Wd (va_up f 2440 (iI (spot κ p))) fl (va_up g 41 A) gl hh (va_up v 2439 L) tx) P := by
    intro A A0 A6 A7
    have key : ∀ j, j ≤ κ 55 → ∀ (A B : Nat → Int32) (st : Nat → Int64), A 0 = iI (p : Int) → A 6 = iI (κ 22) → A 7 = iI (κ 54) → (∀ i, i < j → B i = iI (wgt κ cs p i)) → WP X (d + 5) 7 (10, [some (.ref 38), some (.ref 19), none, none, some (.int (iI j))], [], Wd (va_up f 2440 (iI (spot κ p))) fl (va_up (va_up g 41 A) 42 B) (va_up gl 40 st) hh (va_up v 2439 L) tx) P := by
      apply k_up (Q := fun j => ∀ (A B : Nat → Int32) (st : Nat → Int64), A 0 = iI (p : Int) → A 6 = iI (κ 22) → A 7 = iI (κ 54) → (∀ i, i < j → B i = iI (wgt κ cs p i)) → WP X (d + 5) 7 (10, [some (.ref 38), some (.ref 19), none, none, some (.int (iI j))], [], Wd (va_up f 2440 (iI (spot κ p))) fl (va_up (va_up g 41 A) 42 B) (va_up gl 40 st) hh (va_up v 2439 L) tx) P)
      · intro A B st A0 A6 A7 hB
        refine b_yca_choose_19n_10 (h := ?_) ..
        rw [show va_up f 2440 (iI (spot κ p)) 1216 = iI (κ 55) from (va_ne (by decide)).trans hxS.1]
        refine ⟨fun _ => ?_, fun c => absurd (Int32.le_refl _) c⟩
        have v42 : va_up (va_up g 41 A) 42 B 42 = B := va_s
        refine c_pick19 (md := false) (wt := wgt κ cs p) (κ := κ) (g := va_up (va_up g 41 A) 42 B) (f := va_up f 2440 (iI (spot κ p))) hwS hwL (by exact hxS) (by exact hxL) (Or.inr fun j hj => ⟨by rw [v42]; exact hB j hj, wgt_le hwS hj⟩) (fun hz a => ?_) fun hlt a b hb => ?_
        · refine b_yca_choose_19n_45 (h := ?_) ..
          have := h0 hz (iI 0) A B a st
          simp (disch := decide) only [va_cm] at this ⊢
          exact ⟨Or.inl rfl, this⟩
        · refine b_yca_choose_19n_45 (h := ?_) ..
          have := h1 hlt A B a b st A0 A6 A7 hb
          simp (disch := decide) only [va_cm] at this ⊢
          exact ⟨Or.inr rfl, this⟩
      · intro j hj ih A B st A0 A6 A7 hB
        refine b_yca_choose_19n_10 (h := ?_) ..
        rw [show va_up f 2440 (iI (spot κ p)) 1216 = iI (κ 55) from (va_ne (by decide)).trans hxS.1]
        refine ⟨fun c => by simp (disch := omega) only [z_lit, z_litl, z_neg, z_negl, z_add, z_sub, z_mul, z_addl, z_subl, z_mull, z_cc, z_cl, z_cr, z_cm, z_cml, z_cmr, z_lt, z_le, z_eq, z_ltl, z_lel, z_eql, z_nat, z_i2l, z_l2i, z_div, z_sh, Int.toNat_natCast, z_ts, z_tsl] at c; omega, fun _ => ?_⟩
        refine c_weighs19 (κ := κ) (cs := cs) (p := p) (j := j) (f := va_up f 2440 (iI (spot κ p))) (g := va_up (va_up g 41 A) 42 B) hL.cp hwS hwH hwT (by exact hxS) (by omega) hj (by exact A0) (by exact A6) (by exact A7) va_s fun a st' a0 a6 a7 => ?_
        refine b_yca_choose_19n_32 (h := ?_) ..
        refine ⟨by simp (disch := omega) only [z_lit, z_litl, z_neg, z_negl, z_add, z_sub, z_mul, z_addl, z_subl, z_mull, z_cc, z_cl, z_cr, z_cm, z_cml, z_cmr, z_lt, z_le, z_eq, z_ltl, z_lel, z_eql, z_nat, z_i2l, z_l2i, z_div, z_sh, Int.toNat_natCast, z_ts, z_tsl]; omega, ?_⟩
        rw [show (iI (j : Int)).toNatClampNeg = j by rw [z_nat (by omega)]; omega, show iI (j : Int) + (1 : Int32) = iI ((j + 1 : Nat) : Int) by simp (disch := omega) only [z_lit, z_litl, z_neg, z_negl, z_add, z_sub, z_mul, z_addl, z_subl, z_mull, z_cc, z_cl, z_cr, z_cm, z_cml, z_cmr, z_lt, z_le, z_eq, z_ltl, z_lel, z_eql, z_nat, z_i2l, z_l2i, z_div, z_sh, Int.toNat_natCast, z_ts, z_tsl]]
        simp (disch := decide) only [va_ne, va_s, va_cm, va_tw]
        refine ih a _ _ a0 a6 a7 fun i hi => ?_
        by_cases e : i = j
        · rw [e, upd_s]
        · rw [upd_ne e]; exact hB i (by omega)
    have := key 0 (Nat.zero_le _) A (g 42) (gl 40) A0 A6 A7 fun i hi => absurd hi (Nat.not_lt_zero i)
    rw [va_id (f := va_up g 41 A) (k := 42) (va_ne (by decide)), va_id (f := gl) rfl] at this
    exact this
  rcases hL with ⟨h2, rfl⟩ | ⟨o, rfl, h2, h3⟩
  · refine b_yca_choose_19n_0 (h := ?_) ..
    refine c_boardn19 hwH hxH hxT hp fun A A0 A6 A7 => ?_
    refine b_yca_choose_19n_7 (h := ?_) ..
    exact WP.deep 0 (loop A A0 A6 A7)
  · refine b_yca_choose_19t_0 (h := ?_) ..
    refine c_boardt19 hwH hxH hxT hp fun A A0 A6 A7 => ?_
    refine b_yca_choose_19t_7 (h := ?_) ..
    exact WP.deep 0 (loop A A0 A6 A7)
/-- the reference lays what is read -/
theorem c_m_laysRead {X : mm_X} {f : Nat → Int32} {fl : Nat → Int64} {g : Nat → Nat → Int32} {gl : Nat → Nat → Int64} {hh : Nat → Nat → Option Nat} {v : Nat → Value} {tx : mm_W} {P : Option Value → mm_W → Prop} {κ : Nat → Nat} {cs : List pC} {p K : Nat} (hK : 64 ≤ K) (hm : ms (g 76) κ) (hwS : wS κ) (hwL : wL κ) (hwH : wH κ) (hwT : wT κ) (hB : wB κ) (hR : rfX κ (κ 59) cs) (hp : p < 3) (h : ∀ x y z u (A a l w : Nat → Int32), m_lst κ false (wgt κ cs p) l → (∀ j, j < κ 55 → w j = iI (wgt κ cs p j)) → P (some (.int (if lyF κ false (wgt κ cs p) 0 < 1000000 then iI 1 else iI 0))) (Wd (va_up (va_up (va_up (va_up f 4758 x) 4759 y) 4760 z) 4761 u) fl (va_up (va_up (va_up (va_up g 86 A) 87 a) 88 l) 89 w) gl hh v tx)) : WP X (K + 13) 201 (0, [some (.ref 74), some (.int (iI (p : Int))), none], [], Wd f fl g gl hh v tx) P := by
  have b55 := hwS.1
  have e55 := hm.1 55 (by decide)
  have hl0 := lyF_le (κ := κ) (md := false) (wt := wgt κ cs p) 0
  have key : ∀ j, j ≤ κ 55 → ∀ x y z u (A a w : Nat → Int32), (∀ i, i < j → w i = iI (wgt κ cs p i)) → WP X (K + 13) 201 (2, [some (.ref 74), some (.int (iI (p : Int))), some (.int (iI j))], [], Wd (va_up (va_up (va_up (va_up f 4758 x) 4759 y) 4760 z) 4761 u) fl (va_up (va_up (va_up g 86 A) 87 a) 89 w) gl hh v tx) P := by
    apply k_up (Q := fun j => ∀ x y z u (A a w : Nat → Int32), (∀ i, i < j → w i = iI (wgt κ cs p i)) → WP X (K + 13) 201 (2, [some (.ref 74), some (.int (iI (p : Int))), some (.int (iI j))], [], Wd (va_up (va_up (va_up (va_up f 4758 x) 4759 y) 4760 z) 4761 u) fl (va_up (va_up (va_up g 86 A) 87 a) 89 w) gl hh v tx) P)
    · intro x y z u A a w hw
      refine b_m_laysRead_2 (h := ?_) ..
      rw [show va_up (va_up (va_up g 86 A) 87 a) 89 w 76 = g 76 by rw [va_ne (by decide), va_ne (by decide), va_ne (by decide)], e55]
      refine ⟨fun _ => ?_, fun c => absurd (Int32.le_refl _) c⟩
      refine c_m_laysLeast (κ := κ) (md := false) (wt := wgt κ cs p) (g := va_up (va_up (va_up g 86 A) 87 a) 89 w) (by exact hm) hwS hwL (Or.inr fun j hj => ⟨by rw [va_s]; exact hw j hj, wgt_le hwS hj⟩) fun l hl => ?_
      refine b_m_laysRead_33 (h := ?_) ..
      have e0 := hl 0 (by omega)
      rw [va_s, e0]
      have hP := h x y z u A a l w hl hw
      simp (disch := decide) only [va_cm] at hP ⊢
      simp (disch := omega) only [z_lit, z_litl, z_neg, z_negl, z_add, z_sub, z_mul, z_addl, z_subl, z_mull, z_cc, z_cl, z_cr, z_cm, z_cml, z_cmr, z_lt, z_le, z_eq, z_ltl, z_lel, z_eql, z_nat, z_i2l, z_l2i, z_div, z_sh, Int.toNat_natCast, z_ts, z_tsl]
      refine ⟨fun c => ?_, fun c => ?_⟩
      · rw [if_neg (by omega)] at hP
        exact hP
      · rw [if_pos (by omega)] at hP
        exact hP
    · intro j hj ih x y z u A a w hw
      refine b_m_laysRead_2 (h := ?_) ..
      rw [show va_up (va_up (va_up g 86 A) 87 a) 89 w 76 = g 76 by rw [va_ne (by decide), va_ne (by decide), va_ne (by decide)], e55]
      refine ⟨fun c => by simp (disch := omega) only [z_lit, z_litl, z_neg, z_negl, z_add, z_sub, z_mul, z_addl, z_subl, z_mull, z_cc, z_cl, z_cr, z_cm, z_cml, z_cmr, z_lt, z_le, z_eq, z_ltl, z_lel, z_eql, z_nat, z_i2l, z_l2i, z_div, z_sh, Int.toNat_natCast, z_ts, z_tsl] at c; omega, fun _ => ?_⟩
      refine c_m_weighs (κ := κ) (cs := cs) (g := va_up (va_up (va_up g 86 A) 87 a) 89 w) hK (by exact hm) hwS hwL hwH hwT hB hR hp hj fun x y z u A a => ?_
      refine b_m_laysRead_21 (h := ?_) ..
      refine ⟨by simp (disch := omega) only [z_lit, z_litl, z_neg, z_negl, z_add, z_sub, z_mul, z_addl, z_subl, z_mull, z_cc, z_cl, z_cr, z_cm, z_cml, z_cmr, z_lt, z_le, z_eq, z_ltl, z_lel, z_eql, z_nat, z_i2l, z_l2i, z_div, z_sh, Int.toNat_natCast, z_ts, z_tsl]; omega, ?_⟩
      rw [show (iI (j : Int)).toNatClampNeg = j by rw [z_nat (by omega)]; omega, show iI (j : Int) + (1 : Int32) = iI ((j + 1 : Nat) : Int) by simp (disch := omega) only [z_lit, z_litl, z_neg, z_negl, z_add, z_sub, z_mul, z_addl, z_subl, z_mull, z_cc, z_cl, z_cr, z_cm, z_cml, z_cmr, z_lt, z_le, z_eq, z_ltl, z_lel, z_eql, z_nat, z_i2l, z_l2i, z_div, z_sh, Int.toNat_natCast, z_ts, z_tsl]]
      simp (disch := decide) only [va_ne, va_s, va_cm, va_tw]
      refine ih _ _ _ _ _ _ _ fun i hi => ?_
      by_cases e : i = j
      · rw [e, upd_s]
      · rw [upd_ne e]; exact hw i (by omega)
  have := key 0 (Nat.zero_le _) (f 4758) (f 4759) (f 4760) (f 4761) (g 86) (g 87) (g 89) fun i hi => absurd hi (Nat.not_lt_zero i)
  rw [va_id (f := f) rfl, va_id (f := f) rfl, va_id (f := f) rfl, va_id (f := f) rfl, va_id (f := g) rfl, va_id (f := g) rfl, va_id (f := g) rfl] at this
  refine b_m_laysRead_0 (h := ?_) ..
  exact this
theorem c_m_howMany {X : mm_X} {d : Nat} {f : Nat → Int32} {fl : Nat → Int64} {g : Nat → Nat → Int32} {gl : Nat → Nat → Int64} {hh : Nat → Nat → Option Nat} {v : Nat → Value} {tx : mm_W} {P : Option Value → mm_W → Prop} {κ : Nat → Nat} (hm : ms (g 76) κ) (hwS : wS κ) (hwL : wL κ) {md : Bool} {wt : Nat → Nat} (hwt : md = true ∨ ∀ j, j < κ 55 → g 89 j = iI (wt j) ∧ wt j ≤ 99) (hl : m_lst κ md wt (g 88)) (hL : lyF κ md wt 0 < 1000000) (h : P (some (.int (iI (pln κ md wt)))) (Wd f fl g gl hh v tx)) : WP X (d + 4) 200 (0, [some (.ref 74), some (.int (iI (bI md))), none, none], [], Wd f fl g gl hh v tx) P := by
  have b55 := hwS.1
  have b12 := hwL.1
  have e12 := hm.1 12 (by decide)
  refine b_m_howMany_0 (h := ?_) ..
  have go : ∀ r n, n + r = pln κ md wt → WP X (d + 4) 200 (4, [some (.ref 74), some (.int (iI (bI md))), some (.int (iI n)), some (.int (iI (psn κ md wt n)))], [], Wd f fl g gl hh v tx) P := by
    intro r
    induction r with
    | zero =>
      intro n hn
      have hend := psn_end (md := md) (wt := wt) hwS hwL hL n (by omega)
      refine b_m_howMany_4 (h := ?_) ..
      rw [e12, hend]
      have en : n = pln κ md wt := by omega
      rw [en]
      exact ⟨fun _ => h, fun c => absurd (Int32.le_refl _) c⟩
    | succ r ih =>
      intro n hn
      obtain ⟨q1, q2, q3⟩ := psn_ok (md := md) (wt := wt) hwS hL n
      have hlt := pln_lt (κ := κ) (md := md) (wt := wt) (n := n) (by omega)
      obtain ⟨s1, s2, s3, s4, s5, s6⟩ := sgn_spec (md := md) (wt := wt) hwS hlt q2
      have e31 := hm.1 (31 + sgn κ md wt (psn κ md wt n)) (by omega)
      have hple := pln_le (κ := κ) (md := md) (wt := wt)
      refine b_m_howMany_4 (h := ?_) ..
      rw [e12]
      refine ⟨fun c => by simp (disch := omega) only [z_lit, z_litl, z_neg, z_negl, z_add, z_sub, z_mul, z_addl, z_subl, z_mull, z_cc, z_cl, z_cr, z_cm, z_cml, z_cmr, z_lt, z_le, z_eq, z_ltl, z_lel, z_eql, z_nat, z_i2l, z_l2i, z_div, z_sh, Int.toNat_natCast, z_ts, z_tsl] at c; omega, fun _ => ?_⟩
      refine c_m_signFrom (md := md) (wt := wt) hm hwS hwL hwt hl hlt q2 ?_
      refine b_m_howMany_28 (h := ?_) ..
      simp (disch := omega) only [z_lit, z_litl, z_neg, z_negl, z_add, z_sub, z_mul, z_addl, z_subl, z_mull, z_cc, z_cl, z_cr, z_cm, z_cml, z_cmr, z_lt, z_le, z_eq, z_ltl, z_lel, z_eql, z_nat, z_i2l, z_l2i, z_div, z_sh, Int.toNat_natCast, z_ts, z_tsl, e31]
      refine ⟨by omega, ?_⟩
      rw [← psn_s hlt]
      exact ih (n + 1) (by omega)
  exact go (pln κ md wt) 0 (by omega)
/-- an order done: where a ship is then -/
def ahd (c w go : Nat) : Nat := if w = 0 then 5 * min 4 (c / 5 + go) + c % 5 else if w = 1 then 5 * (c / 5) + min 4 (c % 5 + go) else if w = 2 then 5 * (c / 5 - go) + c % 5 else 5 * (c / 5) + (c % 5 - go)
def bhd (s o go : Nat) : Nat := if o = 0 then (ahd (s / 40) (s / 10 % 4) go * 4 + s / 10 % 4) * 10 + s % 10 else if o = 1 then (s / 40 * 4 + (s / 10 % 4 + 3) % 4) * 10 + s % 10 else if o = 2 then (s / 40 * 4 + (s / 10 % 4 + 1) % 4) * 10 + s % 10 else if o = 3 then (s / 40 * 4 + (s / 10 % 4 + 2) % 4) * 10 + s % 10 else if o = 4 then (s / 40 * 4 + s / 10 % 4) * 10 + (s % 10 - 1) else s
theorem ahd_lt {c w go : Nat} (hc : c < 25) : ahd c w go < 25 := by
  unfold ahd
  repeat' split
  all_goals omega
theorem bhd_lt {s o go : Nat} (hs : s < 1000) : bhd s o go < 1000 := by
  have := ahd_lt (c := s / 40) (w := s / 10 % 4) (go := go) (by omega)
  unfold bhd
  repeat' split
  all_goals omega
def stB (κ : Nat → Nat) (cs : List pC) (p s o : Nat) : Nat := if brd κ cs p o (s / 40) (s % 10) = true then s else bhd s o (if o = 0 then gos κ cs p (s / 40) (s % 10) else 0)
theorem stB_lt {κ : Nat → Nat} {cs : List pC} {p s o : Nat} (hs : s < 1000) : stB κ cs p s o < 1000 := by
  unfold stB
  split
  · exact hs
  · exact bhd_lt hs
theorem c_x_behind {X : mm_X} {d : Nat} {f : Nat → Int32} {fl : Nat → Int64} {g : Nat → Nat → Int32} {gl : Nat → Nat → Int64} {hh : Nat → Nat → Option Nat} {v : Nat → Value} {tx : mm_W} {P : Option Value → mm_W → Prop} {s o go : Nat} (hs : s < 1000) (ho : o ≤ 5) (hg : go ≤ 4) (h : P (some (.int (iI (bhd s o go : Nat)))) (Wd f fl g gl hh v tx)) : WP X (d + 1) 114 (0, [some (.int (iI (s : Int))), some (.int (iI (o : Int))), some (.int (iI (go : Int))), none], [], Wd f fl g gl hh v tx) P := by
  obtain ⟨c, hc⟩ : ∃ c : Nat, c = s / 40 := ⟨_, rfl⟩
  obtain ⟨w, hw⟩ : ∃ w : Nat, w = s / 10 % 4 := ⟨_, rfl⟩
  obtain ⟨q, hq⟩ : ∃ q : Nat, q = s % 10 := ⟨_, rfl⟩
  have es : s = (c * 4 + w) * 10 + q := by omega
  have e40 : iI (s : Int) / (40 : Int32) = iI (c : Int) := by simp (disch := omega) only [z_lit, z_litl, z_neg, z_negl, z_add, z_sub, z_mul, z_addl, z_subl, z_mull, z_cc, z_cl, z_cr, z_cm, z_cml, z_cmr, z_lt, z_le, z_eq, z_ltl, z_lel, z_eql, z_nat, z_i2l, z_l2i, z_div, z_sh, Int.toNat_natCast, z_ts, z_tsl]; congr 1; omega
  have e10 : iI (s : Int) / (10 : Int32) - iI (s : Int) / (10 : Int32) / (4 : Int32) * (4 : Int32) = iI (w : Int) := by simp (disch := omega) only [z_lit, z_litl, z_neg, z_negl, z_add, z_sub, z_mul, z_addl, z_subl, z_mull, z_cc, z_cl, z_cr, z_cm, z_cml, z_cmr, z_lt, z_le, z_eq, z_ltl, z_lel, z_eql, z_nat, z_i2l, z_l2i, z_div, z_sh, Int.toNat_natCast, z_ts, z_tsl]; congr 1; omega
  have em : iI (s : Int) - iI (s : Int) / (10 : Int32) * (10 : Int32) = iI (q : Int) := by simp (disch := omega) only [z_lit, z_litl, z_neg, z_negl, z_add, z_sub, z_mul, z_addl, z_subl, z_mull, z_cc, z_cl, z_cr, z_cm, z_cml, z_cmr, z_lt, z_le, z_eq, z_ltl, z_lel, z_eql, z_nat, z_i2l, z_l2i, z_div, z_sh, Int.toNat_natCast, z_ts, z_tsl]; congr 1; omega
  have ec5 : iI (c : Int) / (5 : Int32) = iI ((c / 5 : Nat) : Int) := by simp (disch := omega) only [z_lit, z_litl, z_neg, z_negl, z_add, z_sub, z_mul, z_addl, z_subl, z_mull, z_cc, z_cl, z_cr, z_cm, z_cml, z_cmr, z_lt, z_le, z_eq, z_ltl, z_lel, z_eql, z_nat, z_i2l, z_l2i, z_div, z_sh, Int.toNat_natCast, z_ts, z_tsl]; congr 1
  have ec5' : iI (c : Int) - iI (c : Int) / (5 : Int32) * (5 : Int32) = iI ((c % 5 : Nat) : Int) := by simp (disch := omega) only [z_lit, z_litl, z_neg, z_negl, z_add, z_sub, z_mul, z_addl, z_subl, z_mull, z_cc, z_cl, z_cr, z_cm, z_cml, z_cmr, z_lt, z_le, z_eq, z_ltl, z_lel, z_eql, z_nat, z_i2l, z_l2i, z_div, z_sh, Int.toNat_natCast, z_ts, z_tsl]; congr 1; omega
  have hb : bhd s o go = if o = 0 then (ahd c w go * 4 + w) * 10 + q else if o = 1 then (c * 4 + (w + 3) % 4) * 10 + q else if o = 2 then (c * 4 + (w + 1) % 4) * 10 + q else if o = 3 then (c * 4 + (w + 2) % 4) * 10 + q else if o = 4 then (c * 4 + w) * 10 + (q - 1) else s := by rw [hc, hw, hq]; rfl
  rw [hb] at h
  have hw4 : w < 4 := by omega
  have hc25 : c < 25 := by omega
  have hq10 : q < 10 := by omega
  refine b_x_behind_0 (h := ?_) ..
  rw [e10, em, e40, ec5', ec5]
  clear e40 e10 em ec5 ec5' hb
  have hcd : c = c / 5 * 5 + c % 5 := by omega
  obtain ⟨cy, hcy⟩ : ∃ cy, cy = c / 5 := ⟨_, rfl⟩
  obtain ⟨cx, hcx⟩ : ∃ cx, cx = c % 5 := ⟨_, rfl⟩
  have a0 : w = 0 → ahd c w go = 5 * min 4 (cy + go) + cx := fun e => by rw [e, hcy, hcx]; rfl
  have a1 : w = 1 → ahd c w go = 5 * cy + min 4 (cx + go) := fun e => by rw [e, hcy, hcx]; rfl
  have a2 : w = 2 → ahd c w go = 5 * (cy - go) + cx := fun e => by rw [e, hcy, hcx]; rfl
  have a3 : w = 3 → ahd c w go = 5 * cy + (cx - go) := fun e => by rw [e, hcy, hcx]; rfl
  rw [← hcy, ← hcx] at hcd ⊢
  have hcy5 : cy < 5 := by omega
  have hcx5 : cx < 5 := by omega
  have m4 : (w + 3) % 4 = w + 3 - (w + 3) / 4 * 4 := by omega
  have m4' : (w + 1) % 4 = w + 1 - (w + 1) / 4 * 4 := by omega
  have m4'' : (w + 2) % 4 = w + 2 - (w + 2) / 4 * 4 := by omega
  simp (disch := omega) only [z_lit, z_litl, z_neg, z_negl, z_add, z_sub, z_mul, z_addl, z_subl, z_mull, z_cc, z_cl, z_cr, z_cm, z_cml, z_cmr, z_lt, z_le, z_eq, z_ltl, z_lel, z_eql, z_nat, z_i2l, z_l2i, z_div, z_sh, Int.toNat_natCast, z_ts, z_tsl, ite_iI]
  refine ⟨fun c1 => ?_, fun c1 => ⟨fun c2 => ?_, fun c2 => ⟨fun c3 => ?_, fun c3 => ⟨fun c4 => ?_, fun c4 => ⟨fun c5 => ⟨fun c6 => ?_, fun c6 => ?_⟩, fun c5 => ?_⟩⟩⟩⟩⟩
  · rw [if_pos (by omega)] at h
    refine ⟨fun d1 => ?_, fun d1 => ⟨fun d2 => ?_, fun d2 => ⟨fun d3 => ?_, fun d3 => ?_⟩⟩⟩
    · rw [a0 (by omega)] at h
      exact P_i h (by omega)
    · rw [a1 (by omega)] at h
      exact P_i h (by omega)
    · rw [a2 (by omega)] at h
      exact P_i h (by omega)
    · rw [a3 (by omega)] at h
      exact P_i h (by omega)
  · rw [if_neg (by omega), if_pos (by omega)] at h
    exact P_i h (by omega)
  · rw [if_neg (by omega), if_neg (by omega), if_pos (by omega)] at h
    exact P_i h (by omega)
  · rw [if_neg (by omega), if_neg (by omega), if_neg (by omega), if_pos (by omega)] at h
    exact P_i h (by omega)
  · rw [if_neg (by omega), if_neg (by omega), if_neg (by omega), if_neg (by omega), if_pos (by omega)] at h
    exact P_i h (by omega)
  · rw [if_neg (by omega), if_neg (by omega), if_neg (by omega), if_neg (by omega), if_pos (by omega)] at h
    exact P_i h (by omega)
  · rw [if_neg (by omega), if_neg (by omega), if_neg (by omega), if_neg (by omega), if_neg (by omega)] at h
    exact P_i h rfl
theorem c_m_goesOn {X : mm_X} {d : Nat} {f : Nat → Int32} {fl : Nat → Int64} {g : Nat → Nat → Int32} {gl : Nat → Nat → Int64} {hh : Nat → Nat → Option Nat} {v : Nat → Value} {tx : mm_W} {P : Option Value → mm_W → Prop} {c w go : Nat} (hc : c < 25) (hw : w < 4) (hg : go ≤ 4) (h : P (some (.int (iI (ahd c w go : Nat)))) (Wd f fl g gl hh v tx)) : WP X (d + 1) 205 (0, [some (.int (iI (c : Int))), some (.int (iI (w : Int))), some (.int (iI (go : Int))), none, none], [], Wd f fl g gl hh v tx) P := by
  have ec5 : iI (c : Int) / (5 : Int32) = iI ((c / 5 : Nat) : Int) := by simp (disch := omega) only [z_lit, z_litl, z_neg, z_negl, z_add, z_sub, z_mul, z_addl, z_subl, z_mull, z_cc, z_cl, z_cr, z_cm, z_cml, z_cmr, z_lt, z_le, z_eq, z_ltl, z_lel, z_eql, z_nat, z_i2l, z_l2i, z_div, z_sh, Int.toNat_natCast, z_ts, z_tsl]; congr 1
  have ec5' : iI (c : Int) - iI (c : Int) / (5 : Int32) * (5 : Int32) = iI ((c % 5 : Nat) : Int) := by simp (disch := omega) only [z_lit, z_litl, z_neg, z_negl, z_add, z_sub, z_mul, z_addl, z_subl, z_mull, z_cc, z_cl, z_cr, z_cm, z_cml, z_cmr, z_lt, z_le, z_eq, z_ltl, z_lel, z_eql, z_nat, z_i2l, z_l2i, z_div, z_sh, Int.toNat_natCast, z_ts, z_tsl]; congr 1; omega
  refine b_m_goesOn_0 (h := ?_) ..
  rw [ec5', ec5]
  have hcd : c = c / 5 * 5 + c % 5 := by omega
  obtain ⟨cy, hcy⟩ : ∃ cy, cy = c / 5 := ⟨_, rfl⟩
  obtain ⟨cx, hcx⟩ : ∃ cx, cx = c % 5 := ⟨_, rfl⟩
  have a0 : w = 0 → ahd c w go = 5 * min 4 (cy + go) + cx := fun e => by rw [e, hcy, hcx]; rfl
  have a1 : w = 1 → ahd c w go = 5 * cy + min 4 (cx + go) := fun e => by rw [e, hcy, hcx]; rfl
  have a2 : w = 2 → ahd c w go = 5 * (cy - go) + cx := fun e => by rw [e, hcy, hcx]; rfl
  have a3 : w = 3 → ahd c w go = 5 * cy + (cx - go) := fun e => by rw [e, hcy, hcx]; rfl
  clear ec5 ec5'
  rw [← hcy, ← hcx] at hcd ⊢
  have hcy5 : cy < 5 := by omega
  have hcx5 : cx < 5 := by omega
  simp (disch := omega) only [z_lit, z_litl, z_neg, z_negl, z_add, z_sub, z_mul, z_addl, z_subl, z_mull, z_cc, z_cl, z_cr, z_cm, z_cml, z_cmr, z_lt, z_le, z_eq, z_ltl, z_lel, z_eql, z_nat, z_i2l, z_l2i, z_div, z_sh, Int.toNat_natCast, z_ts, z_tsl]
  refine ⟨fun c1 => ?_, fun c1 => ⟨fun c2 => ?_, fun c2 => ⟨fun c3 => ?_, fun c3 => ?_⟩⟩⟩
  · rw [a0 (by omega)] at h
    exact ⟨fun d1 => P_i h (by omega), fun d1 => P_i h (by omega)⟩
  · rw [a1 (by omega)] at h
    exact ⟨fun d1 => P_i h (by omega), fun d1 => P_i h (by omega)⟩
  · rw [a2 (by omega)] at h
    exact ⟨fun d1 => P_i h (by omega), fun d1 => P_i h (by omega)⟩
  · rw [a3 (by omega)] at h
    exact ⟨fun d1 => P_i h (by omega), fun d1 => P_i h (by omega)⟩
theorem c_m_stateBehind {X : mm_X} {f : Nat → Int32} {fl : Nat → Int64} {g : Nat → Nat → Int32} {gl : Nat → Nat → Int64} {hh : Nat → Nat → Option Nat} {v : Nat → Value} {tx : mm_W} {P : Option Value → mm_W → Prop} {κ : Nat → Nat} {cs : List pC} {p s o K : Nat} (hK : 64 ≤ K) (hm : ms (g 76) κ) (hwS : wS κ) (hwL : wL κ) (hwH : wH κ) (hwT : wT κ) (hB : wB κ) (hR : rfX κ (κ 59) cs) (hok : csOK cs) (hp : p < 3) (hs : s < 1000) (ho : o ≤ 5) (h : ∀ x y z u A a, P (some (.int (iI (stB κ cs p s o : Nat)))) (Wd (va_up (va_up (va_up (va_up f 4758 x) 4759 y) 4760 z) 4761 u) fl (va_up (va_up g 86 A) 87 a) gl hh v tx)) : WP X (K + 13) 207 (0, [some (.ref 74), some (.int (iI (p : Int))), some (.int (iI (s : Int))), some (.int (iI (o : Int))), none, none, none], [], Wd f fl g gl hh v tx) P := by
  have e40 : iI (s : Int) / (10 : Int32) / (4 : Int32) = iI ((s / 40 : Nat) : Int) := by simp (disch := omega) only [z_lit, z_litl, z_neg, z_negl, z_add, z_sub, z_mul, z_addl, z_subl, z_mull, z_cc, z_cl, z_cr, z_cm, z_cml, z_cmr, z_lt, z_le, z_eq, z_ltl, z_lel, z_eql, z_nat, z_i2l, z_l2i, z_div, z_sh, Int.toNat_natCast, z_ts, z_tsl]; congr 1; omega
  have e10 : iI (s : Int) / (10 : Int32) - iI (s : Int) / (10 : Int32) / (4 : Int32) * (4 : Int32) = iI ((s / 10 % 4 : Nat) : Int) := by simp (disch := omega) only [z_lit, z_litl, z_neg, z_negl, z_add, z_sub, z_mul, z_addl, z_subl, z_mull, z_cc, z_cl, z_cr, z_cm, z_cml, z_cmr, z_lt, z_le, z_eq, z_ltl, z_lel, z_eql, z_nat, z_i2l, z_l2i, z_div, z_sh, Int.toNat_natCast, z_ts, z_tsl]; congr 1; omega
  have em : iI (s : Int) - iI (s : Int) / (10 : Int32) * (10 : Int32) = iI ((s % 10 : Nat) : Int) := by simp (disch := omega) only [z_lit, z_litl, z_neg, z_negl, z_add, z_sub, z_mul, z_addl, z_subl, z_mull, z_cc, z_cl, z_cr, z_cm, z_cml, z_cmr, z_lt, z_le, z_eq, z_ltl, z_lel, z_eql, z_nat, z_i2l, z_l2i, z_div, z_sh, Int.toNat_natCast, z_ts, z_tsl]; congr 1; omega
  refine b_m_stateBehind_0 (h := ?_) ..
  rw [e10, e40, em]
  refine c_m_barred (κ := κ) (cs := cs) (o := o) (c := s / 40) (w := s % 10) hK hm hwS hwL hwH hwT hB hR hok hp (by omega) (by omega) (by omega) fun x y z u A a => ?_
  have hP := h x y z u A a
  refine b_m_stateBehind_32 (h := ?_) ..
  cases hbr : brd κ cs p o (s / 40) (s % 10) with
  | true =>
    have e : stB κ cs p s o = s := if_pos hbr
    rw [e] at hP
    exact ⟨fun c => absurd c (by decide), fun _ => hP⟩
  | false =>
    have e : stB κ cs p s o = bhd s o (if o = 0 then gos κ cs p (s / 40) (s % 10) else 0) := if_neg (by rw [hbr]; decide)
    have hbd : ∀ go, bhd s o go = if o = 0 then (ahd (s / 40) (s / 10 % 4) go * 4 + s / 10 % 4) * 10 + s % 10 else if o = 1 then (s / 40 * 4 + (s / 10 % 4 + 3) % 4) * 10 + s % 10 else if o = 2 then (s / 40 * 4 + (s / 10 % 4 + 1) % 4) * 10 + s % 10 else if o = 3 then (s / 40 * 4 + (s / 10 % 4 + 2) % 4) * 10 + s % 10 else if o = 4 then (s / 40 * 4 + s / 10 % 4) * 10 + (s % 10 - 1) else s := fun go => rfl
    have hP2 : ∀ x y z u A a, P (some (.int (iI (bhd s o (if o = 0 then gos κ cs p (s / 40) (s % 10) else 0) : Nat)))) (Wd (va_up (va_up (va_up (va_up f 4758 x) 4759 y) 4760 z) 4761 u) fl (va_up (va_up g 86 A) 87 a) gl hh v tx) := fun x y z u A a => by
      rw [← e]; exact h x y z u A a
    clear h hP
    refine ⟨fun _ => ?_, fun c => absurd rfl c⟩
    have hc25 : s / 40 < 25 := by omega
    by_cases o0 : o = 0
    · subst o0
      refine ⟨fun _ => ?_, fun c => absurd rfl c⟩
      refine c_m_goes (κ := κ) (cs := cs) (c := s / 40) (w := s % 10) (K := K) (g := va_up (va_up g 86 A) 87 a) hK (by exact hm) hwS hwL hwH hwT hB hR hp (by omega) (by omega) fun x y z u A a => ?_
      refine b_m_stateBehind_85 (h := ?_) ..
      have hgl := gos_le (κ := κ) (cs := cs) (p := p) (c := s / 40) (w := s % 10)
      refine c_m_goesOn hc25 (by omega) hgl ?_
      have hlt := ahd_lt (c := s / 40) (w := s / 10 % 4) (go := gos κ cs p (s / 40) (s % 10)) hc25
      refine b_m_stateBehind_88 (h := ?_) ..
      simp (disch := decide) only [va_cm, va_tw]
      have hP := hP2 x y z u A a
      rw [if_pos rfl, hbd, if_pos rfl] at hP
      simp (disch := omega) only [z_lit, z_litl, z_neg, z_negl, z_add, z_sub, z_mul, z_addl, z_subl, z_mull, z_cc, z_cl, z_cr, z_cm, z_cml, z_cmr, z_lt, z_le, z_eq, z_ltl, z_lel, z_eql, z_nat, z_i2l, z_l2i, z_div, z_sh, Int.toNat_natCast, z_ts, z_tsl]
      exact P_i hP (by omega)
    · have hP := hP2 x y z u A a
      rw [if_neg o0, hbd, if_neg o0] at hP
      obtain ⟨c, hc⟩ : ∃ c : Nat, c = s / 40 := ⟨_, rfl⟩
      obtain ⟨w, hw⟩ : ∃ w : Nat, w = s / 10 % 4 := ⟨_, rfl⟩
      obtain ⟨q, hq⟩ : ∃ q : Nat, q = s % 10 := ⟨_, rfl⟩
      have hw4 : w < 4 := by omega
      have hq10 : q < 10 := by omega
      rw [← hc] at hc25
      rw [← hc, ← hw, ← hq] at hP ⊢
      clear hc hw hq hbd e e40 e10 em hP2 hbr
      simp (disch := omega) only [z_lit, z_litl, z_neg, z_negl, z_add, z_sub, z_mul, z_addl, z_subl, z_mull, z_cc, z_cl, z_cr, z_cm, z_cml, z_cmr, z_lt, z_le, z_eq, z_ltl, z_lel, z_eql, z_nat, z_i2l, z_l2i, z_div, z_sh, Int.toNat_natCast, z_ts, z_tsl]
      refine ⟨fun c0 => by omega, fun _ => ⟨fun c2 => ?_, fun c2 => ⟨fun c3 => ?_, fun c3 => ⟨fun c4 => ?_, fun c4 => ⟨fun c5 => ⟨fun c6 => ?_, fun c6 => ?_⟩, fun c5 => ?_⟩⟩⟩⟩⟩
      · rw [if_pos (by omega)] at hP
        exact P_i hP (by omega)
      · rw [if_neg (by omega), if_pos (by omega)] at hP
        exact P_i hP (by omega)
      · rw [if_neg (by omega), if_neg (by omega), if_pos (by omega)] at hP
        exact P_i hP (by omega)
      · rw [if_neg (by omega), if_neg (by omega), if_neg (by omega), if_pos (by omega)] at hP
        exact P_i hP (by omega)
      · rw [if_neg (by omega), if_neg (by omega), if_neg (by omega), if_pos (by omega)] at hP
        exact P_i hP (by omega)
      · rw [if_neg (by omega), if_neg (by omega), if_neg (by omega), if_neg (by omega)] at hP
        exact hP
/-- the orders of these signs done, one behind the other -/
def flw (κ : Nat → Nat) (cs : List pC) (p s0 : Nat) (pk : Nat → Nat) : Nat → Nat
  | 0 => s0
  | n + 1 => stB κ cs p (flw κ cs p s0 pk n) (κ (39 + pk n))
theorem flw_lt {κ : Nat → Nat} {cs : List pC} {p s0 : Nat} {pk : Nat → Nat} (h : s0 < 1000) : ∀ n, flw κ cs p s0 pk n < 1000
  | 0 => h
  | n + 1 => stB_lt (flw_lt h n)
theorem c_follow1 {X : mm_X} {d : Nat} {f : Nat → Int32} {fl : Nat → Int64} {g : Nat → Nat → Int32} {gl : Nat → Nat → Int64} {hh : Nat → Nat → Option Nat} {v : Nat → Value} {tx : mm_W} {P : Option Value → mm_W → Prop} {κ : Nat → Nat} {cs : List pC} {p s0 n : Nat} {pk : Nat → Nat} (hX : cpX v tx cs) (hwS : wS κ) (hwT : wT κ) (hxS : xS (f 64) (g 2) (g 3) (g 4) κ) (hp : p < 3) (hs : s0 < 1000) (hn : n ≤ 12) (hf : f 2437 = iI (n : Int)) (hsp : f 2440 = iI (s0 : Int)) (w0 : g 41 0 = iI (p : Int)) (w6 : g 41 6 = iI (κ 22)) (w7 : g 41 7 = iI (κ 54)) (hpk : ∀ i, i < n → pk i < κ 55 ∧ g 44 i = iI (pk i : Int)) (h : ∀ a st, P none (Wd (va_up f 2440 (iI (flw κ cs p s0 pk n : Nat))) fl (va_up g 41 a) (va_up gl 40 st) hh v tx)) : WP X (d + 5) 11 (0, [some (.ref 38), some (.ref 1), none, none], [], Wd f fl g gl hh v tx) P := by
  have b55 := hwS.1
  have key : ∀ i, i ≤ n → ∀ (a : Nat → Int32) (st : Nat → Int64), a 0 = iI (p : Int) → a 6 = iI (κ 22) → a 7 = iI (κ 54) → WP X (d + 5) 11 (2, [some (.ref 38), some (.ref 1), some (.int (iI i)), none], [], Wd (va_up f 2440 (iI (flw κ cs p s0 pk i : Nat))) fl (va_up g 41 a) (va_up gl 40 st) hh v tx) P := by
    apply k_up (Q := fun i => ∀ (a : Nat → Int32) (st : Nat → Int64), a 0 = iI (p : Int) → a 6 = iI (κ 22) → a 7 = iI (κ 54) → WP X (d + 5) 11 (2, [some (.ref 38), some (.ref 1), some (.int (iI i)), none], [], Wd (va_up f 2440 (iI (flw κ cs p s0 pk i : Nat))) fl (va_up g 41 a) (va_up gl 40 st) hh v tx) P)
    · intro a st a0 a6 a7
      refine b_yca_follow_38_1_2 (h := ?_) ..
      rw [show va_up f 2440 (iI (flw κ cs p s0 pk n : Nat)) 2437 = iI (n : Int) from (va_ne (by decide)).trans hf]
      exact ⟨fun _ => h a st, fun c => absurd (Int32.le_refl _) c⟩
    · intro i hi ih a st a0 a6 a7
      obtain ⟨k1, k2⟩ := hpk i hi
      obtain ⟨s1, s2, s3, -⟩ := hwS.2.1 _ k1
      obtain ⟨x1, x2, x3⟩ := hxS.2 _ k1
      have hlt := flw_lt (κ := κ) (cs := cs) (p := p) (pk := pk) hs i
      have x3' : va_up g 41 a 4 (pk i) = iI (κ (39 + pk i)) := by rw [va_ne (by decide)]; exact x3
      have k2' : va_up g 41 a 44 i = iI (pk i : Int) := by rw [va_ne (by decide)]; exact k2
      refine b_yca_follow_38_1_2 (h := ?_) ..
      rw [show va_up f 2440 (iI (flw κ cs p s0 pk i : Nat)) 2437 = iI (n : Int) from (va_ne (by decide)).trans hf, show (iI (i : Int)).toNatClampNeg = i by rw [z_nat (by omega)]; omega, k2', show (iI (pk i : Int)).toNatClampNeg = pk i by rw [z_nat (by omega)]; omega, x3']
      refine ⟨fun c => by simp (disch := omega) only [z_lit, z_litl, z_neg, z_negl, z_add, z_sub, z_mul, z_addl, z_subl, z_mull, z_cc, z_cl, z_cr, z_cm, z_cml, z_cmr, z_lt, z_le, z_eq, z_ltl, z_lel, z_eql, z_nat, z_i2l, z_l2i, z_div, z_sh, Int.toNat_natCast, z_ts, z_tsl] at c; omega, fun _ => ⟨by simp (disch := omega) only [z_lit, z_litl, z_neg, z_negl, z_add, z_sub, z_mul, z_addl, z_subl, z_mull, z_cc, z_cl, z_cr, z_cm, z_cml, z_cmr, z_lt, z_le, z_eq, z_ltl, z_lel, z_eql, z_nat, z_i2l, z_l2i, z_div, z_sh, Int.toNat_natCast, z_ts, z_tsl]; omega, by simp (disch := omega) only [z_lit, z_litl, z_neg, z_negl, z_add, z_sub, z_mul, z_addl, z_subl, z_mull, z_cc, z_cl, z_cr, z_cm, z_cml, z_cmr, z_lt, z_le, z_eq, z_ltl, z_lel, z_eql, z_nat, z_i2l, z_l2i, z_div, z_sh, Int.toNat_natCast, z_ts, z_tsl]; omega, ?_⟩⟩
      refine c_barred (κ := κ) (cs := cs) (p := p) (sp := flw κ cs p s0 pk i) (o := κ (39 + pk i)) hX hwT hp (by omega) (by rw [va_s]; exact a0) (by rw [va_s]; exact a6) (by rw [va_s]; exact a7) va_s hlt fun a1 st1 b0 b6 b7 => ?_
      have fin : ∀ (a2 : Nat → Int32) (st2 : Nat → Int64), a2 0 = iI (p : Int) → a2 6 = iI (κ 22) → a2 7 = iI (κ 54) → ∀ s : Nat, s = stB κ cs p (flw κ cs p s0 pk i) (κ (39 + pk i)) → WP X (d + 5) 11 (2, [some (.ref 38), some (.ref 1), some (.int (iI (i : Int) + (1 : Int32))), none], [], Wd (va_up f 2440 (iI (s : Int))) fl (va_up g 41 a2) (va_up gl 40 st2) hh v tx) P := by
        intro a2 st2 c0 c6 c7 s hs2
        rw [hs2, show iI (i : Int) + (1 : Int32) = iI ((i + 1 : Nat) : Int) by simp (disch := omega) only [z_lit, z_litl, z_neg, z_negl, z_add, z_sub, z_mul, z_addl, z_subl, z_mull, z_cc, z_cl, z_cr, z_cm, z_cml, z_cmr, z_lt, z_le, z_eq, z_ltl, z_lel, z_eql, z_nat, z_i2l, z_l2i, z_div, z_sh, Int.toNat_natCast, z_ts, z_tsl]]
        exact ih a2 st2 c0 c6 c7
      refine b_yca_follow_38_1_27 (h := ?_) ..
      rw [va_s, va_tw, va_tw]
      cases hbr : brd κ cs p (κ (39 + pk i)) (flw κ cs p s0 pk i / 40) (flw κ cs p s0 pk i % 10) with
      | true =>
        refine ⟨fun _ => ?_, fun c => absurd c (by decide)⟩
        exact fin a1 st1 b0 b6 b7 _ (if_pos hbr).symm
      | false =>
        have e : stB κ cs p (flw κ cs p s0 pk i) (κ (39 + pk i)) = bhd (flw κ cs p s0 pk i) (κ (39 + pk i)) (if κ (39 + pk i) = 0 then gos κ cs p (flw κ cs p s0 pk i / 40) (flw κ cs p s0 pk i % 10) else 0) := if_neg (by rw [hbr]; decide)
        refine ⟨fun c => absurd rfl c, fun _ => ⟨fun c => ?_, fun c => ?_⟩⟩
        · refine c_x_behind (go := 0) hlt s3 (by omega) ?_
          refine b_yca_follow_38_1_51 (h := ?_) ..
          rw [va_tw]
          refine fin a1 st1 b0 b6 b7 _ ?_
          rw [e, if_neg]
          intro h0
          rw [h0] at c
          exact c rfl
        · have h0 : κ (39 + pk i) = 0 := by
            simp (disch := omega) only [z_lit, z_litl, z_neg, z_negl, z_add, z_sub, z_mul, z_addl, z_subl, z_mull, z_cc, z_cl, z_cr, z_cm, z_cml, z_cmr, z_lt, z_le, z_eq, z_ltl, z_lel, z_eql, z_nat, z_i2l, z_l2i, z_div, z_sh, Int.toNat_natCast, z_ts, z_tsl] at c
            omega
          refine c_goes (κ := κ) (cs := cs) (p := p) (sp := flw κ cs p s0 pk i) hX hwT hp (by rw [va_s]; exact b0) (by rw [va_s]; exact b6) (by rw [va_s]; exact b7) va_s hlt fun a2 st2 c0 c6 c7 => ?_
          refine b_yca_follow_38_1_44 (h := ?_) ..
          have hgl := gos_le (κ := κ) (cs := cs) (p := p) (c := flw κ cs p s0 pk i / 40) (w := flw κ cs p s0 pk i % 10)
          refine c_x_behind hlt s3 hgl ?_
          refine b_yca_follow_38_1_51 (h := ?_) ..
          rw [va_tw, va_tw, va_tw]
          refine fin a2 st2 c0 c6 c7 _ ?_
          rw [e, if_pos h0]
  have := key 0 (Nat.zero_le _) (g 41) (gl 40) w0 w6 w7
  rw [va_id (f := g) rfl, va_id (f := gl) rfl, show flw κ cs p s0 pk 0 = s0 from rfl, va_id (f := f) (k := 2440) hsp] at this
  refine b_yca_follow_38_1_0 (h := ?_) ..
  exact this
theorem c_follow19 {X : mm_X} {d : Nat} {f : Nat → Int32} {fl : Nat → Int64} {g : Nat → Nat → Int32} {gl : Nat → Nat → Int64} {hh : Nat → Nat → Option Nat} {v : Nat → Value} {tx : mm_W} {P : Option Value → mm_W → Prop} {κ : Nat → Nat} {cs : List pC} {p s0 n : Nat} {pk : Nat → Nat} (hX : cpX v tx cs) (hwS : wS κ) (hwT : wT κ) (hxS : xS (f 1216) (g 20) (g 21) (g 22) κ) (hp : p < 3) (hs : s0 < 1000) (hn : n ≤ 12) (hf : f 2437 = iI (n : Int)) (hsp : f 2440 = iI (s0 : Int)) (w0 : g 41 0 = iI (p : Int)) (w6 : g 41 6 = iI (κ 22)) (w7 : g 41 7 = iI (κ 54)) (hpk : ∀ i, i < n → pk i < κ 55 ∧ g 44 i = iI (pk i : Int)) (h : ∀ a st, P none (Wd (va_up f 2440 (iI (flw κ cs p s0 pk n : Nat))) fl (va_up g 41 a) (va_up gl 40 st) hh v tx)) : WP X (d + 5) 11 (0, [some (.ref 38), some (.ref 19), none, none], [], Wd f fl g gl hh v tx) P := by
  have b55 := hwS.1
  have key : ∀ i, i ≤ n → ∀ (a : Nat → Int32) (st : Nat → Int64), a 0 = iI (p : Int) → a 6 = iI (κ 22) → a 7 = iI (κ 54) → WP X (d + 5) 11 (2, [some (.ref 38), some (.ref 19), some (.int (iI i)), none], [], Wd (va_up f 2440 (iI (flw κ cs p s0 pk i : Nat))) fl (va_up g 41 a) (va_up gl 40 st) hh v tx) P := by
    apply k_up (Q := fun i => ∀ (a : Nat → Int32) (st : Nat → Int64), a 0 = iI (p : Int) → a 6 = iI (κ 22) → a 7 = iI (κ 54) → WP X (d + 5) 11 (2, [some (.ref 38), some (.ref 19), some (.int (iI i)), none], [], Wd (va_up f 2440 (iI (flw κ cs p s0 pk i : Nat))) fl (va_up g 41 a) (va_up gl 40 st) hh v tx) P)
    · intro a st a0 a6 a7
      refine b_yca_follow_38_19_2 (h := ?_) ..
      rw [show va_up f 2440 (iI (flw κ cs p s0 pk n : Nat)) 2437 = iI (n : Int) from (va_ne (by decide)).trans hf]
      exact ⟨fun _ => h a st, fun c => absurd (Int32.le_refl _) c⟩
    · intro i hi ih a st a0 a6 a7
      obtain ⟨k1, k2⟩ := hpk i hi
      obtain ⟨s1, s2, s3, -⟩ := hwS.2.1 _ k1
      obtain ⟨x1, x2, x3⟩ := hxS.2 _ k1
      have hlt := flw_lt (κ := κ) (cs := cs) (p := p) (pk := pk) hs i
      have x3' : va_up g 41 a 22 (pk i) = iI (κ (39 + pk i)) := by rw [va_ne (by decide)]; exact x3
      have k2' : va_up g 41 a 44 i = iI (pk i : Int) := by rw [va_ne (by decide)]; exact k2
      refine b_yca_follow_38_19_2 (h := ?_) ..
      rw [show va_up f 2440 (iI (flw κ cs p s0 pk i : Nat)) 2437 = iI (n : Int) from (va_ne (by decide)).trans hf, show (iI (i : Int)).toNatClampNeg = i by rw [z_nat (by omega)]; omega, k2', show (iI (pk i : Int)).toNatClampNeg = pk i by rw [z_nat (by omega)]; omega, x3']
      refine ⟨fun c => by simp (disch := omega) only [z_lit, z_litl, z_neg, z_negl, z_add, z_sub, z_mul, z_addl, z_subl, z_mull, z_cc, z_cl, z_cr, z_cm, z_cml, z_cmr, z_lt, z_le, z_eq, z_ltl, z_lel, z_eql, z_nat, z_i2l, z_l2i, z_div, z_sh, Int.toNat_natCast, z_ts, z_tsl] at c; omega, fun _ => ⟨by simp (disch := omega) only [z_lit, z_litl, z_neg, z_negl, z_add, z_sub, z_mul, z_addl, z_subl, z_mull, z_cc, z_cl, z_cr, z_cm, z_cml, z_cmr, z_lt, z_le, z_eq, z_ltl, z_lel, z_eql, z_nat, z_i2l, z_l2i, z_div, z_sh, Int.toNat_natCast, z_ts, z_tsl]; omega, by simp (disch := omega) only [z_lit, z_litl, z_neg, z_negl, z_add, z_sub, z_mul, z_addl, z_subl, z_mull, z_cc, z_cl, z_cr, z_cm, z_cml, z_cmr, z_lt, z_le, z_eq, z_ltl, z_lel, z_eql, z_nat, z_i2l, z_l2i, z_div, z_sh, Int.toNat_natCast, z_ts, z_tsl]; omega, ?_⟩⟩
      refine c_barred (κ := κ) (cs := cs) (p := p) (sp := flw κ cs p s0 pk i) (o := κ (39 + pk i)) hX hwT hp (by omega) (by rw [va_s]; exact a0) (by rw [va_s]; exact a6) (by rw [va_s]; exact a7) va_s hlt fun a1 st1 b0 b6 b7 => ?_
      have fin : ∀ (a2 : Nat → Int32) (st2 : Nat → Int64), a2 0 = iI (p : Int) → a2 6 = iI (κ 22) → a2 7 = iI (κ 54) → ∀ s : Nat, s = stB κ cs p (flw κ cs p s0 pk i) (κ (39 + pk i)) → WP X (d + 5) 11 (2, [some (.ref 38), some (.ref 19), some (.int (iI (i : Int) + (1 : Int32))), none], [], Wd (va_up f 2440 (iI (s : Int))) fl (va_up g 41 a2) (va_up gl 40 st2) hh v tx) P := by
        intro a2 st2 c0 c6 c7 s hs2
        rw [hs2, show iI (i : Int) + (1 : Int32) = iI ((i + 1 : Nat) : Int) by simp (disch := omega) only [z_lit, z_litl, z_neg, z_negl, z_add, z_sub, z_mul, z_addl, z_subl, z_mull, z_cc, z_cl, z_cr, z_cm, z_cml, z_cmr, z_lt, z_le, z_eq, z_ltl, z_lel, z_eql, z_nat, z_i2l, z_l2i, z_div, z_sh, Int.toNat_natCast, z_ts, z_tsl]]
        exact ih a2 st2 c0 c6 c7
      refine b_yca_follow_38_19_27 (h := ?_) ..
      rw [va_s, va_tw, va_tw]
      cases hbr : brd κ cs p (κ (39 + pk i)) (flw κ cs p s0 pk i / 40) (flw κ cs p s0 pk i % 10) with
      | true =>
        refine ⟨fun _ => ?_, fun c => absurd c (by decide)⟩
        exact fin a1 st1 b0 b6 b7 _ (if_pos hbr).symm
      | false =>
        have e : stB κ cs p (flw κ cs p s0 pk i) (κ (39 + pk i)) = bhd (flw κ cs p s0 pk i) (κ (39 + pk i)) (if κ (39 + pk i) = 0 then gos κ cs p (flw κ cs p s0 pk i / 40) (flw κ cs p s0 pk i % 10) else 0) := if_neg (by rw [hbr]; decide)
        refine ⟨fun c => absurd rfl c, fun _ => ⟨fun c => ?_, fun c => ?_⟩⟩
        · refine c_x_behind (go := 0) hlt s3 (by omega) ?_
          refine b_yca_follow_38_19_51 (h := ?_) ..
          rw [va_tw]
          refine fin a1 st1 b0 b6 b7 _ ?_
          rw [e, if_neg]
          intro h0
          rw [h0] at c
          exact c rfl
        · have h0 : κ (39 + pk i) = 0 := by
            simp (disch := omega) only [z_lit, z_litl, z_neg, z_negl, z_add, z_sub, z_mul, z_addl, z_subl, z_mull, z_cc, z_cl, z_cr, z_cm, z_cml, z_cmr, z_lt, z_le, z_eq, z_ltl, z_lel, z_eql, z_nat, z_i2l, z_l2i, z_div, z_sh, Int.toNat_natCast, z_ts, z_tsl] at c
            omega
          refine c_goes (κ := κ) (cs := cs) (p := p) (sp := flw κ cs p s0 pk i) hX hwT hp (by rw [va_s]; exact b0) (by rw [va_s]; exact b6) (by rw [va_s]; exact b7) va_s hlt fun a2 st2 c0 c6 c7 => ?_
          refine b_yca_follow_38_19_44 (h := ?_) ..
          have hgl := gos_le (κ := κ) (cs := cs) (p := p) (c := flw κ cs p s0 pk i / 40) (w := flw κ cs p s0 pk i % 10)
          refine c_x_behind hlt s3 hgl ?_
          refine b_yca_follow_38_19_51 (h := ?_) ..
          rw [va_tw, va_tw, va_tw]
          refine fin a2 st2 c0 c6 c7 _ ?_
          rw [e, if_pos h0]
  have := key 0 (Nat.zero_le _) (g 41) (gl 40) w0 w6 w7
  rw [va_id (f := g) rfl, va_id (f := gl) rfl, show flw κ cs p s0 pk 0 = s0 from rfl, va_id (f := f) (k := 2440) hsp] at this
  refine b_yca_follow_38_19_0 (h := ?_) ..
  exact this
/-- where a ship is behind what it reads -/
def thn (κ : Nat → Nat) (cs : List pC) (p : Nat) : Nat := flw κ cs p (spot κ p) (fun i => sgn κ false (wgt κ cs p) (psn κ false (wgt κ cs p) i)) (pln κ false (wgt κ cs p))
theorem thn_lt {κ : Nat → Nat} {cs : List pC} {p : Nat} (hw : wH κ) (hp : p < 3) : thn κ cs p < 1000 := flw_lt (spot_lt hw hp).1 _
theorem c_m_stateThen {X : mm_X} {f : Nat → Int32} {fl : Nat → Int64} {g : Nat → Nat → Int32} {gl : Nat → Nat → Int64} {hh : Nat → Nat → Option Nat} {v : Nat → Value} {tx : mm_W} {P : Option Value → mm_W → Prop} {κ : Nat → Nat} {cs : List pC} {p K : Nat} (hK : 64 ≤ K) (hm : ms (g 76) κ) (hwS : wS κ) (hwL : wL κ) (hwH : wH κ) (hwT : wT κ) (hB : wB κ) (hR : rfX κ (κ 59) cs) (hok : csOK cs) (hp : p < 3)
    (h : ∀ x y z u (A a l w r : Nat → Int32), P (some (.int (if lyF κ false (wgt κ cs p) 0 < 1000000 then iI (thn κ cs p : Nat) else iI (-1)))) (Wd (va_up (va_up (va_up (va_up f 4758 x) 4759 y) 4760 z) 4761 u) fl (va_up (va_up (va_up (va_up (va_up g 86 A) 87 a) 88 l) 89 w) 90 r) gl hh v tx)) : WP X (K + 14) 209 (0, [some (.ref 74), some (.int (iI (p : Int))), none, none, none], [], Wd f fl g gl hh v tx) P := by
  have b12 := hwL.1
  have b55 := hwS.1
  have e12 := hm.1 12 (by decide)
  have e13 := hm.1 (13 + p) (by omega)
  have e16 := hm.1 (16 + p) (by omega)
  have e19 := hm.1 (19 + p) (by omega)
  obtain ⟨y1, y2, y3⟩ := hwH.2 p hp
  have hsl := (spot_lt hwH hp).1
  refine b_m_stateThen_0 (h := ?_) ..
  refine c_m_laysRead (κ := κ) (cs := cs) hK hm hwS hwL hwH hwT hB hR hp fun x y z u A a l w hl hw => ?_
  refine b_m_stateThen_5 (h := ?_) ..
  by_cases hL : lyF κ false (wgt κ cs p) 0 < 1000000
  · rw [if_pos hL]
    refine ⟨fun _ => ?_, fun c => absurd c (by decide)⟩
    -- the orders done
    have two : ∀ i, i ≤ pln κ false (wgt κ cs p) → ∀ x y z u (A a r : Nat → Int32), (∀ q, q < pln κ false (wgt κ cs p) → r q = iI (sgn κ false (wgt κ cs p) (psn κ false (wgt κ cs p) q))) → WP X (K + 14) 209 (68, [some (.ref 74), some (.int (iI (p : Int))), some (.int (iI (pln κ false (wgt κ cs p)))), some (.int (iI (flw κ cs p (spot κ p) (fun i => sgn κ false (wgt κ cs p) (psn κ false (wgt κ cs p) i)) i : Nat))), some (.int (iI i))], [], Wd (va_up (va_up (va_up (va_up f 4758 x) 4759 y) 4760 z) 4761 u) fl (va_up (va_up (va_up (va_up (va_up g 86 A) 87 a) 88 l) 89 w) 90 r) gl hh v tx) P := by
      have hple := pln_le (κ := κ) (md := false) (wt := wgt κ cs p)
      apply k_up (Q := fun i => ∀ x y z u (A a r : Nat → Int32), (∀ q, q < pln κ false (wgt κ cs p) → r q = iI (sgn κ false (wgt κ cs p) (psn κ false (wgt κ cs p) q))) → WP X (K + 14) 209 (68, [some (.ref 74), some (.int (iI (p : Int))), some (.int (iI (pln κ false (wgt κ cs p)))), some (.int (iI (flw κ cs p (spot κ p) (fun i => sgn κ false (wgt κ cs p) (psn κ false (wgt κ cs p) i)) i : Nat))), some (.int (iI i))], [], Wd (va_up (va_up (va_up (va_up f 4758 x) 4759 y) 4760 z) 4761 u) fl (va_up (va_up (va_up (va_up (va_up g 86 A) 87 a) 88 l) 89 w) 90 r) gl hh v tx) P)
      · intro x y z u A a r hr
        refine b_m_stateThen_68 (h := ?_) ..
        have hP := h x y z u A a l w r
        rw [if_pos hL] at hP
        exact ⟨fun _ => hP, fun c => absurd (Int32.le_refl _) c⟩
      · intro i hi ih x y z u A a r hr
        have hlt := pln_lt (κ := κ) (md := false) (wt := wgt κ cs p) hi
        obtain ⟨q1, q2, q3⟩ := psn_ok (md := false) (wt := wgt κ cs p) hwS hL i
        obtain ⟨s1, -⟩ := sgn_spec (md := false) (wt := wgt κ cs p) hwS hlt q2
        obtain ⟨s2, s3, s4, -⟩ := hwS.2.1 _ s1
        have e39 := hm.1 (39 + sgn κ false (wgt κ cs p) (psn κ false (wgt κ cs p) i)) (by omega)
        have hfl := flw_lt (κ := κ) (cs := cs) (p := p) (s0 := spot κ p) (pk := fun i => sgn κ false (wgt κ cs p) (psn κ false (wgt κ cs p) i)) hsl i
        have v76 : va_up (va_up (va_up (va_up (va_up g 86 A) 87 a) 88 l) 89 w) 90 r 76 = g 76 := by rw [va_ne (by decide), va_ne (by decide), va_ne (by decide), va_ne (by decide), va_ne (by decide)]
        refine b_m_stateThen_68 (h := ?_) ..
        rw [show va_up (va_up (va_up (va_up (va_up g 86 A) 87 a) 88 l) 89 w) 90 r 90 = r from va_s, v76, show (iI (i : Int)).toNatClampNeg = i by rw [z_nat (by omega)]; omega, hr i hi]
        have en : ((39 : Int32) + iI (sgn κ false (wgt κ cs p) (psn κ false (wgt κ cs p) i) : Int)).toNatClampNeg = 39 + sgn κ false (wgt κ cs p) (psn κ false (wgt κ cs p) i) := by simp (disch := omega) only [z_lit, z_litl, z_neg, z_negl, z_add, z_sub, z_mul, z_addl, z_subl, z_mull, z_cc, z_cl, z_cr, z_cm, z_cml, z_cmr, z_lt, z_le, z_eq, z_ltl, z_lel, z_eql, z_nat, z_i2l, z_l2i, z_div, z_sh, Int.toNat_natCast, z_ts, z_tsl]
        rw [en, e39]
        refine ⟨fun c => by simp (disch := omega) only [z_lit, z_litl, z_neg, z_negl, z_add, z_sub, z_mul, z_addl, z_subl, z_mull, z_cc, z_cl, z_cr, z_cm, z_cml, z_cmr, z_lt, z_le, z_eq, z_ltl, z_lel, z_eql, z_nat, z_i2l, z_l2i, z_div, z_sh, Int.toNat_natCast, z_ts, z_tsl] at c; omega, fun _ => ⟨by simp (disch := omega) only [z_lit, z_litl, z_neg, z_negl, z_add, z_sub, z_mul, z_addl, z_subl, z_mull, z_cc, z_cl, z_cr, z_cm, z_cml, z_cmr, z_lt, z_le, z_eq, z_ltl, z_lel, z_eql, z_nat, z_i2l, z_l2i, z_div, z_sh, Int.toNat_natCast, z_ts, z_tsl]; omega, by simp (disch := omega) only [z_lit, z_litl, z_neg, z_negl, z_add, z_sub, z_mul, z_addl, z_subl, z_mull, z_cc, z_cl, z_cr, z_cm, z_cml, z_cmr, z_lt, z_le, z_eq, z_ltl, z_lel, z_eql, z_nat, z_i2l, z_l2i, z_div, z_sh, Int.toNat_natCast, z_ts, z_tsl]; omega, ?_⟩⟩
        refine c_m_stateBehind (κ := κ) (cs := cs) (K := K) (g := va_up (va_up (va_up (va_up (va_up g 86 A) 87 a) 88 l) 89 w) 90 r) hK (by exact hm) hwS hwL hwH hwT hB hR hok hp hfl s4 fun x y z u A a => ?_
        refine b_m_stateThen_95 (h := ?_) ..
        rw [show iI (i : Int) + (1 : Int32) = iI ((i + 1 : Nat) : Int) by simp (disch := omega) only [z_lit, z_litl, z_neg, z_negl, z_add, z_sub, z_mul, z_addl, z_subl, z_mull, z_cc, z_cl, z_cr, z_cm, z_cml, z_cmr, z_lt, z_le, z_eq, z_ltl, z_lel, z_eql, z_nat, z_i2l, z_l2i, z_div, z_sh, Int.toNat_natCast, z_ts, z_tsl]]
        simp (disch := decide) only [va_cm, va_tw]
        exact ih _ _ _ _ _ _ _ hr
    have one : ∀ k n, n + k = pln κ false (wgt κ cs p) → ∀ r : Nat → Int32, (∀ q, q < n → r q = iI (sgn κ false (wgt κ cs p) (psn κ false (wgt κ cs p) q))) → WP X (K + 14) 209 (14, [some (.ref 74), some (.int (iI (p : Int))), some (.int (iI n)), some (.int (iI (psn κ false (wgt κ cs p) n))), none], [], Wd (va_up (va_up (va_up (va_up f 4758 x) 4759 y) 4760 z) 4761 u) fl (va_up (va_up (va_up (va_up (va_up g 86 A) 87 a) 88 l) 89 w) 90 r) gl hh v tx) P := by
      intro k
      induction k with
      | zero =>
        intro n hn r hr
        have en : n = pln κ false (wgt κ cs p) := by omega
        have hend := psn_end (md := false) (wt := wgt κ cs p) hwS hwL hL n (by omega)
        have v76 : va_up (va_up (va_up (va_up (va_up g 86 A) 87 a) 88 l) 89 w) 90 r 76 = g 76 := by rw [va_ne (by decide), va_ne (by decide), va_ne (by decide), va_ne (by decide), va_ne (by decide)]
        refine b_m_stateThen_14 (h := ?_) ..
        rw [v76, e12, hend]
        refine ⟨fun _ => ?_, fun c => absurd (Int32.le_refl _) c⟩
        have n13 : ((13 : Int32) + iI (p : Int)).toNatClampNeg = 13 + p := by simp (disch := omega) only [z_lit, z_litl, z_neg, z_negl, z_add, z_sub, z_mul, z_addl, z_subl, z_mull, z_cc, z_cl, z_cr, z_cm, z_cml, z_cmr, z_lt, z_le, z_eq, z_ltl, z_lel, z_eql, z_nat, z_i2l, z_l2i, z_div, z_sh, Int.toNat_natCast, z_ts, z_tsl]
        have n16 : ((16 : Int32) + iI (p : Int)).toNatClampNeg = 16 + p := by simp (disch := omega) only [z_lit, z_litl, z_neg, z_negl, z_add, z_sub, z_mul, z_addl, z_subl, z_mull, z_cc, z_cl, z_cr, z_cm, z_cml, z_cmr, z_lt, z_le, z_eq, z_ltl, z_lel, z_eql, z_nat, z_i2l, z_l2i, z_div, z_sh, Int.toNat_natCast, z_ts, z_tsl]
        have n19 : ((19 : Int32) + iI (p : Int)).toNatClampNeg = 19 + p := by simp (disch := omega) only [z_lit, z_litl, z_neg, z_negl, z_add, z_sub, z_mul, z_addl, z_subl, z_mull, z_cc, z_cl, z_cr, z_cm, z_cml, z_cmr, z_lt, z_le, z_eq, z_ltl, z_lel, z_eql, z_nat, z_i2l, z_l2i, z_div, z_sh, Int.toNat_natCast, z_ts, z_tsl]
        rw [n13, n16, n19, e13, e16, e19]
        refine ⟨by simp (disch := omega) only [z_lit, z_litl, z_neg, z_negl, z_add, z_sub, z_mul, z_addl, z_subl, z_mull, z_cc, z_cl, z_cr, z_cm, z_cml, z_cmr, z_lt, z_le, z_eq, z_ltl, z_lel, z_eql, z_nat, z_i2l, z_l2i, z_div, z_sh, Int.toNat_natCast, z_ts, z_tsl]; omega, by simp (disch := omega) only [z_lit, z_litl, z_neg, z_negl, z_add, z_sub, z_mul, z_addl, z_subl, z_mull, z_cc, z_cl, z_cr, z_cm, z_cml, z_cmr, z_lt, z_le, z_eq, z_ltl, z_lel, z_eql, z_nat, z_i2l, z_l2i, z_div, z_sh, Int.toNat_natCast, z_ts, z_tsl]; omega, by simp (disch := omega) only [z_lit, z_litl, z_neg, z_negl, z_add, z_sub, z_mul, z_addl, z_subl, z_mull, z_cc, z_cl, z_cr, z_cm, z_cml, z_cmr, z_lt, z_le, z_eq, z_ltl, z_lel, z_eql, z_nat, z_i2l, z_l2i, z_div, z_sh, Int.toNat_natCast, z_ts, z_tsl]; omega, ?_⟩
        have es : (((4 : Int32) * iI (κ (13 + p) : Int) + iI (κ (16 + p) : Int)) * (10 : Int32)) + iI (κ (19 + p) : Int) = iI (spot κ p : Nat) := by
          simp (disch := omega) only [z_lit, z_litl, z_neg, z_negl, z_add, z_sub, z_mul, z_addl, z_subl, z_mull, z_cc, z_cl, z_cr, z_cm, z_cml, z_cmr, z_lt, z_le, z_eq, z_ltl, z_lel, z_eql, z_nat, z_i2l, z_l2i, z_div, z_sh, Int.toNat_natCast, z_ts, z_tsl]
          unfold spot
          congr 1
          omega
        rw [es, en]
        exact two 0 (Nat.zero_le _) x y z u A a r (by rw [← en]; exact hr)
      | succ k ih =>
        intro n hn r hr
        obtain ⟨q1, q2, q3⟩ := psn_ok (md := false) (wt := wgt κ cs p) hwS hL n
        have hlt := pln_lt (κ := κ) (md := false) (wt := wgt κ cs p) (n := n) (by omega)
        obtain ⟨s1, s2, s3, s4, s5, s6⟩ := sgn_spec (md := false) (wt := wgt κ cs p) hwS hlt q2
        have e31 := hm.1 (31 + sgn κ false (wgt κ cs p) (psn κ false (wgt κ cs p) n)) (by omega)
        have hple := pln_le (κ := κ) (md := false) (wt := wgt κ cs p)
        have v76 : va_up (va_up (va_up (va_up (va_up g 86 A) 87 a) 88 l) 89 w) 90 r 76 = g 76 := by rw [va_ne (by decide), va_ne (by decide), va_ne (by decide), va_ne (by decide), va_ne (by decide)]
        refine b_m_stateThen_14 (h := ?_) ..
        rw [v76, e12]
        refine ⟨fun c => by simp (disch := omega) only [z_lit, z_litl, z_neg, z_negl, z_add, z_sub, z_mul, z_addl, z_subl, z_mull, z_cc, z_cl, z_cr, z_cm, z_cml, z_cmr, z_lt, z_le, z_eq, z_ltl, z_lel, z_eql, z_nat, z_i2l, z_l2i, z_div, z_sh, Int.toNat_natCast, z_ts, z_tsl] at c; omega, fun _ => ?_⟩
        refine c_m_signFrom (κ := κ) (md := false) (wt := wgt κ cs p) (d := K + 10) (g := va_up (va_up (va_up (va_up (va_up g 86 A) 87 a) 88 l) 89 w) 90 r) (by exact hm) hwS hwL (Or.inr fun j hj => ⟨by rw [va_ne (by decide), va_s]; exact hw j hj, wgt_le hwS hj⟩) (by intro i hi; rw [va_ne (by decide), va_ne (by decide), va_s]; exact hl i hi) hlt q2 ?_
        refine b_m_stateThen_33 (h := ?_) ..
        rw [show va_up (va_up (va_up (va_up (va_up g 86 A) 87 a) 88 l) 89 w) 90 r 90 = r from va_s, show va_up (va_up (va_up (va_up (va_up g 86 A) 87 a) 88 l) 89 w) 90 r 76 = g 76 from v76]
        have n1 : (iI (n : Int)).toNatClampNeg = n := by rw [z_nat (by omega)]; omega
        have n2 : (iI (n : Int) + (1 : Int32) - (1 : Int32)).toNatClampNeg = n := by simp (disch := omega) only [z_lit, z_litl, z_neg, z_negl, z_add, z_sub, z_mul, z_addl, z_subl, z_mull, z_cc, z_cl, z_cr, z_cm, z_cml, z_cmr, z_lt, z_le, z_eq, z_ltl, z_lel, z_eql, z_nat, z_i2l, z_l2i, z_div, z_sh, Int.toNat_natCast, z_ts, z_tsl]; omega
        have n3 : ((31 : Int32) + iI (sgn κ false (wgt κ cs p) (psn κ false (wgt κ cs p) n) : Int)).toNatClampNeg = 31 + sgn κ false (wgt κ cs p) (psn κ false (wgt κ cs p) n) := by simp (disch := omega) only [z_lit, z_litl, z_neg, z_negl, z_add, z_sub, z_mul, z_addl, z_subl, z_mull, z_cc, z_cl, z_cr, z_cm, z_cml, z_cmr, z_lt, z_le, z_eq, z_ltl, z_lel, z_eql, z_nat, z_i2l, z_l2i, z_div, z_sh, Int.toNat_natCast, z_ts, z_tsl]
        rw [n1, n2, upd_s, n3, e31]
        refine ⟨by simp (disch := omega) only [z_lit, z_litl, z_neg, z_negl, z_add, z_sub, z_mul, z_addl, z_subl, z_mull, z_cc, z_cl, z_cr, z_cm, z_cml, z_cmr, z_lt, z_le, z_eq, z_ltl, z_lel, z_eql, z_nat, z_i2l, z_l2i, z_div, z_sh, Int.toNat_natCast, z_ts, z_tsl]; omega, by simp (disch := omega) only [z_lit, z_litl, z_neg, z_negl, z_add, z_sub, z_mul, z_addl, z_subl, z_mull, z_cc, z_cl, z_cr, z_cm, z_cml, z_cmr, z_lt, z_le, z_eq, z_ltl, z_lel, z_eql, z_nat, z_i2l, z_l2i, z_div, z_sh, Int.toNat_natCast, z_ts, z_tsl]; omega, by simp (disch := omega) only [z_lit, z_litl, z_neg, z_negl, z_add, z_sub, z_mul, z_addl, z_subl, z_mull, z_cc, z_cl, z_cr, z_cm, z_cml, z_cmr, z_lt, z_le, z_eq, z_ltl, z_lel, z_eql, z_nat, z_i2l, z_l2i, z_div, z_sh, Int.toNat_natCast, z_ts, z_tsl]; omega, ?_⟩
        rw [show iI (n : Int) + (1 : Int32) = iI ((n + 1 : Nat) : Int) by simp (disch := omega) only [z_lit, z_litl, z_neg, z_negl, z_add, z_sub, z_mul, z_addl, z_subl, z_mull, z_cc, z_cl, z_cr, z_cm, z_cml, z_cmr, z_lt, z_le, z_eq, z_ltl, z_lel, z_eql, z_nat, z_i2l, z_l2i, z_div, z_sh, Int.toNat_natCast, z_ts, z_tsl], show iI (psn κ false (wgt κ cs p) n : Int) + iI (κ (31 + sgn κ false (wgt κ cs p) (psn κ false (wgt κ cs p) n)) : Int) = iI (psn κ false (wgt κ cs p) (n + 1) : Int) by rw [psn_s hlt]; simp (disch := omega) only [z_lit, z_litl, z_neg, z_negl, z_add, z_sub, z_mul, z_addl, z_subl, z_mull, z_cc, z_cl, z_cr, z_cm, z_cml, z_cmr, z_lt, z_le, z_eq, z_ltl, z_lel, z_eql, z_nat, z_i2l, z_l2i, z_div, z_sh, Int.toNat_natCast, z_ts, z_tsl], va_tw]
        refine ih (n + 1) (by omega) _ fun q hq => ?_
        by_cases e : q = n
        · rw [e, upd_s]
        · rw [upd_ne e]; exact hr q (by omega)
    have := one (pln κ false (wgt κ cs p)) 0 (by omega) (g 90) fun q hq => absurd hq (Nat.not_lt_zero q)
    rw [va_id (f := va_up (va_up (va_up (va_up g 86 A) 87 a) 88 l) 89 w) (k := 90) (by rw [va_ne (by decide), va_ne (by decide), va_ne (by decide), va_ne (by decide)])] at this
    exact this
  · rw [if_neg hL]
    refine ⟨fun c => absurd rfl c, fun _ => ?_⟩
    have hP := h x y z u A a l w (g 90)
    rw [if_neg hL, va_id (f := va_up (va_up (va_up (va_up g 86 A) 87 a) 88 l) 89 w) (k := 90) (by rw [va_ne (by decide), va_ne (by decide), va_ne (by decide), va_ne (by decide)])] at hP
    exact hP
