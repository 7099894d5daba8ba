/-! the reference reads a text: what it finds bad, where it stands -/
def E00 : pE := fun _ => 0
/-- but for 4755, 4756, 4757 the same -/
def sm (f' f : Nat → Int32) : Prop := ∀ a, a ≠ 4755 → a ≠ 4756 → a ≠ 4757 → f' a = f a
theorem sm.r (f : Nat → Int32) : sm f f := fun _ _ _ _ => rfl
theorem sm.u5 {f' f : Nat → Int32} (h : sm f' f) {x : Int32} : sm (va_up f' 4755 x) f := fun a h1 h2 h3 => (va_ne h1).trans (h a h1 h2 h3)
theorem sm.u6 {f' f : Nat → Int32} (h : sm f' f) {x : Int32} : sm (va_up f' 4756 x) f := fun a h1 h2 h3 => (va_ne h2).trans (h a h1 h2 h3)
theorem sm.u7 {f' f : Nat → Int32} (h : sm f' f) {x : Int32} : sm (va_up f' 4757 x) f := fun a h1 h2 h3 => (va_ne h3).trans (h a h1 h2 h3)
/-- once something is bad, a call does nothing -/
theorem fl_157 {X : mm_X} {d : Nat} {f : Nat → Int32} {fl : Nat → Int64} {g : Nat → Nat → Int32} {gl : Nat → Nat → Int64} {hh : Nat → Nat → Option Nat} {v : Nat → Value} {tx : mm_W} {P : Option Value → mm_W → Prop} {c : Int32} (hq : ¬ f 4757 = -1) (h : P (some (.int 0)) (Wd f fl g gl hh v tx)) : WP X (d + 1) 157 (0, [some (.ref 74), some (.int c), none], [], Wd f fl g gl hh v tx) P :=
  b_m_takes0_0 (h := ⟨fun _ => h, fun c => absurd c hq⟩) ..
theorem fl_158 {X : mm_X} {d : Nat} {f : Nat → Int32} {fl : Nat → Int64} {g : Nat → Nat → Int32} {gl : Nat → Nat → Int64} {hh : Nat → Nat → Option Nat} {v : Nat → Value} {tx : mm_W} {P : Option Value → mm_W → Prop} {c : Int32} (hq : ¬ f 4757 = -1) (h : P none (Wd f fl g gl hh v tx)) : WP X (d + 2) 158 (0, [some (.ref 74), some (.int c)], [], Wd f fl g gl hh v tx) P :=
  b_m_must_0 (h := fl_157 hq (b_m_must_5 (h := ⟨fun c => absurd rfl c, fun _ => ⟨fun _ => h, fun c => absurd c hq⟩⟩) ..)) ..
theorem fl_170 {X : mm_X} {d : Nat} {f : Nat → Int32} {fl : Nat → Int64} {g : Nat → Nat → Int32} {gl : Nat → Nat → Int64} {hh : Nat → Nat → Option Nat} {v : Nat → Value} {tx : mm_W} {P : Option Value → mm_W → Prop} {c : Int32} (hq : ¬ f 4757 = -1) (h : P none (Wd f fl g gl hh v tx)) : WP X (d + 2) 170 (0, [some (.ref 74), some (.int c), none], [], Wd f fl g gl hh v tx) P :=
  b_m_readPart_0 (h := ⟨fun _ => h, fun c => absurd c hq⟩) ..
theorem fl_169a {X : mm_X} {d : Nat} {f : Nat → Int32} {fl : Nat → Int64} {g : Nat → Nat → Int32} {gl : Nat → Nat → Int64} {hh : Nat → Nat → Option Nat} {v : Nat → Value} {tx : mm_W} {P : Option Value → mm_W → Prop} {c : Int32} (hq : ¬ f 4757 = -1) (h : P none (Wd f fl g gl hh v tx)) : WP X (d + 3) 169 (5, [some (.ref 74), some (.int c)], [], Wd f fl g gl hh v tx) P :=
  b_m_readTerm_5 (h := fl_157 hq (b_m_readTerm_14 (h := ⟨fun c => absurd rfl c, fun _ => fl_157 hq (b_m_readTerm_26 (h := ⟨fun c => absurd rfl c, fun _ => fl_157 hq (b_m_readTerm_38 (h := ⟨fun _ => h, fun c => absurd rfl c⟩) ..)⟩) ..)⟩) ..)) ..
theorem fl_169 {X : mm_X} {d : Nat} {f : Nat → Int32} {fl : Nat → Int64} {g : Nat → Nat → Int32} {gl : Nat → Nat → Int64} {hh : Nat → Nat → Option Nat} {v : Nat → Value} {tx : mm_W} {P : Option Value → mm_W → Prop} {c : Int32} (hq : ¬ f 4757 = -1) (h : P none (Wd f fl g gl hh v tx)) : WP X (d + 3) 169 (0, [some (.ref 74), some (.int c)], [], Wd f fl g gl hh v tx) P :=
  b_m_readTerm_0 (h := fl_170 hq (fl_169a hq h)) ..
theorem fl_168a {X : mm_X} {d : Nat} {f : Nat → Int32} {fl : Nat → Int64} {g : Nat → Nat → Int32} {gl : Nat → Nat → Int64} {hh : Nat → Nat → Option Nat} {v : Nat → Value} {tx : mm_W} {P : Option Value → mm_W → Prop} {c : Int32} (hq : ¬ f 4757 = -1) (h : P none (Wd f fl g gl hh v tx)) : WP X (d + 4) 168 (5, [some (.ref 74), some (.int c)], [], Wd f fl g gl hh v tx) P :=
  b_m_readSum_5 (h := fl_157 hq (b_m_readSum_14 (h := ⟨fun c => absurd rfl c, fun _ => fl_157 hq (b_m_readSum_26 (h := ⟨fun _ => h, fun c => absurd rfl c⟩) ..)⟩) ..)) ..
theorem fl_168 {X : mm_X} {d : Nat} {f : Nat → Int32} {fl : Nat → Int64} {g : Nat → Nat → Int32} {gl : Nat → Nat → Int64} {hh : Nat → Nat → Option Nat} {v : Nat → Value} {tx : mm_W} {P : Option Value → mm_W → Prop} {c : Int32} (hq : ¬ f 4757 = -1) (h : P none (Wd f fl g gl hh v tx)) : WP X (d + 4) 168 (0, [some (.ref 74), some (.int c)], [], Wd f fl g gl hh v tx) P :=
  b_m_readSum_0 (h := fl_169 hq (fl_168a hq h)) ..
theorem fl_167 {X : mm_X} {d : Nat} {f : Nat → Int32} {fl : Nat → Int64} {g : Nat → Nat → Int32} {gl : Nat → Nat → Int64} {hh : Nat → Nat → Option Nat} {v : Nat → Value} {tx : mm_W} {P : Option Value → mm_W → Prop} {c : Int32} (hq : ¬ f 4757 = -1) (h : P none (Wd f fl g gl hh v tx)) : WP X (d + 2) 167 (2, [some (.ref 74), some (.int c), some (.int 1), none], [], Wd f fl g gl hh v tx) P :=
  b_m_readPlain_2 (h := ⟨fun c => absurd c (by decide), fun _ => fl_157 hq (b_m_readPlain_12 (h := b_m_readPlain_2 (h := ⟨fun _ => ⟨fun _ => h, fun c => absurd c hq⟩, fun c => absurd rfl c⟩) ..) ..)⟩) ..
theorem fl_166a {X : mm_X} {d : Nat} {f : Nat → Int32} {fl : Nat → Int64} {g : Nat → Nat → Int32} {gl : Nat → Nat → Int64} {hh : Nat → Nat → Option Nat} {v : Nat → Value} {tx : mm_W} {P : Option Value → mm_W → Prop} {c : Int32} (hq : ¬ f 4757 = -1) (h : P none (Wd f fl g gl hh v tx)) : WP X (d + 3) 166 (5, [some (.ref 74), some (.int c)], [], Wd f fl g gl hh v tx) P :=
  b_m_readBoth_5 (h := fl_157 hq (b_m_readBoth_11 (h := ⟨fun _ => h, fun c => absurd rfl c⟩) ..)) ..
theorem fl_166 {X : mm_X} {d : Nat} {f : Nat → Int32} {fl : Nat → Int64} {g : Nat → Nat → Int32} {gl : Nat → Nat → Int64} {hh : Nat → Nat → Option Nat} {v : Nat → Value} {tx : mm_W} {P : Option Value → mm_W → Prop} {c : Int32} (hq : ¬ f 4757 = -1) (h : P none (Wd f fl g gl hh v tx)) : WP X (d + 3) 166 (0, [some (.ref 74), some (.int c)], [], Wd f fl g gl hh v tx) P :=
  b_m_readBoth_0 (h := b_m_readPlain_0 (h := fl_167 hq (fl_166a hq h)) ..) ..
theorem fl_165a {X : mm_X} {d : Nat} {f : Nat → Int32} {fl : Nat → Int64} {g : Nat → Nat → Int32} {gl : Nat → Nat → Int64} {hh : Nat → Nat → Option Nat} {v : Nat → Value} {tx : mm_W} {P : Option Value → mm_W → Prop} {c : Int32} (hq : ¬ f 4757 = -1) (h : P none (Wd f fl g gl hh v tx)) : WP X (d + 4) 165 (5, [some (.ref 74), some (.int c)], [], Wd f fl g gl hh v tx) P :=
  b_m_readTest_5 (h := fl_157 hq (b_m_readTest_10 (h := ⟨fun _ => h, fun c => absurd rfl c⟩) ..)) ..
theorem fl_165 {X : mm_X} {d : Nat} {f : Nat → Int32} {fl : Nat → Int64} {g : Nat → Nat → Int32} {gl : Nat → Nat → Int64} {hh : Nat → Nat → Option Nat} {v : Nat → Value} {tx : mm_W} {P : Option Value → mm_W → Prop} {c : Int32} (hq : ¬ f 4757 = -1) (h : P none (Wd f fl g gl hh v tx)) : WP X (d + 4) 165 (0, [some (.ref 74), some (.int c)], [], Wd f fl g gl hh v tx) P :=
  b_m_readTest_0 (h := fl_166 hq (fl_165a hq h)) ..
/-- the tokens lie there -/
def TK (g : Nat → Nat → Int32) (c u S : Nat → Nat) (N : Nat) : Prop := N ≤ 400 ∧ (∀ k, k ≤ N → g 83 k = iI (c k : Int) ∧ g 84 k = iI (u k : Int) ∧ g 85 k = iI (S k : Int)) ∧ (∀ k, c k < 1000) ∧ (∀ k, u k < 2147483648) ∧ (∀ k, S k ≤ 400) ∧ ∀ k, N ≤ k → c k = 0
theorem TK.n4 {g : Nat → Nat → Int32} {c u S : Nat → Nat} {N : Nat} (h : TK g c u S N) : N ≤ 400 := h.1
theorem TK.at_ {g : Nat → Nat → Int32} {c u S : Nat → Nat} {N : Nat} (h : TK g c u S N) : ∀ k, k ≤ N → g 83 k = iI (c k : Int) ∧ g 84 k = iI (u k : Int) ∧ g 85 k = iI (S k : Int) := h.2.1
theorem TK.cb {g : Nat → Nat → Int32} {c u S : Nat → Nat} {N : Nat} (h : TK g c u S N) : ∀ k, c k < 1000 := h.2.2.1
theorem TK.vb {g : Nat → Nat → Int32} {c u S : Nat → Nat} {N : Nat} (h : TK g c u S N) : ∀ k, u k < 2147483648 := h.2.2.2.1
theorem TK.Sb {g : Nat → Nat → Int32} {c u S : Nat → Nat} {N : Nat} (h : TK g c u S N) : ∀ k, S k ≤ 400 := h.2.2.2.2.1
theorem TK.c0 {g : Nat → Nat → Int32} {c u S : Nat → Nat} {N : Nat} (h : TK g c u S N) : ∀ k, N ≤ k → c k = 0 := h.2.2.2.2.2
theorem TK.i {g : Nat → Nat → Int32} {c u S : Nat → Nat} {N : Nat} (h : TK g c u S N) {i : Nat} (hi : i ≤ N) : (¬ (iI (i : Int) < 0 ∨ 401 ≤ i)) ∧ (iI (i : Int)).toNatClampNeg = i := by
  have := h.n4
  exact ⟨by simp (disch := omega) only [z_lit, z_litl, z_neg, z_negl, z_add, z_sub, z_mul, z_addl, z_subl, z_mull, z_cc, z_cl, z_cr, z_cm, z_cml, z_cmr, z_lt, z_le, z_eq, z_ltl, z_lel, z_eql, z_nat, z_i2l, z_l2i, z_div, z_sh, Int.toNat_natCast, z_ts, z_tsl]; omega, by rw [z_nat (by omega)]; omega⟩
theorem TK.q {g : Nat → Nat → Int32} {c u S : Nat → Nat} {N : Nat} (h : TK g c u S N) (k : Nat) : ¬ iI (S k : Int) = (-1 : Int32) := by
  have := h.Sb k
  intro e
  have e : iI (S k : Int) = iI (-1) := e
  rw [z_eq (by omega) (by omega)] at e
  omega
theorem TK.s {g : Nat → Nat → Int32} {c u S : Nat → Nat} {N : Nat} (h : TK g c u S N) {k : Nat} (hk : c k ≠ 0) : k < N := by
  by_cases e : N ≤ k
  · exact absurd (h.c0 k e) hk
  · omega
theorem TK.e {g : Nat → Nat → Int32} {c u S : Nat → Nat} {N : Nat} (h : TK g c u S N) {k w : Nat} (hk : k ≤ N) (hw : w < 1000) : (g 83 k = iI (w : Int)) = (c k = w) := by
  have := h.cb k
  rw [(h.at_ k hk).1, z_eq (by omega) (by omega)]
  exact propext ⟨fun a => by omega, fun a => by omega⟩
/-- the next token is taken, if it is this one -/
theorem tk_157 {X : mm_X} {d : Nat} {f : Nat → Int32} {fl : Nat → Int64} {g : Nat → Nat → Int32} {gl : Nat → Nat → Int64} {hh : Nat → Nat → Option Nat} {v : Nat → Value} {tx : mm_W} {P : Option Value → mm_W → Prop} {c u S : Nat → Nat} {N i w : Nat} (hT : TK g c u S N) (hi : i ≤ N) (h5 : f 4755 = iI (i : Int)) (h7 : f 4757 = -1) (hw : w < 1000) (h1 : c i = w → P (some (.int 1)) (Wd (va_up f 4755 (iI ((i + 1 : Nat) : Int))) fl g gl hh v tx)) (h0 : c i ≠ w → P (some (.int 0)) (Wd f fl g gl hh v tx)) : WP X (d + 1) 157 (0, [some (.ref 74), some (.int (iI (w : Int))), none], [], Wd f fl g gl hh v tx) P := by
  refine b_m_takes0_0 (h := ?_) ..
  rw [h5, (hT.i hi).2, hT.e hi hw, show iI (i : Int) + (1 : Int32) = iI ((i + 1 : Nat) : Int) by rw [show (1 : Int32) = iI 1 from rfl, z_add]; rfl]
  exact ⟨fun c => absurd h7 c, fun _ => ⟨(hT.i hi).1, fun c => h0 c, fun c => h1 c⟩⟩
/-- it must be this one -/
theorem tk_158 {X : mm_X} {d : Nat} {f : Nat → Int32} {fl : Nat → Int64} {g : Nat → Nat → Int32} {gl : Nat → Nat → Int64} {hh : Nat → Nat → Option Nat} {v : Nat → Value} {tx : mm_W} {P : Option Value → mm_W → Prop} {c u S : Nat → Nat} {N i w : Nat} (hT : TK g c u S N) (hi : i ≤ N) (h5 : f 4755 = iI (i : Int)) (h7 : f 4757 = -1) (hw : w < 1000) (h1 : c i = w → P none (Wd (va_up f 4755 (iI ((i + 1 : Nat) : Int))) fl g gl hh v tx)) (h0 : c i ≠ w → P none (Wd (va_up f 4757 (iI (S i : Int))) fl g gl hh v tx)) : WP X (d + 2) 158 (0, [some (.ref 74), some (.int (iI (w : Int)))], [], Wd f fl g gl hh v tx) P := by
  refine b_m_must_0 (h := ?_) ..
  refine tk_157 hT hi h5 h7 hw (fun e => ?_) fun e => ?_
  · exact b_m_must_5 (h := ⟨fun _ => h1 e, fun c => absurd c (by decide)⟩) ..
  · refine b_m_must_5 (h := ?_) ..
    rw [h5, (hT.i hi).2, (hT.at_ i hi).2.2]
    exact ⟨fun c => absurd rfl c, fun _ => ⟨fun c => absurd h7 c, fun _ => ⟨(hT.i hi).1, h0 e⟩⟩⟩
theorem fl_161 {X : mm_X} {d : Nat} {f : Nat → Int32} {fl : Nat → Int64} {g : Nat → Nat → Int32} {gl : Nat → Nat → Int64} {hh : Nat → Nat → Option Nat} {v : Nat → Value} {tx : mm_W} {P : Option Value → mm_W → Prop} {c1 c2 : Int32} (hq : ¬ f 4757 = -1) (h : P none (Wd f fl g gl hh v tx)) : WP X (d + 2) 161 (0, [some (.ref 74), some (.int c1), some (.int c2)], [], Wd f fl g gl hh v tx) P :=
  b_m_mustNumber_0 (h := ⟨fun _ => b_m_mustNumber_42 (h := ⟨fun _ => h, fun c => absurd c hq⟩) .., fun c => absurd c hq⟩) ..
theorem tk_161 {X : mm_X} {d : Nat} {f : Nat → Int32} {fl : Nat → Int64} {g : Nat → Nat → Int32} {gl : Nat → Nat → Int64} {hh : Nat → Nat → Option Nat} {v : Nat → Value} {tx : mm_W} {P : Option Value → mm_W → Prop} {c u S : Nat → Nat} {N i lo hi : Nat} (hT : TK g c u S N) (hiN : i ≤ N) (h5 : f 4755 = iI (i : Int)) (h7 : f 4757 = -1) (hl : lo < 2147483648 ∧ hi < 2147483648) (h1 : c i = 50 ∧ lo ≤ u i ∧ u i ≤ hi → P none (Wd (va_up f 4755 (iI ((i + 1 : Nat) : Int))) fl g gl hh v tx)) (h0 : ¬ (c i = 50 ∧ lo ≤ u i ∧ u i ≤ hi) → P none (Wd (va_up f 4757 (iI (S i : Int))) fl g gl hh v tx)) : WP X (d + 2) 161 (0, [some (.ref 74), some (.int (iI (lo : Int))), some (.int (iI (hi : Int)))], [], Wd f fl g gl hh v tx) P := by
  have e50 : (g 83 i = (50 : Int32)) = (c i = 50) := hT.e hiN (w := 50) (by decide)
  have hv := hT.vb i
  have i1 : iI (i : Int) + (1 : Int32) = iI ((i + 1 : Nat) : Int) := by rw [show (1 : Int32) = iI 1 from rfl, z_add]; rfl
  have bad : ¬ (c i = 50 ∧ lo ≤ u i ∧ u i ≤ hi) → WP X (d + 2) 161 (38, [some (.ref 74), none, none], [], Wd f fl g gl hh v tx) P := by
    intro hn
    refine b_m_mustNumber_38 (h := ?_) ..
    rw [h5, (hT.i hiN).2, (hT.at_ i hiN).2.2]
    exact ⟨fun c => absurd h7 c, fun _ => ⟨(hT.i hiN).1, b_m_mustNumber_42 (h := ⟨fun _ => h0 hn, fun c => absurd (va_s.symm.trans c) (hT.q i)⟩) ..⟩⟩
  refine b_m_mustNumber_0 (h := ?_) ..
  rw [h5, (hT.i hiN).2, e50, (hT.at_ i hiN).2.1]
  refine ⟨fun c => absurd h7 c, fun _ => ⟨(hT.i hiN).1, fun c => bad fun a => c a.1, fun c5 => ⟨(hT.i hiN).1, fun c => ?_, fun c => bad fun a => c ?_⟩⟩⟩
  · refine b_m_mustNumber_42 (h := ?_) ..
    rw [h5, i1]
    simp (disch := omega) only [z_lit, z_litl, z_neg, z_negl, z_add, z_sub, z_mul, z_addl, z_subl, z_mull, z_cc, z_cl, z_cr, z_cm, z_cml, z_cmr, z_lt, z_le, z_eq, z_ltl, z_lel, z_eql, z_nat, z_i2l, z_l2i, z_div, z_sh, Int.toNat_natCast, z_ts, z_tsl] at c
    exact ⟨fun c => absurd h7 c, fun _ => h1 ⟨c5, by omega⟩⟩
  · simp (disch := omega) only [z_lit, z_litl, z_neg, z_negl, z_add, z_sub, z_mul, z_addl, z_subl, z_mull, z_cc, z_cl, z_cr, z_cm, z_cml, z_cmr, z_lt, z_le, z_eq, z_ltl, z_lel, z_eql, z_nat, z_i2l, z_l2i, z_div, z_sh, Int.toNat_natCast, z_ts, z_tsl]
    omega
theorem tk_leaf {X : mm_X} {d : Nat} {f : Nat → Int32} {fl : Nat → Int64} {g : Nat → Nat → Int32} {gl : Nat → Nat → Int64} {hh : Nat → Nat → Option Nat} {v : Nat → Value} {tx : mm_W} {P : Option Value → mm_W → Prop} {c u S : Nat → Nat} {N i p : Nat} (hT : TK g c u S N) (hiN : i ≤ N) (hp : p ≤ 50) (h5 : f 4755 = iI (i : Int)) (h6 : f 4756 = iI (p : Int)) (h7 : f 4757 = -1) (h50 : p = 50 → P none (Wd (va_up (va_up f 4757 (iI (S i : Int))) 4756 (iI ((p + 1 : Nat) : Int))) fl g gl hh v tx)) (h0 : p ≠ 50 → P none (Wd (va_up (va_up f 4756 (iI ((p + 1 : Nat) : Int))) 4755 (iI ((i + 1 : Nat) : Int))) fl g gl hh v tx)) : WP X (d + 2) 159 (0, [some (.ref 74)], [], Wd f fl g gl hh v tx) P := by
  have i1 : ∀ i : Nat, iI (i : Int) + (1 : Int32) = iI ((i + 1 : Nat) : Int) := fun i => by rw [show (1 : Int32) = iI 1 from rfl, z_add]; rfl
  refine b_m_leaf_0 (h := ?_) ..
  rw [h5, h6, (hT.i hiN).2, (hT.at_ i hiN).2.2, i1, i1]
  refine ⟨fun c => ⟨fun c2 => absurd h7 c2, fun _ => h0 fun e => c (by rw [e]; rfl)⟩, fun c => ⟨fun c2 => absurd h7 c2, fun _ => ⟨(hT.i hiN).1, fun _ => h50 ?_, fun c2 => absurd c2 (hT.q i)⟩⟩⟩
  have c : iI (p : Int) = iI 50 := c
  rw [z_eq (by omega) (by omega)] at c
  omega
/-- the languages' words -/
def lgl (sec : Bool) : Nat := if sec = true then 13 else 8
def lgh (sec : Bool) : Nat := if sec = true then 19 else 15
def LG (f : Nat → Int32) (sec : Bool) : Prop := f 4746 = (if sec = true then 1 else 0) ∧ f 4744 = iI (lgl sec : Nat) ∧ f 4745 = iI (lgh sec : Nat)
theorem pw_no {sec : Bool} {x : Nat} (h : x < lgl sec ∨ lgh sec < x) : p_word sec x = none := by
  cases hw : p_word sec x with
  | none => rfl
  | some w =>
    cases sec with
    | false =>
      have := p_word_v hw
      have h : x < 8 ∨ 15 < x := h
      omega
    | true =>
      have := p_word_v2 hw
      have h : x < 13 ∨ 19 < x := h
      omega
theorem pw_yes {sec : Bool} {x : Nat} (h1 : lgl sec ≤ x) (h2 : x ≤ lgh sec) : ∃ w, p_word sec x = some w ∧ (sec = true → (5 ≤ w ↔ (x = 13 ∨ x = 14))) := by
  cases sec with
  | false =>
    have h1 : 8 ≤ x := h1
    have h2 : x ≤ 15 := h2
    have : ∀ y, y < 16 → 8 ≤ y → (p_word false y).isSome = true := by decide
    obtain ⟨w, hw⟩ := Option.isSome_iff_exists.mp (this x (by omega) h1)
    exact ⟨w, hw, fun c => absurd c (by decide)⟩
  | true =>
    have h1 : 13 ≤ x := h1
    have h2 : x ≤ 19 := h2
    have : ∀ y, y < 20 → 13 ≤ y → (p_word true y).isSome = true := by decide
    obtain ⟨w, hw⟩ := Option.isSome_iff_exists.mp (this x (by omega) h1)
    have := p_word_v2 hw
    exact ⟨w, hw, fun _ => by omega⟩
/-- what a reading comes to -/
def RR (f0 : Nat → Int32) (fl : Nat → Int64) (g : Nat → Nat → Int32) (gl : Nat → Nat → Int64) (hh : Nat → Nat → Option Nat) (v : Nat → Value) (tx : mm_W) (S : Nat → Nat) (P : Option Value → mm_W → Prop) (r : pR) : Prop := (∀ j p C e, r = some (.inr (j, p, C, e)) → ∀ f', sm f' f0 → f' 4755 = iI (j : Int) → f' 4756 = iI (p : Int) → f' 4757 = -1 → P none (Wd f' fl g gl hh v tx)) ∧ (∀ k, r = some (.inl k) → ∀ f', sm f' f0 → f' 4757 = iI (S k : Int) → P none (Wd f' fl g gl hh v tx))
def RDg (X : mm_X) (fl : Nat → Int64) (g : Nat → Nat → Int32) (gl : Nat → Nat → Int64) (hh : Nat → Nat → Option Nat) (v : Nat → Value) (tx : mm_W) (mode deep K : Nat) (f : Nat → Int32) (P : Option Value → mm_W → Prop) : Prop := match mode with
  | 0 => WP X (K + 4) 170 (0, [some (.ref 74), some (.int (iI (deep : Int))), none], [], Wd f fl g gl hh v tx) P
  | 1 => WP X (K + 5) 169 (0, [some (.ref 74), some (.int (iI (deep : Int)))], [], Wd f fl g gl hh v tx) P
  | 2 => WP X (K + 6) 168 (0, [some (.ref 74), some (.int (iI (deep : Int)))], [], Wd f fl g gl hh v tx) P
  | 3 => WP X (K + 8) 167 (2, [some (.ref 74), some (.int (iI (deep : Int))), some (.int 1), none], [], Wd f fl g gl hh v tx) P
  | 4 => WP X (K + 9) 166 (0, [some (.ref 74), some (.int (iI (deep : Int)))], [], Wd f fl g gl hh v tx) P
  | 5 => WP X (K + 10) 165 (0, [some (.ref 74), some (.int (iI (deep : Int)))], [], Wd f fl g gl hh v tx) P
  | 6 => WP X (K + 5) 169 (5, [some (.ref 74), some (.int (iI (deep : Int)))], [], Wd f fl g gl hh v tx) P
  | 7 => WP X (K + 6) 168 (5, [some (.ref 74), some (.int (iI (deep : Int)))], [], Wd f fl g gl hh v tx) P
  | 8 => WP X (K + 9) 166 (5, [some (.ref 74), some (.int (iI (deep : Int)))], [], Wd f fl g gl hh v tx) P
  | _ => WP X (K + 10) 165 (5, [some (.ref 74), some (.int (iI (deep : Int)))], [], Wd f fl g gl hh v tx) P
def RDn (X : mm_X) (f0 : Nat → Int32) (fl : Nat → Int64) (g : Nat → Nat → Int32) (gl : Nat → Nat → Int64) (hh : Nat → Nat → Option Nat) (v : Nat → Value) (tx : mm_W) (c u S : Nat → Nat) (sec : Bool) (N n : Nat) : Prop := ∀ (mode deep i p o t : Nat) (C : List Nat) (e : pE → Option Int) (K : Nat) (f : Nat → Int32) (P : Option Value → mm_W → Prop), mode ≤ 9 → t ≤ 1 → deep ≤ 8 → i ≤ N → p ≤ 50 → 8 * (8 - deep) ≤ K → (6 ≤ mode → p_rg mode (e E00)) → pP c u sec n mode deep i p o t C e ≠ none → sm f f0 → f 4755 = iI (i : Int) → f 4756 = iI (p : Int) → f 4757 = -1 → RR f0 fl g gl hh v tx S P (pP c u sec n mode deep i p o t C e) → RDg X fl g gl hh v tx mode deep K f P
