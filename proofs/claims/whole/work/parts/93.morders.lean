/-! the reference runs orders -/
theorem c_m_aside1 {X : mm_X} {d : Nat} {f : Nat → Int32} {fl : Nat → Int64} {g : Nat → Nat → Int32} {gl : Nat → Nat → Int64} {hh : Nat → Nat → Option Nat} {v : Nat → Value} {tx : mm_W} {P : Option Value → mm_W → Prop} (h : ∀ a : Nat → Int32, (∀ i, i < 23 → a (23 + i) = g 76 i) → P none (Wd f fl (va_up g 79 a) gl hh v tx)) : WP X d 125 (0, [some (.ref 74), some (.int 1), none], [], Wd f fl g gl hh v tx) P := by
  refine b_m_laysAside_0 (h := ?_) ..
  have loop : ∀ i, i ≤ 23 → ∀ a : Nat → Int32, (∀ x, x < i → a (23 + x) = g 76 x) → WP X d 125 (2, [some (.ref 74), some (.int 1), some (.int (iI i))], [], Wd f fl (va_up g 79 a) gl hh v tx) P := by
    apply k_up (Q := fun i => ∀ a : Nat → Int32, (∀ x, x < i → a (23 + x) = g 76 x) → WP X d 125 (2, [some (.ref 74), some (.int 1), some (.int (iI i))], [], Wd f fl (va_up g 79 a) gl hh v tx) P)
    · intro a h1
      refine b_m_laysAside_2 (h := ?_) ..
      exact ⟨fun _ => h a h1, fun c => absurd (Int32.le_refl _) c⟩
    · intro i hi ih a h1
      refine b_m_laysAside_2 (h := ?_) ..
      have k1 : ((23 : Int32) * (1 : Int32) + iI (i : Int)).toNatClampNeg = 23 + i := by simp (disch := omega) only [z_lit, z_litl, z_neg, z_negl, z_add, z_sub, z_mul, z_addl, z_subl, z_mull, z_cc, z_cl, z_cr, z_cm, z_cml, z_cmr, z_lt, z_le, z_eq, z_ltl, z_lel, z_eql, z_nat, z_i2l, z_l2i, z_div, z_sh, Int.toNat_natCast, z_ts, z_tsl]; omega
      have k2 : (iI (i : Int)).toNatClampNeg = i := by rw [z_nat (by omega)]; omega
      rw [k1, k2, i1N, va_tw, va_s, va_ne (by decide)]
      refine ⟨fun c => by simp (disch := omega) only [z_lit, z_litl, z_neg, z_negl, z_add, z_sub, z_mul, z_addl, z_subl, z_mull, z_cc, z_cl, z_cr, z_cm, z_cml, z_cmr, z_lt, z_le, z_eq, z_ltl, z_lel, z_eql, z_nat, z_i2l, z_l2i, z_div, z_sh, Int.toNat_natCast, z_ts, z_tsl] at c; omega, fun _ => ⟨by simp (disch := omega) only [z_lit, z_litl, z_neg, z_negl, z_add, z_sub, z_mul, z_addl, z_subl, z_mull, z_cc, z_cl, z_cr, z_cm, z_cml, z_cmr, z_lt, z_le, z_eq, z_ltl, z_lel, z_eql, z_nat, z_i2l, z_l2i, z_div, z_sh, Int.toNat_natCast, z_ts, z_tsl]; omega, by simp (disch := omega) only [z_lit, z_litl, z_neg, z_negl, z_add, z_sub, z_mul, z_addl, z_subl, z_mull, z_cc, z_cl, z_cr, z_cm, z_cml, z_cmr, z_lt, z_le, z_eq, z_ltl, z_lel, z_eql, z_nat, z_i2l, z_l2i, z_div, z_sh, Int.toNat_natCast, z_ts, z_tsl]; omega, ?_⟩⟩
      refine ih _ (fun x hx => ?_)
      by_cases e : x = i
      · rw [e, upd_s]
      · rw [upd_ne (by omega)]; exact h1 x (by omega)
  have := loop 0 (by omega) (g 79) fun x hx => absurd hx (Nat.not_lt_zero x)
  rw [va_id (f := g) rfl] at this
  exact this
theorem c_m_takeBack1 {X : mm_X} {d : Nat} {f : Nat → Int32} {fl : Nat → Int64} {g : Nat → Nat → Int32} {gl : Nat → Nat → Int64} {hh : Nat → Nat → Option Nat} {v : Nat → Value} {tx : mm_W} {P : Option Value → mm_W → Prop} (h : ∀ a : Nat → Int32, (∀ i, i < 23 → a i = g 79 (23 + i)) → (∀ i, 23 ≤ i → a i = g 76 i) → P none (Wd f fl (va_up g 76 a) gl hh v tx)) : WP X d 126 (0, [some (.ref 74), some (.int 1), none], [], Wd f fl g gl hh v tx) P := by
  refine b_m_takesBack_0 (h := ?_) ..
  have loop : ∀ i, i ≤ 23 → ∀ a : Nat → Int32, (∀ x, x < i → a x = g 79 (23 + x)) → (∀ x, 23 ≤ x → a x = g 76 x) → WP X d 126 (2, [some (.ref 74), some (.int 1), some (.int (iI i))], [], Wd f fl (va_up g 76 a) gl hh v tx) P := by
    apply k_up (Q := fun i => ∀ a : Nat → Int32, (∀ x, x < i → a x = g 79 (23 + x)) → (∀ x, 23 ≤ x → a x = g 76 x) → WP X d 126 (2, [some (.ref 74), some (.int 1), some (.int (iI i))], [], Wd f fl (va_up g 76 a) gl hh v tx) P)
    · intro a h1 h2
      refine b_m_takesBack_2 (h := ?_) ..
      exact ⟨fun _ => h a h1 h2, fun c => absurd (Int32.le_refl _) c⟩
    · intro i hi ih a h1 h2
      refine b_m_takesBack_2 (h := ?_) ..
      have k1 : ((23 : Int32) * (1 : Int32) + iI (i : Int)).toNatClampNeg = 23 + i := by simp (disch := omega) only [z_lit, z_litl, z_neg, z_negl, z_add, z_sub, z_mul, z_addl, z_subl, z_mull, z_cc, z_cl, z_cr, z_cm, z_cml, z_cmr, z_lt, z_le, z_eq, z_ltl, z_lel, z_eql, z_nat, z_i2l, z_l2i, z_div, z_sh, Int.toNat_natCast, z_ts, z_tsl]; omega
      have k2 : (iI (i : Int)).toNatClampNeg = i := by rw [z_nat (by omega)]; omega
      rw [k1, k2, i1N, va_tw, va_s, va_ne (by decide)]
      refine ⟨fun c => by simp (disch := omega) only [z_lit, z_litl, z_neg, z_negl, z_add, z_sub, z_mul, z_addl, z_subl, z_mull, z_cc, z_cl, z_cr, z_cm, z_cml, z_cmr, z_lt, z_le, z_eq, z_ltl, z_lel, z_eql, z_nat, z_i2l, z_l2i, z_div, z_sh, Int.toNat_natCast, z_ts, z_tsl] at c; omega, fun _ => ⟨by simp (disch := omega) only [z_lit, z_litl, z_neg, z_negl, z_add, z_sub, z_mul, z_addl, z_subl, z_mull, z_cc, z_cl, z_cr, z_cm, z_cml, z_cmr, z_lt, z_le, z_eq, z_ltl, z_lel, z_eql, z_nat, z_i2l, z_l2i, z_div, z_sh, Int.toNat_natCast, z_ts, z_tsl]; omega, by simp (disch := omega) only [z_lit, z_litl, z_neg, z_negl, z_add, z_sub, z_mul, z_addl, z_subl, z_mull, z_cc, z_cl, z_cr, z_cm, z_cml, z_cmr, z_lt, z_le, z_eq, z_ltl, z_lel, z_eql, z_nat, z_i2l, z_l2i, z_div, z_sh, Int.toNat_natCast, z_ts, z_tsl]; omega, ?_⟩⟩
      refine ih _ (fun x hx => ?_) fun x hx => ?_
      · by_cases e : x = i
        · rw [e, upd_s]
        · rw [upd_ne (by omega)]; exact h1 x (by omega)
      · rw [upd_ne (by omega)]; exact h2 x hx
  have := loop 0 (by omega) (g 76) (fun x hx => absurd hx (Nat.not_lt_zero x)) fun x _ => rfl
  rw [va_id (f := g) rfl] at this
  exact this
/-! evaluating: a world told by what it holds -/
def fE (F' F : Nat → Int32) : Prop := ∀ a, a ≠ 4758 → a ≠ 4760 → F' a = F a
def gE (G' G : Nat → Nat → Int32) : Prop := ∀ a, a ≠ 87 → G' a = G a
theorem wE {f : Nat → Int32} {fl : Nat → Int64} {g : Nat → Nat → Int32} {gl : Nat → Nat → Int64} {hh : Nat → Nat → Option Nat} {v : Nat → Value} {tx : mm_W} {t i b : Nat} (h58 : f 4758 = iI ((400 * t + i : Nat) : Int)) (h60 : f 4760 = iI (b : Int)) : (Wd (va_up (va_up f 4758 (iI ((400 * t + (i) : Nat) : Int))) 4760 (iI ((b : Nat) : Int))) fl (va_up g 87 (g 87)) gl hh v tx) = Wd f fl g gl hh v tx := by
  rw [← h58, va_id (f := f) rfl, va_id h60, va_id rfl]
theorem ev_cod {X : mm_X} {d : Nat} {f : Nat → Int32} {fl : Nat → Int64} {g : Nat → Nat → Int32} {gl : Nat → Nat → Int64} {hh : Nat → Nat → Option Nat} {v : Nat → Value} {tx : mm_W} {P : Option Value → mm_W → Prop} {κ : Nat → Nat} {t : Nat} {E : pE} (hH : evH true f g κ t E) {i : Nat} (h58 : f 4758 = iI ((400 * t + i : Nat) : Int)) (hi : i ≤ κ (60 + t)) (h : P (some (.int (iI (tkC κ t i)))) (Wd f fl g gl hh v tx)) : WP X d 178 (0, [some (.ref 74), some (.int (iI ((400 * t + i : Nat) : Int)))], [], Wd f fl g gl hh v tx) P := by
  obtain ⟨b, hb⟩ := z_nex (f 4760)
  have e := wE (f := f) (fl := fl) (g := g) (gl := gl) (hh := hh) (v := v) (tx := tx) h58 hb
  have := ev_code (X := X) (d := d) (fl := fl) (gl := gl) (hh := hh) (v := v) (tx := tx) (P := P) hH (i := i) (bk := b) (a := g 87) hi (by rw [e]; exact h)
  rw [e] at this
  exact this
theorem fE_of {f : Nat → Int32} {x y : Int32} : fE (va_up (va_up f 4758 x) 4760 y) f := fun a h1 h2 => by rw [va_ne h2, va_ne h1]
theorem gE_of {g : Nat → Nat → Int32} {a : Nat → Int32} : gE (va_up g 87 a) g := fun b h => va_ne h
theorem ev_pas {X : mm_X} {d : Nat} {f : Nat → Int32} {fl : Nat → Int64} {g : Nat → Nat → Int32} {gl : Nat → Nat → Int64} {hh : Nat → Nat → Option Nat} {v : Nat → Value} {tx : mm_W} {P : Option Value → mm_W → Prop} {κ : Nat → Nat} {t : Nat} {E : pE} (hH : evH true f g κ t E) {i cc : Nat} (h58 : f 4758 = iI ((400 * t + i : Nat) : Int)) (hi : i ≤ κ (60 + t)) (hcc : cc < 2147483648)
    (h1 : tkC κ t i = cc → ∀ f', (∀ a, a ≠ 4758 → f' a = f a) → f' 4758 = iI ((400 * t + (i + 1) : Nat) : Int) → P (some (.int 1)) (Wd f' fl g gl hh v tx)) (h0 : tkC κ t i ≠ cc → P (some (.int 0)) (Wd f fl g gl hh v tx)) : WP X (d + 1) 179 (0, [some (.ref 74), some (.int (iI (cc : Int))), none], [], Wd f fl g gl hh v tx) P := by
  obtain ⟨b, hb⟩ := z_nex (f 4760)
  have e := wE (f := f) (fl := fl) (g := g) (gl := gl) (hh := hh) (v := v) (tx := tx) h58 hb
  have := ev_pass (X := X) (d := d) (fl := fl) (gl := gl) (hh := hh) (v := v) (tx := tx) (P := P) hH (i := i) (bk := b) (cc := cc) (a := g 87) hi hcc (fun hc => ?_) fun hc => by rw [e]; exact h0 hc
  · rw [e] at this
    exact this
  · rw [va_id (f := g) rfl]
    refine h1 hc _ (fun a ha => ?_) ((va_ne (by decide)).trans va_s)
    by_cases c : a = 4760
    · rw [c, va_s]; exact hb.symm
    · rw [va_ne c, va_ne ha]
theorem ev_smt {X : mm_X} {f : Nat → Int32} {fl : Nat → Int64} {g : Nat → Nat → Int32} {gl : Nat → Nat → Int64} {hh : Nat → Nat → Option Nat} {v : Nat → Value} {tx : mm_W} {P : Option Value → mm_W → Prop} {κ : Nat → Nat} {t K : Nat} {E : pE} (hH : evH true f g κ t E) {n i p o j p' lv : Nat} {C' : List Nat} {e' : pE → Option Int} (hpP : pP (tkC κ t) (tkV κ t) true n 2 0 i p o 0 [] p_e0 = some (.inr (j, p', C', e'))) (hi : i ≤ κ (60 + t)) (hp : p ≤ 50) (hlv : lv ≤ 1) (hK : 64 ≤ K) (h58 : f 4758 = iI ((400 * t + i : Nat) : Int)) (h60 : f 4760 = 0)
    (h : ∀ F' G' r b', fE F' f → gE G' g → F' 4758 = iI ((400 * t + j : Nat) : Int) → F' 4760 = iI ((b' : Nat) : Int) → SV lv 0 (e' E) r b' → P (some (.long (lI r))) (Wd F' fl G' gl hh v tx)) : WP X (K + 6) 181 (0, [some (.ref 74), some (.int (iI (lv : Int))), none, none, none, none, none], [], Wd f fl g gl hh v tx) P := by
  have e := wE (f := f) (fl := fl) (g := g) (gl := gl) (hh := hh) (v := v) (tx := tx) (b := 0) h58 h60
  have := ev_all (X := X) (fl := fl) (gl := gl) (hh := hh) (v := v) (tx := tx) hH n 2 0 i p o 0 [] p_e0 j p' C' e' hpP (by omega) (by omega) (by omega) hi hp (fun h => by omega) lv 0 (g 87) K P hlv (by omega) (by omega) fun r b' a' hS => h _ _ r b' fE_of gE_of ((va_ne (by decide)).trans va_s) va_s hS
  rw [e] at this
  exact this
theorem ev_tst {X : mm_X} {f : Nat → Int32} {fl : Nat → Int64} {g : Nat → Nat → Int32} {gl : Nat → Nat → Int64} {hh : Nat → Nat → Option Nat} {v : Nat → Value} {tx : mm_W} {P : Option Value → mm_W → Prop} {κ : Nat → Nat} {t K : Nat} {E : pE} (hH : evH true f g κ t E) {n i p o j p' lv : Nat} {C' : List Nat} {e' : pE → Option Int} (hpP : pP (tkC κ t) (tkV κ t) true n 5 0 i p o 0 [] p_e0 = some (.inr (j, p', C', e'))) (hi : i ≤ κ (60 + t)) (hp : p ≤ 50) (hlv : lv ≤ 1) (hK : 64 ≤ K) (h58 : f 4758 = iI ((400 * t + i : Nat) : Int)) (h60 : f 4760 = 0)
    (h : ∀ F' G' r b', fE F' f → gE G' g → F' 4758 = iI ((400 * t + j : Nat) : Int) → F' 4760 = iI ((b' : Nat) : Int) → TV lv 0 (e' E) r b' → P (some (.int (iI ((r : Nat) : Int)))) (Wd F' fl G' gl hh v tx)) : WP X (K + 10) 185 (0, [some (.ref 74), some (.int (iI (lv : Int))), none, none], [], Wd f fl g gl hh v tx) P := by
  have e := wE (f := f) (fl := fl) (g := g) (gl := gl) (hh := hh) (v := v) (tx := tx) (b := 0) h58 h60
  have := ev_all (X := X) (fl := fl) (gl := gl) (hh := hh) (v := v) (tx := tx) hH n 5 0 i p o 0 [] p_e0 j p' C' e' hpP (by omega) (by omega) (by omega) hi hp (fun h => by omega) lv 0 (g 87) K P hlv (by omega) (by omega) fun r b' a' hS => h _ _ r b' fE_of gE_of ((va_ne (by decide)).trans va_s) va_s hS
  rw [e] at this
  exact this
theorem evH.cg {κ : Nat → Nat} {t : Nat} {E : pE} {f f' : Nat → Int32} {g g' : Nat → Nat → Int32} (h : evH true f g κ t E) (e59 : f' 4759 = f 4759) (e61 : f' 4761 = f 4761) (e63 : f' 4763 = f 4763) (e64 : f' 4764 = f 4764) (e76 : g' 76 = g 76) : evH true f' g' κ t E := by
  obtain ⟨h1, h2, h3, h4, h5, h6, h7, h8, ⟨k1, k2, k3, k4⟩, h10⟩ := h
  exact ⟨by rw [e76]; exact h1, h2, h3, h4, h5, h6, h7, e59.trans h8, ⟨e61.trans k1, e63.trans k2, e64.trans k3, k4⟩, h10⟩
/-- but for what going along a clause changes the same -/
def fG (F' F : Nat → Int32) : Prop := ∀ a, a ≠ 4758 → a ≠ 4759 → a ≠ 4760 → a ≠ 4761 → (a < 4780 ∨ 4783 < a) → F' a = F a
theorem c_m_gooff {X : mm_X} {f : Nat → Int32} {fl : Nat → Int64} {g : Nat → Nat → Int32} {gl : Nat → Nat → Int64} {hh : Nat → Nat → Option Nat} {v : Nat → Value} {tx : mm_W} {P : Option Value → mm_W → Prop} {κ : Nat → Nat} {K : Nat} {E : pE} {n i p o j p' lv : Nat} {q : pC} (hm : ms (g 76) κ) (hw : wf κ) (h66 : κ 66 ≤ 400) (hE : evE true (va_up f 4761 1) g κ E) (hEr : ∀ w, -2147483648 ≤ E w ∧ E w < 2147483648) (hq : p_clause (tkC κ 6) (tkV κ 6) true n i p o = some (.inr (j, p', q))) (hi : i ≤ κ 66) (hp : p ≤ 50) (hlv : lv ≤ 1) (hK : 64 ≤ K) (h79 : f 4779 = iI ((2400 + i : Nat) : Int))
    (h : ∀ F' fl' G' (s : Int) (b : Nat), fG F' f → (∀ a, a ≠ 4784 → fl' a = fl a) → gE G' g → F' 4758 = iI ((2400 + j + 1 : Nat) : Int) → F' 4780 = iI (q.2.1 : Int) → F' 4781 = iI ((20 + q.1 : Nat) : Int) → fl' 4784 = lI s → (lv = 1 → (q.2.2.2.2.1 E = some s ∧ F' 4782 = 1) ∨ (q.2.2.2.2.1 E = none ∧ F' 4782 = 0) ∨ ((q.1 = 1 ∨ q.1 = 3) ∧ F' 4782 = 1)) → (lv = 1 → (q.2.2.2.2.2 E = some 1 ∧ F' 4783 = 1) ∨ (¬ q.2.2.2.2.2 E = some 1 ∧ F' 4783 = 0)) → P none (Wd F' fl' G' gl hh v tx)) :
    WP X (K + 11) 246 (0, [some (.ref 74), some (.int (iI ((2400 + κ 66 : Nat) : Int))), some (.int (iI (lv : Int)))], [], Wd f fl g gl hh v tx) P := by
  have hc0 : ∀ i, κ (60 + 6) ≤ i → tkC κ 6 i = 0 := fun i hi => tkC_0 hi
  have hsz : ∀ {k}, tkC κ 6 k ≠ 0 → k < κ 66 := fun {k} hk => tkC_s hk
  obtain ⟨k, j1, p1, C1, e1, j2, tm, C2, e2, hk, g1, g2, g3, rfl⟩ := pc_inv hq
  have kn := p_kind_n hk
  have ek : tkC κ 6 i = 20 + k := kn.2.2.2 rfl
  have hk3 := kn.2.1
  have hiN : i < κ 66 := hsz (by omega)
  obtain ⟨hS, hH, hL, hD, hW, hT, hB⟩ := hw
  -- the sum's end
  have s1 : i + 1 ≤ j1 ∧ j1 ≤ κ 66 ∧ p1 ≤ 50 := by
    unfold p_sum0 at g1
    split at g1
    · obtain ⟨a1, a2, a3, -⟩ := p_inv hc0 E00_ok _ _ _ _ _ _ _ _ _ _ _ _ _ g1 (by omega) (by omega) (by exact hiN) hp (fun h => by omega)
      exact ⟨a1, a2, a3⟩
    · cases g1
      exact ⟨Nat.le_refl _, hiN, hp⟩
  obtain ⟨j1a, j1b, p1b⟩ := s1
  have hHb : evH true (va_up (va_up (va_up f 4761 1) 4759 (iI ((2400 + κ 66 : Nat) : Int))) 4758 (iI ((2400 + i : Nat) : Int))) g κ 6 E := ⟨hm, hS, hL, hH, hB, by omega, h66, rfl, hE, hEr⟩
  -- behind the test
  have fin : ∀ (F : Nat → Int32) (fl' : Nat → Int64) (G : Nat → Nat → Int32) (s : Int), fG F f → (∀ a, a ≠ 4784 → fl' a = fl a) → gE G g → F 4758 = iI ((2400 + j2 : Nat) : Int) → F 4759 = iI ((2400 + κ 66 : Nat) : Int) → F 4761 = 1 → F 4780 = iI (tm : Int) → F 4781 = iI ((20 + k : Nat) : Int) → F 4760 = 0 → fl' 4784 = lI s → (lv = 1 → (e1 E = some s ∧ F 4782 = 1) ∨ (e1 E = none ∧ F 4782 = 0) ∨ ((k = 1 ∨ k = 3) ∧ F 4782 = 1)) → j2 ≤ κ 66 → WP X (K + 10) 179 (0, [some (.ref 74), some (.int 4), none], [], Wd F fl' G gl hh v tx) (fun rv w2 => WP X (K + 11) 246 (144, [some (.ref 74), none, some (.int (iI (lv : Int)))], rv.toList ++ [.ref 74], w2) P) := by
    intro F fl' G s hF hfl hG f58 f59 f61 f80 f81 f60 hs hsum hj2
    have hHF : evH true F G κ 6 E := hHb.cg f59 f61 (hF 4763 (by decide) (by decide) (by decide) (by decide) (by decide)) (hF 4764 (by decide) (by decide) (by decide) (by decide) (by decide)) (hG 76 (by decide))
    refine ev_pas (d := K + 9) (cc := 4) hHF (i := j2) f58 hj2 (by decide) (fun hc f' hf' f58' => ?_) fun hc => ?_
    · have hj2' : j2 < κ 66 := hsz (by omega)
      have g3' : pP (tkC κ 6) (tkV κ 6) true n 5 0 (j2 + 1) p1 (o + C1.length) 0 [] p_e0 = some (.inr (j, p', C2, e2)) := by
        unfold p_test at g3
        rw [if_pos hc] at g3
        exact g3
      refine b_m_goesAlong_144 (h := ⟨fun c => absurd c (by decide), fun _ => ?_⟩) ..
      refine ev_tst (hHF.cg (hf' _ (by decide)) (hf' _ (by decide)) (hf' _ (by decide)) (hf' _ (by decide)) rfl) g3' hj2' p1b hlv hK f58' ((hf' _ (by decide)).trans f60) fun F2 G2 r b' hF2 hG2 x58 x60 hTV => ?_
      have hFF : fG F2 f := fun a a1 a2 a3 a4 a5 => (hF2 a a1 a3).trans ((hf' a a1).trans (hF a a1 a2 a3 a4 a5))
      have hGG : gE G2 g := fun a ha => (hG2 a ha).trans (hG a ha)
      have q80 : F2 4780 = iI (tm : Int) := (hF2 _ (by decide) (by decide)).trans ((hf' _ (by decide)).trans f80)
      have q81 : F2 4781 = iI ((20 + k : Nat) : Int) := (hF2 _ (by decide) (by decide)).trans ((hf' _ (by decide)).trans f81)
      have q82 : F2 4782 = F 4782 := (hF2 _ (by decide) (by decide)).trans (hf' _ (by decide))
      have r1 := hTV.1
      have b1 := hTV.b (by omega)
      have out : ∀ x : Int32, (lv = 1 → (e2 E = some 1 ∧ x = 1) ∨ (¬ e2 E = some 1 ∧ x = 0)) → P none (Wd (va_up (va_up F2 4783 x) 4758 (F2 4758 + (1 : Int32))) fl' G2 gl hh v tx) := by
        intro x hx
        refine h _ fl' G2 s b' (fun a a1 a2 a3 a4 a5 => by rw [va_ne a1, va_ne (by omega)]; exact hFF a a1 a2 a3 a4 a5) hfl hGG ?_ ?_ ?_ hs (fun hl => ?_) fun hl => ?_
        · rw [va_s, x58]; exact i1N _
        · rw [va_ne (by decide), va_ne (by decide)]; exact q80
        · rw [va_ne (by decide), va_ne (by decide)]; exact q81
        · rw [va_ne (by decide), va_ne (by decide), q82]; exact hsum hl
        · rw [va_ne (by decide), va_s]; exact hx hl
      have e60 : (F2 4760 = 0) = (b' = 0) := by
        rw [x60, show (0 : Int32) = iI 0 from rfl, z_eq (by omega) (by omega)]
        exact propext ⟨fun a => by omega, fun a => by omega⟩
      have er : (iI ((r : Nat) : Int) = (0 : Int32)) = (r = 0) := by
        rw [show (0 : Int32) = iI 0 from rfl, z_eq (by omega) (by omega)]
        exact propext ⟨fun a => by omega, fun a => by omega⟩
      refine b_m_goesAlong_152 (h := ?_) ..
      rw [er, e60]
      have key : ∀ hl : lv = 1, (e2 E = some (r : Int) ∧ b' = 0) ∨ (e2 E = none ∧ b' = 1) := fun hl => by
        rcases hTV.2 with ⟨_, _, w1, w2⟩ | ⟨_, _, w1, w2⟩ | ⟨w1, w2⟩
        · exact Or.inl ⟨w1, w2⟩
        · exact Or.inr ⟨w1, w2⟩
        · omega
      refine ⟨fun r0 => out 0 fun hl => Or.inr ⟨fun he => ?_, rfl⟩, fun r0 => ⟨fun b0 => out 0 fun hl => Or.inr ⟨fun he => ?_, rfl⟩, fun b0 => out 1 fun hl => Or.inl ⟨?_, rfl⟩⟩⟩
      · rcases key hl with ⟨w1, w2⟩ | ⟨w1, w2⟩
        · rw [w1] at he
          have := Option.some.inj he
          omega
        · rw [w1] at he; cases he
      · rcases key hl with ⟨w1, w2⟩ | ⟨w1, w2⟩
        · exact b0 w2
        · rw [w1] at he; cases he
      · rcases key hl with ⟨w1, w2⟩ | ⟨w1, w2⟩
        · rw [w1, show r = 1 by omega]; rfl
        · omega
    · have g3' : j = j2 ∧ e2 = fun _ => some 1 := by
        unfold p_test at g3
        rw [if_neg hc] at g3
        cases g3
        exact ⟨rfl, rfl⟩
      obtain ⟨rfl, rfl⟩ := g3'
      refine b_m_goesAlong_144 (h := ⟨fun _ => ⟨fun c => absurd f60 c, fun _ => ?_⟩, fun c => absurd rfl c⟩) ..
      refine h _ fl' G s 0 (fun a a1 a2 a3 a4 a5 => by rw [va_ne a1, va_ne (by omega)]; exact hF a a1 a2 a3 a4 a5) hfl hG ?_ ?_ ?_ hs (fun hl => ?_) fun hl => Or.inl ⟨rfl, ?_⟩
      · rw [va_s, f58]; exact i1N _
      · rw [va_ne (by decide), va_ne (by decide)]; exact f80
      · rw [va_ne (by decide), va_ne (by decide)]; exact f81
      · rw [va_ne (by decide), va_ne (by decide)]; exact hsum hl
      · rw [va_ne (by decide), va_s]
  -- behind the sum
  have mid : ∀ (F : Nat → Int32) (fl' : Nat → Int64) (G : Nat → Nat → Int32) (s : Int), fG F f → (∀ a, a ≠ 4784 → fl' a = fl a) → gE G g → F 4758 = iI ((2400 + j1 : Nat) : Int) → F 4759 = iI ((2400 + κ 66 : Nat) : Int) → F 4761 = 1 → F 4780 = 1 → F 4781 = iI ((20 + k : Nat) : Int) → fl' 4784 = lI s → (lv = 1 → (e1 E = some s ∧ F 4782 = 1) ∨ (e1 E = none ∧ F 4782 = 0) ∨ ((k = 1 ∨ k = 3) ∧ F 4782 = 1)) → WP X (K + 10) 179 (0, [some (.ref 74), some (.int 24), none], [], Wd F fl' G gl hh v tx) (fun rv w2 => WP X (K + 11) 246 (103, [some (.ref 74), none, some (.int (iI (lv : Int)))], rv.toList ++ [], w2) P) := by
    intro F fl' G s hF hfl hG f58 f59 f61 f80 f81 hs hsum
    have hHF : evH true F G κ 6 E := hHb.cg f59 f61 (hF 4763 (by decide) (by decide) (by decide) (by decide) (by decide)) (hF 4764 (by decide) (by decide) (by decide) (by decide) (by decide)) (hG 76 (by decide))
    refine ev_pas (d := K + 9) (cc := 24) hHF (i := j1) f58 j1b (by decide) (fun hc f' hf' f58' => ?_) fun hc => ?_
    · have g2' : tkC κ 6 (j1 + 1) = 50 ∧ tkV κ 6 (j1 + 1) = tm ∧ j2 = j1 + 2 := by
        unfold p_times at g2
        rw [if_pos ⟨rfl, hc⟩] at g2
        split at g2
        · rename_i w
          cases g2
          exact ⟨w.1, rfl, rfl⟩
        · cases g2
      obtain ⟨w1, w2, rfl⟩ := g2'
      have hj2' : j1 + 1 < κ 66 := hsz (by omega)
      have e76 : G 76 (2867 + (2400 + (j1 + 1))) = iI (tm : Int) := by
        rw [hG 76 (by decide), hm.1 _ (by omega), ← w2]
        unfold tkV
        rw [if_pos (by exact hj2'), show 2867 + 400 * 6 + (j1 + 1) = 2867 + (2400 + (j1 + 1)) by omega]
      have tn : ((2867 : Int32) + f' 4758).toNatClampNeg = 2867 + (2400 + (j1 + 1)) := by
        rw [f58']
        simp (disch := omega) only [z_lit, z_litl, z_neg, z_negl, z_add, z_sub, z_mul, z_addl, z_subl, z_mull, z_cc, z_cl, z_cr, z_cm, z_cml, z_cmr, z_lt, z_le, z_eq, z_ltl, z_lel, z_eql, z_nat, z_i2l, z_l2i, z_div, z_sh, Int.toNat_natCast, z_ts, z_tsl]
      refine b_m_goesAlong_103 (h := ⟨fun c => absurd c (by decide), fun _ => ⟨?_, ?_⟩⟩) ..
      · rw [f58']
        simp (disch := omega) only [z_lit, z_litl, z_neg, z_negl, z_add, z_sub, z_mul, z_addl, z_subl, z_mull, z_cc, z_cl, z_cr, z_cm, z_cml, z_cmr, z_lt, z_le, z_eq, z_ltl, z_lel, z_eql, z_nat, z_i2l, z_l2i, z_div, z_sh, Int.toNat_natCast, z_ts, z_tsl]
        omega
      · rw [tn, e76, f58', i1N]
        refine fin _ fl' G s (fun a a1 a2 a3 a4 a5 => ?_) hfl hG ?_ ?_ ?_ ?_ ?_ va_s hs (fun hl => ?_) (by omega)
        · rw [va_ne a3, va_ne a1, va_ne (by omega), hf' a a1]; exact hF a a1 a2 a3 a4 a5
        · rw [va_ne (by decide), va_s]; congr 2
        · rw [va_ne (by decide), va_ne (by decide), va_ne (by decide), hf' _ (by decide)]; exact f59
        · rw [va_ne (by decide), va_ne (by decide), va_ne (by decide), hf' _ (by decide)]; exact f61
        · rw [va_ne (by decide), va_ne (by decide), va_s]
        · rw [va_ne (by decide), va_ne (by decide), va_ne (by decide), hf' _ (by decide)]; exact f81
        · rw [va_ne (by decide), va_ne (by decide), va_ne (by decide), hf' _ (by decide)]; exact hsum hl
    · have g2' : tm = 1 ∧ j2 = j1 := by
        unfold p_times at g2
        rw [if_neg fun h => hc h.2] at g2
        cases g2
        exact ⟨rfl, rfl⟩
      obtain ⟨rfl, rfl⟩ := g2'
      refine b_m_goesAlong_103 (h := ⟨fun _ => ?_, fun c => absurd rfl c⟩) ..
      refine fin _ fl' G s (fun a a1 a2 a3 a4 a5 => ?_) hfl hG ?_ ?_ ?_ ?_ ?_ va_s hs (fun hl => ?_) j1b
      · rw [va_ne a3]; exact hF a a1 a2 a3 a4 a5
      · rw [va_ne (by decide)]; exact f58
      · rw [va_ne (by decide)]; exact f59
      · rw [va_ne (by decide)]; exact f61
      · rw [va_ne (by decide)]; exact f80
      · rw [va_ne (by decide)]; exact f81
      · rw [va_ne (by decide)]; exact hsum hl
  refine b_m_goesAlong_0 (h := ?_) ..
  rw [h79]
  refine ev_cod hHb (i := i) va_s (by exact hi) ?_
  rw [ek]
  have k20 : (iI ((20 + k : Nat) : Int) = (20 : Int32)) = (k = 0) := by
    rw [show (20 : Int32) = iI 20 from rfl, z_eq (by omega) (by omega)]
    exact propext ⟨fun a => by omega, fun a => by omega⟩
  have k22 : (iI ((20 + k : Nat) : Int) = (22 : Int32)) = (k = 2) := by
    rw [show (22 : Int32) = iI 22 from rfl, z_eq (by omega) (by omega)]
    exact propext ⟨fun a => by omega, fun a => by omega⟩
  refine b_m_goesAlong_27 (h := ?_) ..
  rw [k20, k22, va_s, i1N]
  -- a sum
  have sum : p_summed true k = true → WP X (K + 10) 181 (0, [some (.ref 74), some (.int (iI (lv : Int))), none, none, none, none, none], [], Wd (va_up (va_up (va_up (va_up (va_up (va_up f 4761 1) 4759 (iI ((2400 + κ 66 : Nat) : Int))) 4758 (iI ((2400 + i : Nat) : Int))) 4781 (iI ((20 + k : Nat) : Int))) 4758 (iI ((2400 + i + 1 : Nat) : Int))) 4760 0) fl g gl hh v tx) (fun rv w2 => WP X (K + 11) 246 (69, [some (.ref 74), none, some (.int (iI (lv : Int)))], rv.toList ++ [.ref 74], w2) P) := by
    intro hsm
    have g1' : pP (tkC κ 6) (tkV κ 6) true n 2 0 (i + 1) p o 0 [] p_e0 = some (.inr (j1, p1, C1, e1)) := by
      unfold p_sum0 at g1
      rw [if_pos hsm] at g1
      exact g1
    refine ev_smt (K := K + 4) (hHb.cg (f' := va_up (va_up (va_up (va_up (va_up (va_up f 4761 1) 4759 (iI ((2400 + κ 66 : Nat) : Int))) 4758 (iI ((2400 + i : Nat) : Int))) 4781 (iI ((20 + k : Nat) : Int))) 4758 (iI ((2400 + i + 1 : Nat) : Int))) 4760 0) rfl rfl rfl rfl rfl) g1' hiN hp hlv (by omega) rfl rfl fun F2 G2 r b' hF2 hG2 x58 x60 hSV => ?_
    have hb1 := hSV.b (by omega)
    have hFb : ∀ x : Int32, fG (va_up (va_up F2 4782 x) 4780 1) f := fun x a a1 a2 a3 a4 a5 => by
      rw [va_ne (by omega), va_ne (by omega), hF2 a a1 a3, va_ne a3, va_ne a1, va_ne (by omega), va_ne a1, va_ne a2, va_ne a4]
    have go : ∀ x : Int32, (lv = 1 → (e1 E = some r ∧ x = 1) ∨ (e1 E = none ∧ x = 0) ∨ ((k = 1 ∨ k = 3) ∧ x = 1)) → WP X (K + 10) 179 (0, [some (.ref 74), some (.int 24), none], [], Wd (va_up (va_up F2 4782 x) 4780 1) (va_up fl 4784 (lI r)) G2 gl hh v tx) (fun rv w2 => WP X (K + 11) 246 (103, [some (.ref 74), none, some (.int (iI (lv : Int)))], rv.toList ++ [], w2) P) := fun x hx =>
      mid _ _ G2 r (hFb x) (fun a ha => va_ne ha) hG2 (by rw [va_ne (by decide), va_ne (by decide)]; exact x58) (by rw [va_ne (by decide), va_ne (by decide), hF2 _ (by decide) (by decide)]; rfl) (by rw [va_ne (by decide), va_ne (by decide), hF2 _ (by decide) (by decide)]; rfl) va_s (by rw [va_ne (by decide), va_ne (by decide), hF2 _ (by decide) (by decide)]; rfl) va_s fun hl => by rw [va_ne (by decide), va_s]; exact hx hl
    have e60 : (F2 4760 = 0) = (b' = 0) := by
      rw [x60, show (0 : Int32) = iI 0 from rfl, z_eq (by omega) (by omega)]
      exact propext ⟨fun a => by omega, fun a => by omega⟩
    refine b_m_goesAlong_69 (h := ?_) ..
    rw [e60]
    refine ⟨fun b0 => go 0 fun hl => ?_, fun b0 => go 1 fun hl => ?_⟩
    · rcases hSV with ⟨_, _, w1, w2⟩ | ⟨_, _, w1, _, w2⟩ | ⟨w1, _, w2⟩
      · exact absurd w2 b0
      · exact Or.inr (Or.inl ⟨w1, rfl⟩)
      · omega
    · rcases hSV with ⟨_, _, w1, w2⟩ | ⟨_, _, w1, _, w2⟩ | ⟨w1, _, w2⟩
      · exact Or.inl ⟨w1, rfl⟩
      · omega
      · omega
  refine ⟨fun k0 => sum (by subst k0; rfl), fun k0 => ⟨fun k2 => ?_, fun k2 => sum (by subst k2; rfl)⟩⟩
  have g1' : j1 = i + 1 := by
    unfold p_sum0 at g1
    rw [if_neg (by have : k = 1 ∨ k = 3 := by omega
                   rcases this with rfl | rfl <;> decide)] at g1
    cases g1
    rfl
  subst g1'
  exact mid _ _ g 0 (fun a a1 a2 a3 a4 a5 => by rw [va_ne (by omega), va_ne (by omega), va_ne a3, va_ne a1, va_ne (by omega), va_ne a1, va_ne a2, va_ne a4]) (fun a ha => va_ne ha) (fun _ _ => rfl) rfl rfl rfl va_s rfl va_s fun hl => Or.inr (Or.inr ⟨by omega, rfl⟩)
