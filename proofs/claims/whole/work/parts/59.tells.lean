/-! the reference's laws; questions -/
def clI (s hi : Int) : Int := if s < 0 then 0 else if hi < s then hi else s
def tlv (hi wo : Int) (r : Option Int) : Int := match r with | some s => clI s hi | none => wo
theorem clI_rg {s hi : Int} (h : 0 ≤ hi) : 0 ≤ clI s hi ∧ clI s hi ≤ hi := by
  unfold clI
  repeat' split
  all_goals omega
theorem ev_tells {X : mm_X} {f : Nat → Int32} {fl : Nat → Int64} {g : Nat → Nat → Int32} {gl : Nat → Nat → Int64} {hh : Nat → Nat → Option Nat} {v : Nat → Value} {tx : mm_W} {P : Option Value → mm_W → Prop} {κ : Nat → Nat} {t : Nat} {E : pE} (hH : evH false f g κ t E) {k n K : Nat} {hi wo : Int} (hK : 64 ≤ K) (hk : k ≤ 2) (hhi : 0 ≤ hi ∧ hi ≤ 1000) (hwo : 0 ≤ wo ∧ wo ≤ 1000) : ∀ (m i p o : Nat) (cs : List pC) (r : Option Int) (bk : Nat) (a : Nat → Int32), p_text (tkC κ t) (tkV κ t) false n (κ (60 + t)) m i p o = some (.inr cs) → i ≤ κ (60 + t) → p ≤ 50 → p_num r → (∀ i b a, P (some (.int (iI (tlv hi wo (lwT E k cs r))))) (Wd (va_up (va_up f 4758 (iI ((400 * t + (i) : Nat) : Int))) 4760 (iI ((b : Nat) : Int))) fl (va_up g 87 a) gl hh v tx)) → WP X (K + 11) 190 (61, [some (.ref 74), some (.int (iI ((k + 1 : Nat) : Int))), some (.int (iI hi)), none, some (.long (lI (tlv hi wo r))), none, none, none, none, none, none], [], (Wd (va_up (va_up f 4758 (iI ((400 * t + (i) : Nat) : Int))) 4760 (iI ((bk : Nat) : Int))) fl (va_up g 87 a) gl hh v tx)) P := by
  have hH' := hH
  obtain ⟨hm, hwS, hwL, hwH, hB, ht, hsz, hend, hev, hE⟩ := hH'
  have hc0 : ∀ i, κ (60 + t) ≤ i → tkC κ t i = 0 := fun i hi => tkC_0 hi
  have v59 : ∀ x y : Int32, (va_up (va_up f 4758 x) 4760 y) 4759 = iI ((400 * t + κ (60 + t) : Nat) : Int) := fun x y => by rw [va_ne (by decide), va_ne (by decide)]; exact hend
  have v58 : ∀ x y : Int32, (va_up (va_up f 4758 x) 4760 y) 4758 = x := fun x y => by rw [va_ne (by decide), va_s]
  have v60 : ∀ x y : Int32, (va_up (va_up f 4758 x) 4760 y) 4760 = y := fun x y => va_s
  have e1 : ∀ i, iI ((400 * t + i : Nat) : Int) + (1 : Int32) = iI ((400 * t + (i + 1) : Nat) : Int) := fun i => by simp (disch := omega) only [z_lit, z_litl, z_neg, z_negl, z_add, z_sub, z_mul, z_addl, z_subl, z_mull, z_cc, z_cl, z_cr, z_cm, z_cml, z_cmr, z_lt, z_le, z_eq, z_ltl, z_lel, z_eql, z_nat, z_i2l, z_l2i, z_div, z_sh, Int.toNat_natCast, z_ts, z_tsl]; rfl
  have trg : ∀ r : Option Int, 0 ≤ tlv hi wo r ∧ tlv hi wo r ≤ 1000 := by
    intro r
    unfold tlv
    split
    · rename_i s
      have := clI_rg (s := s) hhi.1
      omega
    · exact hwo
  intro m
  induction m with
  | zero => intro i p o cs r bk a h; cases h
  | succ m ih =>
    intro i p o cs r bk a h hi2 hp hr hP
    obtain ⟨j, p', q, h1, h2⟩ := pt_inv h
    obtain ⟨b1, b2, b3, b4, b5, b6⟩ := pc_ok hc0 hi2 hp h1
    obtain ⟨kk, j1, p1, C1, e1', j2, tm, C2, e2, hkk, g1, g2, g3, hq⟩ := pc_inv h1
    obtain ⟨k1, k2, k3, -⟩ := p_kind_n hkk
    obtain ⟨k3, k4⟩ := k3 rfl
    have hlt := tkC_s (i := i) (t := t) (κ := κ) k1
    have ej2 : j2 = j1 := by
      unfold p_times at g2
      rw [if_neg (fun h => absurd h.1 (by decide))] at g2
      cases g2
      rfl
    subst ej2
    -- behind a clause
    have next : ∀ (b : Nat) (a : Nat → Int32), WP X (K + 11) 190 (61, [some (.ref 74), some (.int (iI ((k + 1 : Nat) : Int))), some (.int (iI hi)), none, some (.long (lI (tlv hi wo (lwS E k q r)))), none, none, none, none, none, none], [], (Wd (va_up (va_up f 4758 (iI ((400 * t + (j + 1) : Nat) : Int))) 4760 (iI ((b : Nat) : Int))) fl (va_up g 87 a) gl hh v tx)) P := by
      intro b a
      rcases h2 with ⟨c1, qs, h2, rfl⟩ | ⟨c1, c2, rfl⟩
      · have := tkC_s (i := j) (t := t) (κ := κ) (by omega)
        refine ih _ _ _ _ _ _ _ h2 (by omega) b3 ?_ hP
        unfold lwS
        split
        · split
          · rename_i s hs
            intro y hy
            cases hy
            exact (pcX_rg (Or.inl rfl) hc0 hE b4).1 s hs
          · exact hr
        · exact hr
      · refine b_m_tells_61 (h := ?_) ..
        rw [v58, v59, z_l2i]
        refine ⟨fun _ => hP _ _ _, fun c => absurd (by simp (disch := omega) only [z_lit, z_litl, z_neg, z_negl, z_add, z_sub, z_mul, z_addl, z_subl, z_mull, z_cc, z_cl, z_cr, z_cm, z_cml, z_cmr, z_lt, z_le, z_eq, z_ltl, z_lel, z_eql, z_nat, z_i2l, z_l2i, z_div, z_sh, Int.toNat_natCast, z_ts, z_tsl]; omega) c⟩
    have at146 : ∀ (s : Int) (bs x bt : Nat) (a : Nat → Int32), SV 1 0 (e1' E) s bs → TV 1 0 (e2 E) x bt → WP X (K + 11) 190 (146, [some (.ref 74), some (.int (iI ((k + 1 : Nat) : Int))), some (.int (iI hi)), none, some (.long (lI (tlv hi wo r))), none, some (.int (iI ((kk + 1 : Nat) : Int))), some (.long (lI s)), none, some (.int (iI (bs : Int))), none], [.int (iI (x : Int))], (Wd (va_up (va_up f 4758 (iI ((400 * t + (j) : Nat) : Int))) 4760 (iI ((bt : Nat) : Int))) fl (va_up g 87 a) gl hh v tx)) P := by
      intro s bs x bt a hs hx
      have hb4 : pcX (tkC κ t) (tkV κ t) false (κ (60 + t)) 2 o C1 e1' := by rw [hq] at b4; exact b4
      have hsr := hs.rg (pcX_rg (Or.inl rfl) hc0 hE hb4).1
      have hx1 := hx.1
      have hbs := hs.b (by omega)
      have hbt := hx.b (by omega)
      have nx := next bt a
      rw [hq] at nx
      have keep : ¬ (kk = k ∧ e2 E = some 1 ∧ ∃ y, e1' E = some y) → WP X (K + 11) 190 (61, [some (.ref 74), some (.int (iI ((k + 1 : Nat) : Int))), some (.int (iI hi)), none, some (.long (lI (tlv hi wo r))), none, none, none, none, none, none], [], (Wd (va_up (va_up f 4758 (iI ((400 * t + (j + 1) : Nat) : Int))) 4760 (iI ((bt : Nat) : Int))) fl (va_up g 87 a) gl hh v tx)) P := by
        intro hn
        have e : lwS E k (kk, tm, C1, C2, e1', e2) r = r := by
          unfold lwS
          split
          · rename_i c
            split
            · rename_i y hy
              exact absurd ⟨c.1, c.2, y, hy⟩ hn
            · rfl
          · rfl
        rw [e] at nx
        exact nx
      have told : kk = k → x = 1 → bt = 0 → bs = 0 → ∀ z : Int, z = clI s hi → WP X (K + 11) 190 (61, [some (.ref 74), some (.int (iI ((k + 1 : Nat) : Int))), some (.int (iI hi)), none, some (.long (lI z)), none, none, none, none, none, none], [], (Wd (va_up (va_up f 4758 (iI ((400 * t + (j + 1) : Nat) : Int))) 4760 (iI ((bt : Nat) : Int))) fl (va_up g 87 a) gl hh v tx)) P := by
        intro c1 c2 c3 c4 z hz
        have hs1 : e1' E = some s := by
          rcases hs with ⟨_, _, h, _⟩ | ⟨_, _, _, _, h⟩ | ⟨h, _⟩
          · exact h
          · omega
          · omega
        have hx2 : e2 E = some 1 := by
          rcases hx with ⟨_, ⟨_, _, h, _⟩ | ⟨_, _, _, h⟩ | ⟨h, _⟩⟩
          · rw [h, c2]; rfl
          · omega
          · omega
        have e : lwS E k (kk, tm, C1, C2, e1', e2) r = some s := by
          unfold lwS
          rw [if_pos ⟨c1, hx2⟩]
          show (match e1' E with | some s => some s | none => r) = some s
          rw [hs1]
        rw [e] at nx
        rw [hz]
        exact nx
      refine b_m_tells_146 (h := ?_) ..
      rw [v58, v60, e1, z_i2l (by omega)]
      simp (disch := omega) only [z_lit, z_litl, z_neg, z_negl, z_add, z_sub, z_mul, z_addl, z_subl, z_mull, z_cc, z_cl, z_cr, z_cm, z_cml, z_cmr, z_lt, z_le, z_eq, z_ltl, z_lel, z_eql, z_nat, z_i2l, z_l2i, z_div, z_sh, Int.toNat_natCast, z_ts, z_tsl, zc_lt, zc_le, zc_gt, zc_ge, zc_eq]
      simp (disch := decide) only [va_cm, va_tw]
      refine ⟨fun c => keep fun h => absurd h.1 (by omega), fun c => ⟨fun c2 => keep ?_, fun c2 => ⟨fun c3 => keep ?_, fun c3 => ⟨fun c4 => keep ?_, fun c4 => ⟨fun c5 => ⟨fun c6 => told (by omega) (by omega) (by omega) (by omega) s ?_, fun c6 => told (by omega) (by omega) (by omega) (by omega) hi ?_⟩, fun c5 => told (by omega) (by omega) (by omega) (by omega) 0 ?_⟩⟩⟩⟩⟩
      · rintro ⟨_, h, _⟩
        rcases hx with ⟨_, ⟨_, _, h3, _⟩ | ⟨_, _, h3, _⟩ | ⟨h3, _⟩⟩
        · have := Option.some.inj (h.symm.trans h3); omega
        · rw [h] at h3; cases h3
        · omega
      · rintro ⟨_, h, _⟩
        rcases hx with ⟨_, ⟨_, _, _, h3⟩ | ⟨_, _, h3, _⟩ | ⟨h3, _⟩⟩
        · omega
        · rw [h] at h3; cases h3
        · omega
      · rintro ⟨_, _, y, h⟩
        rcases hs with ⟨_, _, _, h3⟩ | ⟨_, _, h3, _, _⟩ | ⟨h3, _⟩
        · omega
        · rw [h] at h3; cases h3
        · omega
      · unfold clI; rw [if_neg (by omega), if_neg (by omega)]
      · unfold clI; rw [if_neg (by omega), if_pos (by omega)]
      · unfold clI; rw [if_pos (by omega)]
    have hj1 : i + 1 ≤ j2 ∧ j2 ≤ κ (60 + t) ∧ p1 ≤ 50 := by
      unfold p_sum0 at g1
      split at g1
      · obtain ⟨g1, g2, g3, -⟩ := p_inv hc0 hE _ _ _ _ _ _ _ _ _ _ _ _ _ g1 (by omega) (by omega) (by omega) hp (fun h => by omega)
        exact ⟨g1, g2, g3⟩
      · cases g1
        omega
    have at112 : ∀ (s : Int) (bs : Nat) (a : Nat → Int32), SV 1 0 (e1' E) s bs → WP X (K + 11) 190 (112, [some (.ref 74), some (.int (iI ((k + 1 : Nat) : Int))), some (.int (iI hi)), none, some (.long (lI (tlv hi wo r))), none, some (.int (iI ((kk + 1 : Nat) : Int))), none, none, none, none], [.long (lI s)], (Wd (va_up (va_up f 4758 (iI ((400 * t + (j2) : Nat) : Int))) 4760 (iI ((bs : Nat) : Int))) fl (va_up g 87 a) gl hh v tx)) P := by
      intro s bs a hs
      have hbs := hs.b (by omega)
      refine b_m_tells_112 (h := ?_) ..
      rw [v60, va_tw]
      have to141 : ∀ (x bt : Nat) (a : Nat → Int32), x = 1 → TV 1 0 (e2 E) x bt → WP X (K + 11) 190 (141, [some (.ref 74), some (.int (iI ((k + 1 : Nat) : Int))), some (.int (iI hi)), none, some (.long (lI (tlv hi wo r))), none, some (.int (iI ((kk + 1 : Nat) : Int))), some (.long (lI s)), none, some (.int (iI (bs : Int))), none], [], (Wd (va_up (va_up f 4758 (iI ((400 * t + (j) : Nat) : Int))) 4760 (iI ((bt : Nat) : Int))) fl (va_up g 87 a) gl hh v tx)) P := by
        intro x bt a hx1 hx
        subst hx1
        refine b_m_tells_141 (h := ?_) ..
        exact at146 s bs 1 bt a hs hx
      unfold p_test at g3
      split at g3
      · rename_i c4
        have hlt2 := tkC_s (i := j2) (t := t) (κ := κ) (by omega)
        refine ev_pass (d := K + 9) (bk := 0) hH hj1.2.1 (cc := 4) (by omega) (fun _ => ?_) fun c => absurd c4 c
        refine b_m_tells_130 (h := ?_) ..
        refine ⟨fun c => absurd c (by decide), fun _ => ?_⟩
        refine ev_all hH n _ _ _ _ _ _ _ _ _ _ _ _ g3 (by omega) (by omega) (by omega) (by omega) hj1.2.2 (fun h => by omega) 1 0 a K _ (by omega) (by omega) (by omega) fun x bt a' hx => ?_
        have hx1 := hx.1
        refine b_m_tells_138 (h := ?_) ..
        simp (disch := omega) only [z_lit, z_litl, z_neg, z_negl, z_add, z_sub, z_mul, z_addl, z_subl, z_mull, z_cc, z_cl, z_cr, z_cm, z_cml, z_cmr, z_lt, z_le, z_eq, z_ltl, z_lel, z_eql, z_nat, z_i2l, z_l2i, z_div, z_sh, Int.toNat_natCast, z_ts, z_tsl]
        refine ⟨fun c => ?_, fun c => to141 x bt a' (by omega) hx⟩
        have e0 : x = 0 := by omega
        subst e0
        exact at146 s bs 0 bt a' hs hx
      · rename_i c4
        cases g3
        refine ev_pass (d := K + 9) (bk := 0) hH hj1.2.1 (cc := 4) (by omega) (fun c => absurd c c4) fun _ => ?_
        refine b_m_tells_130 (h := ?_) ..
        refine ⟨fun _ => ?_, fun c => absurd rfl c⟩
        exact to141 1 0 a rfl ⟨by omega, Or.inl ⟨rfl, rfl, rfl, rfl⟩⟩
    refine b_m_tells_61 (h := ?_) ..
    rw [v58, v59]
    refine ⟨fun c => by simp (disch := omega) only [z_lit, z_litl, z_neg, z_negl, z_add, z_sub, z_mul, z_addl, z_subl, z_mull, z_cc, z_cl, z_cr, z_cm, z_cml, z_cmr, z_lt, z_le, z_eq, z_ltl, z_lel, z_eql, z_nat, z_i2l, z_l2i, z_div, z_sh, Int.toNat_natCast, z_ts, z_tsl] at c; omega, fun _ => ?_⟩
    refine ev_code hH hi2 ?_
    refine b_m_tells_80 (h := ?_) ..
    rw [v58, e1]
    simp (disch := decide) only [va_cm, va_tw]
    rw [k4]
    unfold p_sum0 at g1
    split at g1
    · rename_i hsm
      have hk2 : kk ≠ 2 := by
        rintro rfl
        exact absurd hsm (by decide)
      refine ⟨fun _ => ?_, fun c => by simp (disch := omega) only [z_lit, z_litl, z_neg, z_negl, z_add, z_sub, z_mul, z_addl, z_subl, z_mull, z_cc, z_cl, z_cr, z_cm, z_cml, z_cmr, z_lt, z_le, z_eq, z_ltl, z_lel, z_eql, z_nat, z_i2l, z_l2i, z_div, z_sh, Int.toNat_natCast, z_ts, z_tsl] at c; omega⟩
      exact ev_all hH n _ _ _ _ _ _ _ _ _ _ _ _ g1 (by omega) (by omega) (by omega) (by omega) hp (fun h => by omega) 1 0 a (K + 4) _ (by omega) (by omega) (by omega) fun s bs a' hs => at112 s bs a' hs
    · rename_i hsm
      cases g1
      have hk2 : kk = 2 := by
        have : kk = 0 ∨ kk = 1 ∨ kk = 2 := by omega
        rcases this with rfl | rfl | rfl
        · exact absurd rfl hsm
        · exact absurd rfl hsm
        · rfl
      refine ⟨fun c => by simp (disch := omega) only [z_lit, z_litl, z_neg, z_negl, z_add, z_sub, z_mul, z_addl, z_subl, z_mull, z_cc, z_cl, z_cr, z_cm, z_cml, z_cmr, z_lt, z_le, z_eq, z_ltl, z_lel, z_eql, z_nat, z_i2l, z_l2i, z_div, z_sh, Int.toNat_natCast, z_ts, z_tsl] at c; omega, fun _ => ?_⟩
      exact at112 1 0 a (Or.inl ⟨rfl, rfl, rfl, rfl⟩)
/-- the law asked by: none, or law F - 1 with these clauses -/
def rfX (κ : Nat → Nat) (F : Nat) (cs : List pC) : Prop := (F = 0 ∧ cs = []) ∨ ∃ t n, F = t + 1 ∧ t < 6 ∧ κ (60 + t) ≤ 400 ∧ p_text (tkC κ t) (tkV κ t) false n (κ (60 + t)) 12 0 0 0 = some (.inr cs)
theorem z_nex (x : Int32) : ∃ n : Nat, x = iI (n : Int) := by
  obtain ⟨a, ha, rfl⟩ := z_ex x
  by_cases c : 0 ≤ a
  · exact ⟨a.toNat, by congr 1; omega⟩
  · refine ⟨(a + 4294967296).toNat, ?_⟩
    rw [Int.toNat_of_nonneg (by omega), ← z_add, show iI 4294967296 = 0 from by decide, Int32.add_zero]
theorem c_m_tells {X : mm_X} {f : Nat → Int32} {fl : Nat → Int64} {g : Nat → Nat → Int32} {gl : Nat → Nat → Int64} {hh : Nat → Nat → Option Nat} {v : Nat → Value} {tx : mm_W} {P : Option Value → mm_W → Prop} {κ : Nat → Nat} {cs : List pC} (hm : ms (g 76) κ) (hwS : wS κ) (hwL : wL κ) (hwH : wH κ) (hB : wB κ) (hR : rfX κ (κ 59) cs) {E : pE} {k K : Nat} {hi wo : Int} (hK : 64 ≤ K) (hk : k ≤ 2) (hhi : 0 ≤ hi ∧ hi ≤ 1000) (hwo : 0 ≤ wo ∧ wo ≤ 1000) (hE : ∀ w, -2147483648 ≤ E w ∧ E w < 2147483648) (hA : ∀ c w, p_word false c = some w → g 86 (c - 8) = iI (E w))
    (h : ∀ x y z u a, P (some (.int (iI (tlv hi wo (lwT E k cs none))))) (Wd (va_up (va_up (va_up (va_up f 4758 x) 4759 y) 4760 z) 4761 u) fl (va_up g 87 a) gl hh v tx)) : WP X (K + 11) 190 (0, [some (.ref 74), some (.int (iI ((k + 1 : Nat) : Int))), some (.int (iI hi)), some (.int (iI wo)), none, none, none, none, none, none, none], [], Wd f fl g gl hh v tx) P := by
  have e59 := hm.2
  refine b_m_tells_0 (h := ?_) ..
  rw [e59]
  rcases hR with ⟨h0, rfl⟩ | ⟨t, n, hF, ht, hsz, hp⟩
  · refine ⟨fun c => absurd (by rw [h0]; rfl) c, fun _ => ?_⟩
    have := h (f 4758) (f 4759) (f 4760) (f 4761) (g 87)
    rw [va_id (f := f) rfl, va_id (f := f) rfl, va_id (f := f) rfl, va_id (f := f) rfl, va_id (f := g) rfl] at this
    exact this
  · have e60 := hm.1 (60 + t) (by omega)
    have hsz2 := hB (60 + t)
    rw [hF, show ((t + 1 : Nat) : Int) - 1 = (t : Int) by omega, z_i2l (by omega)]
    simp (disch := omega) only [z_lit, z_litl, z_neg, z_negl, z_add, z_sub, z_mul, z_addl, z_subl, z_mull, z_cc, z_cl, z_cr, z_cm, z_cml, z_cmr, z_lt, z_le, z_eq, z_ltl, z_lel, z_eql, z_nat, z_i2l, z_l2i, z_div, z_sh, Int.toNat_natCast, z_ts, z_tsl, e60]
    refine ⟨fun _ => ⟨by omega, ?_⟩, fun c => by omega⟩
    have hH : evH false (va_up (va_up f 4759 (iI ((400 * t + κ (60 + t) : Nat) : Int))) 4761 (iI 0)) g κ t E := by
      refine ⟨hm, hwS, hwL, hwH, hB, by omega, hsz, ?_, ⟨?_, hA⟩, hE⟩
      · rw [va_ne (by decide), va_s]
      · rw [va_s]
    obtain ⟨bk, hbk⟩ := z_nex (f 4760)
    have q := ev_tells (X := X) (fl := fl) (gl := gl) (hh := hh) (v := v) (tx := tx) (P := P) (K := K) (k := k) (n := n) (hi := hi) (wo := wo) hH hK hk hhi hwo 12 0 0 0 cs none bk (g 87) hp (by omega) (by omega) (fun y hy => by cases hy) (fun i b a => by
      simp (disch := decide) only [va_cm, va_tw]
      exact h _ _ _ _ _)
    rw [va_id (f := g) rfl] at q
    rw [← hbk] at q
    simp (disch := decide) only [va_cm] at q ⊢
    rw [va_id (f := va_up (va_up f 4758 _) 4759 _) (k := 4760) (by rw [va_ne (by decide), va_ne (by decide)])] at q
    exact q
